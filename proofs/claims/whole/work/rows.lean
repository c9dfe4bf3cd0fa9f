section
-- ===== PART A: goes FIRST, ahead of the names: the tables' words, and 'selects' of the private methods out of them =====
/-- a private method of a class that the tables say can be made, by its rows of tables_1 -/
def lw_okq (q : MethodName × Nat) : Prop := (q.1.cls ≠ "java/lang/invoke/MethodHandle" ∧ q.1.cls ≠ "java/lang/invoke/VarHandle") ∧ Cond.instantiable q.1.cls q.2 ∈ tables_1 ∧ Cond.privateMethod q.1 ∈ tables_1 ∧ Cond.instanceMethod q.1 ∈ tables_1
theorem lw_p0 : lw_okq (⟨"OrderedDesk$Entries", "isAt", "(II)Z"⟩, 3) := ⟨⟨by decide +kernel, by decide +kernel⟩, List.mem_of_getElem? (i := 17) (by decide +kernel), List.mem_of_getElem? (i := 80) (by decide +kernel), List.mem_of_getElem? (i := 81) (by decide +kernel)⟩
theorem lw_p1 : lw_okq (⟨"OrderedDesk$Entries", "insert", "(III)V"⟩, 3) := ⟨⟨by decide +kernel, by decide +kernel⟩, List.mem_of_getElem? (i := 17) (by decide +kernel), List.mem_of_getElem? (i := 84) (by decide +kernel), List.mem_of_getElem? (i := 85) (by decide +kernel)⟩
theorem lw_p2 : lw_okq (⟨"OrderedDesk", "keyNear", "(IIII)J"⟩, 4) := ⟨⟨by decide +kernel, by decide +kernel⟩, List.mem_of_getElem? (i := 9) (by decide +kernel), List.mem_of_getElem? (i := 137) (by decide +kernel), List.mem_of_getElem? (i := 138) (by decide +kernel)⟩
theorem lw_p3 : lw_okq (⟨"OrderedDesk", "keyWithin", "(III)J"⟩, 4) := ⟨⟨by decide +kernel, by decide +kernel⟩, List.mem_of_getElem? (i := 9) (by decide +kernel), List.mem_of_getElem? (i := 145) (by decide +kernel), List.mem_of_getElem? (i := 146) (by decide +kernel)⟩
theorem lw_p4 : lw_okq (⟨"OrderedDesk", "pollWithin", "(ZII)J"⟩, 4) := ⟨⟨by decide +kernel, by decide +kernel⟩, List.mem_of_getElem? (i := 9) (by decide +kernel), List.mem_of_getElem? (i := 160) (by decide +kernel), List.mem_of_getElem? (i := 161) (by decide +kernel)⟩
theorem lw_p5 : lw_okq (⟨"OrderedDesk$Range", "mayEndAt", "(JZ)Z"⟩, 4) := ⟨⟨by decide +kernel, by decide +kernel⟩, List.mem_of_getElem? (i := 34) (by decide +kernel), List.mem_of_getElem? (i := 181) (by decide +kernel), List.mem_of_getElem? (i := 182) (by decide +kernel)⟩
theorem lw_p6 : lw_okq (⟨"OrderedDesk$Range", "withEnd", "(ZJZ)LOrderedDesk$Range;"⟩, 4) := ⟨⟨by decide +kernel, by decide +kernel⟩, List.mem_of_getElem? (i := 34) (by decide +kernel), List.mem_of_getElem? (i := 197) (by decide +kernel), List.mem_of_getElem? (i := 198) (by decide +kernel)⟩
theorem lw_p7 : lw_okq (⟨"OrderedDesk", "viewEnd", "()I"⟩, 4) := ⟨⟨by decide +kernel, by decide +kernel⟩, List.mem_of_getElem? (i := 9) (by decide +kernel), List.mem_of_getElem? (i := 215) (by decide +kernel), List.mem_of_getElem? (i := 216) (by decide +kernel)⟩
theorem lw_p8 : lw_okq (⟨"OrderedDesk", "viewBegin", "()I"⟩, 4) := ⟨⟨by decide +kernel, by decide +kernel⟩, List.mem_of_getElem? (i := 9) (by decide +kernel), List.mem_of_getElem? (i := 219) (by decide +kernel), List.mem_of_getElem? (i := 220) (by decide +kernel)⟩
theorem lw_p9 : lw_okq (⟨"OrderedDeskModel", "placeOf", "(I)I"⟩, 10) := ⟨⟨by decide +kernel, by decide +kernel⟩, List.mem_of_getElem? (i := 272) (by decide +kernel), List.mem_of_getElem? (i := 313) (by decide +kernel), List.mem_of_getElem? (i := 314) (by decide +kernel)⟩
theorem lw_p10 : lw_okq (⟨"OrderedDeskModel", "isAt", "(II)Z"⟩, 10) := ⟨⟨by decide +kernel, by decide +kernel⟩, List.mem_of_getElem? (i := 272) (by decide +kernel), List.mem_of_getElem? (i := 317) (by decide +kernel), List.mem_of_getElem? (i := 318) (by decide +kernel)⟩
theorem lw_p11 : lw_okq (⟨"OrderedDeskModel", "insert", "(III)V"⟩, 10) := ⟨⟨by decide +kernel, by decide +kernel⟩, List.mem_of_getElem? (i := 272) (by decide +kernel), List.mem_of_getElem? (i := 321) (by decide +kernel), List.mem_of_getElem? (i := 322) (by decide +kernel)⟩
theorem lw_p12 : lw_okq (⟨"OrderedDeskModel", "delete", "(I)V"⟩, 10) := ⟨⟨by decide +kernel, by decide +kernel⟩, List.mem_of_getElem? (i := 272) (by decide +kernel), List.mem_of_getElem? (i := 352) (by decide +kernel), List.mem_of_getElem? (i := 353) (by decide +kernel)⟩
theorem lw_p13 : lw_okq (⟨"OrderedDeskModel", "near", "(IIII)J"⟩, 10) := ⟨⟨by decide +kernel, by decide +kernel⟩, List.mem_of_getElem? (i := 272) (by decide +kernel), List.mem_of_getElem? (i := 364) (by decide +kernel), List.mem_of_getElem? (i := 365) (by decide +kernel)⟩
theorem lw_p14 : lw_okq (⟨"OrderedDeskModel", "keyAt", "(III)J"⟩, 10) := ⟨⟨by decide +kernel, by decide +kernel⟩, List.mem_of_getElem? (i := 272) (by decide +kernel), List.mem_of_getElem? (i := 368) (by decide +kernel), List.mem_of_getElem? (i := 369) (by decide +kernel)⟩
theorem lw_p15 : lw_okq (⟨"OrderedDeskModel", "all", "()V"⟩, 10) := ⟨⟨by decide +kernel, by decide +kernel⟩, List.mem_of_getElem? (i := 272) (by decide +kernel), List.mem_of_getElem? (i := 388) (by decide +kernel), List.mem_of_getElem? (i := 389) (by decide +kernel)⟩
def lw_privs_1 : List (MethodName × Nat) := [(⟨"OrderedDesk$Entries", "isAt", "(II)Z"⟩, 3), (⟨"OrderedDesk$Entries", "insert", "(III)V"⟩, 3), (⟨"OrderedDesk", "keyNear", "(IIII)J"⟩, 4), (⟨"OrderedDesk", "keyWithin", "(III)J"⟩, 4), (⟨"OrderedDesk", "pollWithin", "(ZII)J"⟩, 4), (⟨"OrderedDesk$Range", "mayEndAt", "(JZ)Z"⟩, 4), (⟨"OrderedDesk$Range", "withEnd", "(ZJZ)LOrderedDesk$Range;"⟩, 4), (⟨"OrderedDesk", "viewEnd", "()I"⟩, 4), (⟨"OrderedDesk", "viewBegin", "()I"⟩, 4), (⟨"OrderedDeskModel", "placeOf", "(I)I"⟩, 10), (⟨"OrderedDeskModel", "isAt", "(II)Z"⟩, 10), (⟨"OrderedDeskModel", "insert", "(III)V"⟩, 10), (⟨"OrderedDeskModel", "delete", "(I)V"⟩, 10), (⟨"OrderedDeskModel", "near", "(IIII)J"⟩, 10), (⟨"OrderedDeskModel", "keyAt", "(III)J"⟩, 10), (⟨"OrderedDeskModel", "all", "()V"⟩, 10)]
theorem lw_r1 : ∀ q ∈ lw_privs_1, lw_okq q := List.forall_mem_cons.mpr ⟨lw_p0, List.forall_mem_cons.mpr ⟨lw_p1, List.forall_mem_cons.mpr ⟨lw_p2, List.forall_mem_cons.mpr ⟨lw_p3, List.forall_mem_cons.mpr ⟨lw_p4, List.forall_mem_cons.mpr ⟨lw_p5, List.forall_mem_cons.mpr ⟨lw_p6, List.forall_mem_cons.mpr ⟨lw_p7, List.forall_mem_cons.mpr ⟨lw_p8, List.forall_mem_cons.mpr ⟨lw_p9, List.forall_mem_cons.mpr ⟨lw_p10, List.forall_mem_cons.mpr ⟨lw_p11, List.forall_mem_cons.mpr ⟨lw_p12, List.forall_mem_cons.mpr ⟨lw_p13, List.forall_mem_cons.mpr ⟨lw_p14, List.forall_mem_cons.mpr ⟨lw_p15, fun _ h => absurd h List.not_mem_nil⟩⟩⟩⟩⟩⟩⟩⟩⟩⟩⟩⟩⟩⟩⟩⟩
theorem lw_p16 : lw_okq (⟨"OrderedDeskModel", "begin", "(IZ)V"⟩, 10) := ⟨⟨by decide +kernel, by decide +kernel⟩, List.mem_of_getElem? (i := 272) (by decide +kernel), List.mem_of_getElem? (i := 392) (by decide +kernel), List.mem_of_getElem? (i := 393) (by decide +kernel)⟩
theorem lw_p17 : lw_okq (⟨"OrderedDeskModel", "end", "(IZ)V"⟩, 10) := ⟨⟨by decide +kernel, by decide +kernel⟩, List.mem_of_getElem? (i := 272) (by decide +kernel), List.mem_of_getElem? (i := 396) (by decide +kernel), List.mem_of_getElem? (i := 397) (by decide +kernel)⟩
theorem lw_p18 : lw_okq (⟨"OrderedDeskModel", "mayEnd", "(IZ)Z"⟩, 10) := ⟨⟨by decide +kernel, by decide +kernel⟩, List.mem_of_getElem? (i := 272) (by decide +kernel), List.mem_of_getElem? (i := 404) (by decide +kernel), List.mem_of_getElem? (i := 405) (by decide +kernel)⟩
theorem lw_p19 : lw_okq (⟨"OrderedDeskModel", "isIn", "(I)Z"⟩, 10) := ⟨⟨by decide +kernel, by decide +kernel⟩, List.mem_of_getElem? (i := 272) (by decide +kernel), List.mem_of_getElem? (i := 408) (by decide +kernel), List.mem_of_getElem? (i := 409) (by decide +kernel)⟩
theorem lw_p20 : lw_okq (⟨"OrderedDeskModel", "behind", "()I"⟩, 10) := ⟨⟨by decide +kernel, by decide +kernel⟩, List.mem_of_getElem? (i := 272) (by decide +kernel), List.mem_of_getElem? (i := 420) (by decide +kernel), List.mem_of_getElem? (i := 421) (by decide +kernel)⟩
theorem lw_p21 : lw_okq (⟨"OrderedDeskModel", "first", "()I"⟩, 10) := ⟨⟨by decide +kernel, by decide +kernel⟩, List.mem_of_getElem? (i := 272) (by decide +kernel), List.mem_of_getElem? (i := 424) (by decide +kernel), List.mem_of_getElem? (i := 425) (by decide +kernel)⟩
def lw_privs_2 : List (MethodName × Nat) := [(⟨"OrderedDeskModel", "begin", "(IZ)V"⟩, 10), (⟨"OrderedDeskModel", "end", "(IZ)V"⟩, 10), (⟨"OrderedDeskModel", "mayEnd", "(IZ)Z"⟩, 10), (⟨"OrderedDeskModel", "isIn", "(I)Z"⟩, 10), (⟨"OrderedDeskModel", "behind", "()I"⟩, 10), (⟨"OrderedDeskModel", "first", "()I"⟩, 10)]
theorem lw_r2 : ∀ q ∈ lw_privs_2, lw_okq q := List.forall_mem_cons.mpr ⟨lw_p16, List.forall_mem_cons.mpr ⟨lw_p17, List.forall_mem_cons.mpr ⟨lw_p18, List.forall_mem_cons.mpr ⟨lw_p19, List.forall_mem_cons.mpr ⟨lw_p20, List.forall_mem_cons.mpr ⟨lw_p21, fun _ h => absurd h List.not_mem_nil⟩⟩⟩⟩⟩⟩
def lw_privs : List (MethodName × Nat) := lw_privs_1 ++ (lw_privs_2)
def lw_tbl : List Cond := k2_sels lw_privs ++ tables_1
theorem lw_privs_ok : ∀ q ∈ lw_privs, lw_okq q := by
  show ∀ q ∈ lw_privs_1 ++ (lw_privs_2), lw_okq q
  exact List.forall_mem_append.mpr ⟨lw_r1, lw_r2⟩
end
section
/-! ===== BEGIN words of one list among another's, by their places ===== -/
theorem goodIn_r {big : List Cond} (ws : List Cond) (ps : List Nat) (hp : ws = ps.filterMap (fun i => big[i]?)) (h : ws.all goodWord = true) : GoodIn big ws := by
  intro w hw
  have h1 := List.all_eq_true.mp h w hw
  rw [hp] at hw
  obtain ⟨i, -, hi⟩ := List.mem_filterMap.mp hw
  have hm : w ∈ big := by first | exact List.mem_of_getElem? hi | exact List.getElem?_mem hi
  exact ⟨hm, good_of_word h1⟩
theorem goodIn_app {big a b : List Cond} (ha : GoodIn big a) (hb : GoodIn big b) : GoodIn big (a ++ b) := fun w h => (List.mem_append.mp h).elim (ha w) (hb w)
theorem goodIn_ca {big a b : List Cond} {c : Cond} (ha : GoodIn big (c :: a)) (hb : GoodIn big b) : GoodIn big (c :: (a ++ b)) := fun w h => (List.mem_cons.mp h).elim (fun e => ha w (List.mem_cons.mpr (Or.inl e))) (fun h => (List.mem_append.mp h).elim (fun h => ha w (List.mem_cons.mpr (Or.inr h))) (hb w))
theorem goodIn_sub {big ws : List Cond} (hm : ∀ w ∈ ws, w ∈ big) (h : ws.all goodWord = true) : GoodIn big ws := fun w hw => ⟨hm w hw, good_of_word (List.all_eq_true.mp h w hw)⟩
/-! ===== END ===== -/

/-! ===== BEGIN printed: names, fields, word lists, decode rows ===== -/
def RX0 : String := "OrderedDesk$Entries"
def TX0 : u_T := fun k => match k with
  | 0 => ("OrderedDesk$Entries", "keys", "[I", true)
  | 1 => ("OrderedDesk$Entries", "values", "[I", true)
  | _ => ("OrderedDesk$Entries", "count", "I", false)
def tyX0 : Nat → FieldType := fun k => match k with
  | 0 => .array .int
  | 1 => .array .int
  | _ => .int
abbrev wsX00 : List Cond := u_ws RX0 TX0 3
theorem nmX0 : ∀ a, a < 3 → ∀ b, b < 3 → a ≠ b → (TX0 a).2.1 ≠ (TX0 b).2.1 := by decide +kernel
theorem tyX0_ok : ∀ k, k < 3 → parseFieldDescriptor (TX0 k).2.2.1 = some (tyX0 k) := by decide +kernel
abbrev cX0_init : ByteArray := prog_2_method_1_code
def yX0_init : MethodName := ⟨RX0, "<init>", "()V"⟩
abbrev cX0_count : ByteArray := prog_2_method_2_code
def yX0_count : MethodName := ⟨RX0, "count", "()I"⟩
abbrev cX0_placeOf : ByteArray := prog_2_method_3_code
def yX0_placeOf : MethodName := ⟨RX0, "placeOf", "(J)I"⟩
abbrev cX0_keyAt : ByteArray := prog_2_method_4_code
def yX0_keyAt : MethodName := ⟨RX0, "keyAt", "(I)J"⟩
abbrev cX0_isAt : ByteArray := prog_2_method_5_code
def yX0_isAt : MethodName := ⟨RX0, "isAt", "(II)Z"⟩
abbrev cX0_valueOf : ByteArray := prog_2_method_6_code
def yX0_valueOf : MethodName := ⟨RX0, "valueOf", "(I)J"⟩
abbrev cX0_holdsValue : ByteArray := prog_2_method_7_code
def yX0_holdsValue : MethodName := ⟨RX0, "holdsValue", "(I)Z"⟩
abbrev cX0_store : ByteArray := prog_2_method_8_code
def yX0_store : MethodName := ⟨RX0, "store", "(II)J"⟩
abbrev cX0_insert : ByteArray := prog_2_method_9_code
def yX0_insert : MethodName := ⟨RX0, "insert", "(III)V"⟩
abbrev cX0_drop : ByteArray := prog_2_method_10_code
def yX0_drop : MethodName := ⟨RX0, "drop", "(I)J"⟩
abbrev cX0_dropPlaces : ByteArray := prog_2_method_11_code
def yX0_dropPlaces : MethodName := ⟨RX0, "dropPlaces", "(II)I"⟩
abbrev cX0_dropLeaving : ByteArray := prog_2_method_12_code
def yX0_dropLeaving : MethodName := ⟨RX0, "dropLeaving", "(IIII)I"⟩
def RX1 : String := "OrderedDesk$Range"
def TX1 : u_T := fun k => match k with
  | 0 => ("OrderedDesk$Range", "low", "J", true)
  | 1 => ("OrderedDesk$Range", "lowIn", "Z", true)
  | 2 => ("OrderedDesk$Range", "high", "J", true)
  | _ => ("OrderedDesk$Range", "highIn", "Z", true)
def tyX1 : Nat → FieldType := fun k => match k with
  | 0 => .long
  | 1 => .boolean
  | 2 => .long
  | _ => .boolean
abbrev wsX10 : List Cond := u_ws RX1 TX1 4
theorem nmX1 : ∀ a, a < 4 → ∀ b, b < 4 → a ≠ b → (TX1 a).2.1 ≠ (TX1 b).2.1 := by decide +kernel
theorem tyX1_ok : ∀ k, k < 4 → parseFieldDescriptor (TX1 k).2.2.1 = some (tyX1 k) := by decide +kernel
abbrev cX1_init : ByteArray := prog_3_method_1_code
def yX1_init : MethodName := ⟨RX1, "<init>", "(JZJZ)V"⟩
abbrev cX1_start : ByteArray := prog_3_method_2_code
def yX1_start : MethodName := ⟨RX1, "start", "()J"⟩
abbrev cX1_stop : ByteArray := prog_3_method_3_code
def yX1_stop : MethodName := ⟨RX1, "stop", "()J"⟩
abbrev cX1_holds : ByteArray := prog_3_method_4_code
def yX1_holds : MethodName := ⟨RX1, "holds", "(J)Z"⟩
abbrev cX1_part : ByteArray := prog_3_method_5_code
def yX1_part : MethodName := ⟨RX1, "part", "(IIZIZZ)LOrderedDesk$Range;"⟩
abbrev cX1_mayEndAt : ByteArray := prog_3_method_6_code
def yX1_mayEndAt : MethodName := ⟨RX1, "mayEndAt", "(JZ)Z"⟩
abbrev cX1_withEnd : ByteArray := prog_3_method_7_code
def yX1_withEnd : MethodName := ⟨RX1, "withEnd", "(ZJZ)LOrderedDesk$Range;"⟩
def RX2 : String := "OrderedDesk"
def TX2 : u_T := fun k => match k with
  | 0 => ("OrderedDesk", "entries", "LOrderedDesk$Entries;", true)
  | 1 => ("OrderedDesk", "whole", "LOrderedDesk$Range;", true)
  | 2 => ("OrderedDesk", "range", "LOrderedDesk$Range;", false)
  | _ => ("OrderedDesk", "falling", "Z", false)
def tyX2 : Nat → FieldType := fun k => match k with
  | 0 => .object "OrderedDesk$Entries"
  | 1 => .object "OrderedDesk$Range"
  | 2 => .object "OrderedDesk$Range"
  | _ => .boolean
abbrev wsX20 : List Cond := u_ws RX2 TX2 4
theorem nmX2 : ∀ a, a < 4 → ∀ b, b < 4 → a ≠ b → (TX2 a).2.1 ≠ (TX2 b).2.1 := by decide +kernel
theorem tyX2_ok : ∀ k, k < 4 → parseFieldDescriptor (TX2 k).2.2.1 = some (tyX2 k) := by decide +kernel
abbrev cX2_init : ByteArray := prog_1_method_1_code
def yX2_init : MethodName := ⟨RX2, "<init>", "()V"⟩
abbrev cX2_put : ByteArray := prog_1_method_2_code
def yX2_put : MethodName := ⟨RX2, "put", "(II)J"⟩
abbrev cX2_add : ByteArray := prog_1_method_3_code
def yX2_add : MethodName := ⟨RX2, "add", "(II)J"⟩
abbrev cX2_get : ByteArray := prog_1_method_4_code
def yX2_get : MethodName := ⟨RX2, "get", "(I)J"⟩
abbrev cX2_remove : ByteArray := prog_1_method_5_code
def yX2_remove : MethodName := ⟨RX2, "remove", "(I)J"⟩
abbrev cX2_has : ByteArray := prog_1_method_6_code
def yX2_has : MethodName := ⟨RX2, "has", "(II)Z"⟩
abbrev cX2_near : ByteArray := prog_1_method_7_code
def yX2_near : MethodName := ⟨RX2, "near", "(II)J"⟩
abbrev cX2_poll : ByteArray := prog_1_method_8_code
def yX2_poll : MethodName := ⟨RX2, "poll", "(Z)J"⟩
abbrev cX2_size : ByteArray := prog_1_method_9_code
def yX2_size : MethodName := ⟨RX2, "size", "()I"⟩
abbrev cX2_clear : ByteArray := prog_1_method_10_code
def yX2_clear : MethodName := ⟨RX2, "clear", "()I"⟩
abbrev cX2_look : ByteArray := prog_1_method_11_code
def yX2_look : MethodName := ⟨RX2, "look", "(IIZIZ)I"⟩
abbrev cX2_narrow : ByteArray := prog_1_method_12_code
def yX2_narrow : MethodName := ⟨RX2, "narrow", "(IIZIZ)I"⟩
abbrev cX2_turn : ByteArray := prog_1_method_13_code
def yX2_turn : MethodName := ⟨RX2, "turn", "()I"⟩
abbrev cX2_viewSize : ByteArray := prog_1_method_14_code
def yX2_viewSize : MethodName := ⟨RX2, "viewSize", "()I"⟩
abbrev cX2_viewPut : ByteArray := prog_1_method_15_code
def yX2_viewPut : MethodName := ⟨RX2, "viewPut", "(II)J"⟩
abbrev cX2_viewGet : ByteArray := prog_1_method_16_code
def yX2_viewGet : MethodName := ⟨RX2, "viewGet", "(I)J"⟩
abbrev cX2_viewRemove : ByteArray := prog_1_method_17_code
def yX2_viewRemove : MethodName := ⟨RX2, "viewRemove", "(I)J"⟩
abbrev cX2_viewNear : ByteArray := prog_1_method_18_code
def yX2_viewNear : MethodName := ⟨RX2, "viewNear", "(II)J"⟩
abbrev cX2_viewPoll : ByteArray := prog_1_method_19_code
def yX2_viewPoll : MethodName := ⟨RX2, "viewPoll", "(Z)J"⟩
abbrev cX2_viewKey : ByteArray := prog_1_method_20_code
def yX2_viewKey : MethodName := ⟨RX2, "viewKey", "(I)J"⟩
abbrev cX2_walk : ByteArray := prog_1_method_21_code
def yX2_walk : MethodName := ⟨RX2, "walk", "()J"⟩
abbrev cX2_sweep : ByteArray := prog_1_method_22_code
def yX2_sweep : MethodName := ⟨RX2, "sweep", "(II)I"⟩
abbrev cX2_viewClear : ByteArray := prog_1_method_23_code
def yX2_viewClear : MethodName := ⟨RX2, "viewClear", "()I"⟩
abbrev cX2_again : ByteArray := prog_1_method_24_code
def yX2_again : MethodName := ⟨RX2, "again", "()I"⟩
abbrev cX2_viewBegin : ByteArray := prog_1_method_25_code
def yX2_viewBegin : MethodName := ⟨RX2, "viewBegin", "()I"⟩
abbrev cX2_viewEnd : ByteArray := prog_1_method_26_code
def yX2_viewEnd : MethodName := ⟨RX2, "viewEnd", "()I"⟩
abbrev cX2_mirrored : ByteArray := prog_1_method_27_code
def yX2_mirrored : MethodName := ⟨RX2, "mirrored", "(I)I"⟩
abbrev cX2_keyNear : ByteArray := prog_1_method_28_code
def yX2_keyNear : MethodName := ⟨RX2, "keyNear", "(IIII)J"⟩
abbrev cX2_keyWithin : ByteArray := prog_1_method_29_code
def yX2_keyWithin : MethodName := ⟨RX2, "keyWithin", "(III)J"⟩
abbrev cX2_pollWithin : ByteArray := prog_1_method_30_code
def yX2_pollWithin : MethodName := ⟨RX2, "pollWithin", "(ZII)J"⟩
def RX3 : String := "OrderedDeskModel"
def TX3 : u_T := fun k => match k with
  | 0 => ("OrderedDeskModel", "key", "[I", false)
  | 1 => ("OrderedDeskModel", "value", "[I", false)
  | 2 => ("OrderedDeskModel", "many", "I", false)
  | 3 => ("OrderedDeskModel", "hasLow", "Z", false)
  | 4 => ("OrderedDeskModel", "hasHigh", "Z", false)
  | 5 => ("OrderedDeskModel", "lowIn", "Z", false)
  | 6 => ("OrderedDeskModel", "highIn", "Z", false)
  | 7 => ("OrderedDeskModel", "falls", "Z", false)
  | 8 => ("OrderedDeskModel", "low", "I", false)
  | _ => ("OrderedDeskModel", "high", "I", false)
def tyX3 : Nat → FieldType := fun k => match k with
  | 0 => .array .int
  | 1 => .array .int
  | 2 => .int
  | 3 => .boolean
  | 4 => .boolean
  | 5 => .boolean
  | 6 => .boolean
  | 7 => .boolean
  | 8 => .int
  | _ => .int
abbrev wsX30 : List Cond := u_ws RX3 TX3 10
theorem nmX3 : ∀ a, a < 10 → ∀ b, b < 10 → a ≠ b → (TX3 a).2.1 ≠ (TX3 b).2.1 := by decide +kernel
theorem tyX3_ok : ∀ k, k < 10 → parseFieldDescriptor (TX3 k).2.2.1 = some (tyX3 k) := by decide +kernel
abbrev cX3_init : ByteArray := prog_5_method_1_code
def yX3_init : MethodName := ⟨RX3, "<init>", "()V"⟩
abbrev cX3_placeOf : ByteArray := prog_5_method_2_code
def yX3_placeOf : MethodName := ⟨RX3, "placeOf", "(I)I"⟩
abbrev cX3_isAt : ByteArray := prog_5_method_3_code
def yX3_isAt : MethodName := ⟨RX3, "isAt", "(II)Z"⟩
abbrev cX3_insert : ByteArray := prog_5_method_4_code
def yX3_insert : MethodName := ⟨RX3, "insert", "(III)V"⟩
abbrev cX3_delete : ByteArray := prog_5_method_5_code
def yX3_delete : MethodName := ⟨RX3, "delete", "(I)V"⟩
abbrev cX3_put : ByteArray := prog_5_method_6_code
def yX3_put : MethodName := ⟨RX3, "put", "(II)J"⟩
abbrev cX3_add : ByteArray := prog_5_method_7_code
def yX3_add : MethodName := ⟨RX3, "add", "(II)J"⟩
abbrev cX3_get : ByteArray := prog_5_method_8_code
def yX3_get : MethodName := ⟨RX3, "get", "(I)J"⟩
abbrev cX3_remove : ByteArray := prog_5_method_9_code
def yX3_remove : MethodName := ⟨RX3, "remove", "(I)J"⟩
abbrev cX3_has : ByteArray := prog_5_method_10_code
def yX3_has : MethodName := ⟨RX3, "has", "(II)Z"⟩
abbrev cX3_keyAt : ByteArray := prog_5_method_11_code
def yX3_keyAt : MethodName := ⟨RX3, "keyAt", "(III)J"⟩
abbrev cX3_near : ByteArray := prog_5_method_12_code
def yX3_near : MethodName := ⟨RX3, "near", "(IIII)J"⟩
abbrev cX3_near_ : ByteArray := prog_5_method_13_code
def yX3_near_ : MethodName := ⟨RX3, "near", "(II)J"⟩
abbrev cX3_poll : ByteArray := prog_5_method_14_code
def yX3_poll : MethodName := ⟨RX3, "poll", "(Z)J"⟩
abbrev cX3_size : ByteArray := prog_5_method_15_code
def yX3_size : MethodName := ⟨RX3, "size", "()I"⟩
abbrev cX3_clear : ByteArray := prog_5_method_16_code
def yX3_clear : MethodName := ⟨RX3, "clear", "()I"⟩
abbrev cX3_all : ByteArray := prog_5_method_17_code
def yX3_all : MethodName := ⟨RX3, "all", "()V"⟩
abbrev cX3_look : ByteArray := prog_5_method_18_code
def yX3_look : MethodName := ⟨RX3, "look", "(IIZIZ)I"⟩
abbrev cX3_begin : ByteArray := prog_5_method_19_code
def yX3_begin : MethodName := ⟨RX3, "begin", "(IZ)V"⟩
abbrev cX3_end : ByteArray := prog_5_method_20_code
def yX3_end : MethodName := ⟨RX3, "end", "(IZ)V"⟩
abbrev cX3_isIn : ByteArray := prog_5_method_21_code
def yX3_isIn : MethodName := ⟨RX3, "isIn", "(I)Z"⟩
abbrev cX3_mayEnd : ByteArray := prog_5_method_22_code
def yX3_mayEnd : MethodName := ⟨RX3, "mayEnd", "(IZ)Z"⟩
abbrev cX3_narrow : ByteArray := prog_5_method_23_code
def yX3_narrow : MethodName := ⟨RX3, "narrow", "(IIZIZ)I"⟩
abbrev cX3_turn : ByteArray := prog_5_method_24_code
def yX3_turn : MethodName := ⟨RX3, "turn", "()I"⟩
abbrev cX3_first : ByteArray := prog_5_method_25_code
def yX3_first : MethodName := ⟨RX3, "first", "()I"⟩
abbrev cX3_behind : ByteArray := prog_5_method_26_code
def yX3_behind : MethodName := ⟨RX3, "behind", "()I"⟩
abbrev cX3_viewSize : ByteArray := prog_5_method_27_code
def yX3_viewSize : MethodName := ⟨RX3, "viewSize", "()I"⟩
abbrev cX3_viewPut : ByteArray := prog_5_method_28_code
def yX3_viewPut : MethodName := ⟨RX3, "viewPut", "(II)J"⟩
abbrev cX3_viewGet : ByteArray := prog_5_method_29_code
def yX3_viewGet : MethodName := ⟨RX3, "viewGet", "(I)J"⟩
abbrev cX3_viewRemove : ByteArray := prog_5_method_30_code
def yX3_viewRemove : MethodName := ⟨RX3, "viewRemove", "(I)J"⟩
abbrev cX3_viewNear : ByteArray := prog_5_method_31_code
def yX3_viewNear : MethodName := ⟨RX3, "viewNear", "(II)J"⟩
abbrev cX3_viewPoll : ByteArray := prog_5_method_32_code
def yX3_viewPoll : MethodName := ⟨RX3, "viewPoll", "(Z)J"⟩
abbrev cX3_viewKey : ByteArray := prog_5_method_33_code
def yX3_viewKey : MethodName := ⟨RX3, "viewKey", "(I)J"⟩
abbrev cX3_walk : ByteArray := prog_5_method_34_code
def yX3_walk : MethodName := ⟨RX3, "walk", "()J"⟩
abbrev cX3_sweep : ByteArray := prog_5_method_35_code
def yX3_sweep : MethodName := ⟨RX3, "sweep", "(II)I"⟩
abbrev cX3_viewClear : ByteArray := prog_5_method_36_code
def yX3_viewClear : MethodName := ⟨RX3, "viewClear", "()I"⟩
abbrev cX3_again : ByteArray := prog_5_method_37_code
def yX3_again : MethodName := ⟨RX3, "again", "()I"⟩
def RJx8e188 : String := "java/lang/Cloneable"
def TJx8e188 : u_T := fun k => match k with
  | _ => ("", "", "", false)
def tyJx8e188 : Nat → FieldType := fun k => match k with
  | _ => .int
abbrev wsJx8e1880 : List Cond := u_ws RJx8e188 TJx8e188 0
theorem nmJx8e188 : ∀ a, a < 0 → ∀ b, b < 0 → a ≠ b → (TJx8e188 a).2.1 ≠ (TJx8e188 b).2.1 := by decide +kernel
theorem tyJx8e188_ok : ∀ k, k < 0 → parseFieldDescriptor (TJx8e188 k).2.2.1 = some (tyJx8e188 k) := by decide +kernel
def RJ9 : String := "java/lang/Math"
def TJ9 : u_T := fun k => match k with
  | _ => ("", "", "", false)
def tyJ9 : Nat → FieldType := fun k => match k with
  | _ => .int
abbrev wsJ90 : List Cond := u_ws RJ9 TJ9 0
theorem nmJ9 : ∀ a, a < 0 → ∀ b, b < 0 → a ≠ b → (TJ9 a).2.1 ≠ (TJ9 b).2.1 := by decide +kernel
theorem tyJ9_ok : ∀ k, k < 0 → parseFieldDescriptor (TJ9 k).2.2.1 = some (tyJ9 k) := by decide +kernel
abbrev cJ9_floorMod_7cf53 : ByteArray := prog_7_method_50_code
def yJ9_floorMod_7cf53 : MethodName := ⟨RJ9, "floorMod", "(II)I"⟩
abbrev cJ9_max_7cf53 : ByteArray := prog_7_method_65_code
def yJ9_max_7cf53 : MethodName := ⟨RJ9, "max", "(II)I"⟩
abbrev cJ9_min_7cf53 : ByteArray := prog_7_method_69_code
def yJ9_min_7cf53 : MethodName := ⟨RJ9, "min", "(II)I"⟩
def RJ10 : String := "java/lang/System"
def TJ10 : u_T := fun k => match k with
  | _ => ("", "", "", false)
def tyJ10 : Nat → FieldType := fun k => match k with
  | _ => .int
abbrev wsJ100 : List Cond := u_ws RJ10 TJ10 0
theorem nmJ10 : ∀ a, a < 0 → ∀ b, b < 0 → a ≠ b → (TJ10 a).2.1 ≠ (TJ10 b).2.1 := by decide +kernel
theorem tyJ10_ok : ∀ k, k < 0 → parseFieldDescriptor (TJ10 k).2.2.1 = some (tyJ10 k) := by decide +kernel
def RJ7 : String := "java/util/Arrays"
def TJ7 : u_T := fun k => match k with
  | _ => ("", "", "", false)
def tyJ7 : Nat → FieldType := fun k => match k with
  | _ => .int
abbrev wsJ70 : List Cond := u_ws RJ7 TJ7 0
theorem nmJ7 : ∀ a, a < 0 → ∀ b, b < 0 → a ≠ b → (TJ7 a).2.1 ≠ (TJ7 b).2.1 := by decide +kernel
theorem tyJ7_ok : ∀ k, k < 0 → parseFieldDescriptor (TJ7 k).2.2.1 = some (tyJ7 k) := by decide +kernel
abbrev cJ7_copyOf_59c91 : ByteArray := prog_9_method_123_code
def yJ7_copyOf_59c91 : MethodName := ⟨RJ7, "copyOf", "([II)[I"⟩
def RL : String := "OrderedDeskLaw"
abbrev cL_law : ByteArray := code
def yL_law : MethodName := ⟨RL, "law", "([I)Z"⟩
def wsX0_init : List Cond := .code yX0_init cX0_init 1 none :: ([.methodLink RX0 3 objectInit, .instanceMethod objectInit, .code objectInit ⟨#[0xb1]⟩ 1 none, .arrayClass .int, .fieldLink RX0 9 "OrderedDesk$Entries" "keys" "[I", .fieldLink RX0 15 "OrderedDesk$Entries" "values" "[I", .fieldLink RX0 18 "OrderedDesk$Entries" "count" "I"] ++ wsX00)
def wsX0_count : List Cond := .code yX0_count cX0_count 1 (some .int) :: ([.fieldLink RX0 18 "OrderedDesk$Entries" "count" "I"] ++ wsX00)
def wsX0_placeOf : List Cond := .code yX0_placeOf cX0_placeOf 4 (some .int) :: ([.fieldLink RX0 18 "OrderedDesk$Entries" "count" "I", .fieldLink RX0 9 "OrderedDesk$Entries" "keys" "[I"] ++ wsX00)
def wsX0_keyAt : List Cond := .code yX0_keyAt cX0_keyAt 2 (some .long) :: ([.fieldLink RX0 18 "OrderedDesk$Entries" "count" "I", .fieldLink RX0 9 "OrderedDesk$Entries" "keys" "[I", .constantLong RX0 22 (1099511627776)] ++ wsX00)
def wsX0_isAt : List Cond := .code yX0_isAt cX0_isAt 3 (some .boolean) :: ([.fieldLink RX0 18 "OrderedDesk$Entries" "count" "I", .fieldLink RX0 9 "OrderedDesk$Entries" "keys" "[I"] ++ wsX00)
def wsX0_valueOf : List Cond := .code yX0_valueOf cX0_valueOf 3 (some .long) :: ([.fieldLink RX0 15 "OrderedDesk$Entries" "values" "[I", .constantLong RX0 22 (1099511627776), .methodLink RX0 24 yX0_placeOf, .instanceMethod yX0_placeOf, .selects RX0 yX0_placeOf yX0_placeOf, .initialized RX0, .code yX0_placeOf cX0_placeOf 4 (some .int), .fieldLink RX0 18 "OrderedDesk$Entries" "count" "I", .fieldLink RX0 9 "OrderedDesk$Entries" "keys" "[I", .methodLink RX0 28 yX0_isAt, .instanceMethod yX0_isAt, .selects RX0 yX0_isAt yX0_isAt, .code yX0_isAt cX0_isAt 3 (some .boolean)] ++ wsX00)
def wsX0_holdsValue : List Cond := .code yX0_holdsValue cX0_holdsValue 3 (some .boolean) :: ([.fieldLink RX0 18 "OrderedDesk$Entries" "count" "I", .fieldLink RX0 15 "OrderedDesk$Entries" "values" "[I"] ++ wsX00)
def wsX0_insert : List Cond := .code yX0_insert cX0_insert 5 none :: ([.fieldLink RX0 18 "OrderedDesk$Entries" "count" "I", .fieldLink RX0 9 "OrderedDesk$Entries" "keys" "[I", .fieldLink RX0 15 "OrderedDesk$Entries" "values" "[I"] ++ wsX00)
def wsX0_store : List Cond := .code yX0_store cX0_store 6 (some .long) :: ([.constantLong RX0 22 (1099511627776), .fieldLink RX0 15 "OrderedDesk$Entries" "values" "[I", .methodLink RX0 24 yX0_placeOf, .instanceMethod yX0_placeOf, .selects RX0 yX0_placeOf yX0_placeOf, .initialized RX0, .code yX0_placeOf cX0_placeOf 4 (some .int), .fieldLink RX0 18 "OrderedDesk$Entries" "count" "I", .fieldLink RX0 9 "OrderedDesk$Entries" "keys" "[I", .methodLink RX0 28 yX0_isAt, .instanceMethod yX0_isAt, .selects RX0 yX0_isAt yX0_isAt, .code yX0_isAt cX0_isAt 3 (some .boolean), .methodLink RX0 32 yX0_insert, .instanceMethod yX0_insert, .selects RX0 yX0_insert yX0_insert, .code yX0_insert cX0_insert 5 none] ++ wsX00)
def wsJ9_floorMod_7cf53 : List Cond := .code yJ9_floorMod_7cf53 cJ9_floorMod_7cf53 3 (some .int) :: ([])
def wsX0_dropLeaving : List Cond := .code yX0_dropLeaving cX0_dropLeaving 8 (some .int) :: ([.fieldLink RX0 18 "OrderedDesk$Entries" "count" "I", .fieldLink RX0 9 "OrderedDesk$Entries" "keys" "[I", .fieldLink RX0 15 "OrderedDesk$Entries" "values" "[I", .methodLink RX0 44 yJ9_floorMod_7cf53, .static yJ9_floorMod_7cf53, .initialized RJ9, .code yJ9_floorMod_7cf53 cJ9_floorMod_7cf53 3 (some .int)] ++ wsX00)
def wsX0_dropPlaces : List Cond := .code yX0_dropPlaces cX0_dropPlaces 3 (some .int) :: ([.methodLink RX0 40 yX0_dropLeaving, .instanceMethod yX0_dropLeaving, .selects RX0 yX0_dropLeaving yX0_dropLeaving, .initialized RX0, .code yX0_dropLeaving cX0_dropLeaving 8 (some .int), .fieldLink RX0 18 "OrderedDesk$Entries" "count" "I", .fieldLink RX0 9 "OrderedDesk$Entries" "keys" "[I", .fieldLink RX0 15 "OrderedDesk$Entries" "values" "[I", .methodLink RX0 44 yJ9_floorMod_7cf53, .static yJ9_floorMod_7cf53, .initialized RJ9, .code yJ9_floorMod_7cf53 cJ9_floorMod_7cf53 3 (some .int)] ++ wsX00)
def wsX0_drop_r1 : List Cond := [Cond.constantLong RX0 22 (1099511627776), Cond.fieldLink RX0 15 "OrderedDesk$Entries" "values" "[I", Cond.methodLink RX0 24 yX0_placeOf, Cond.instanceMethod yX0_placeOf, Cond.selects RX0 yX0_placeOf yX0_placeOf, Cond.initialized RX0, Cond.code yX0_placeOf cX0_placeOf 4 (some .int), Cond.fieldLink RX0 18 "OrderedDesk$Entries" "count" "I", Cond.fieldLink RX0 9 "OrderedDesk$Entries" "keys" "[I", Cond.methodLink RX0 28 yX0_isAt, Cond.instanceMethod yX0_isAt, Cond.selects RX0 yX0_isAt yX0_isAt, Cond.code yX0_isAt cX0_isAt 3 (some .boolean), Cond.methodLink RX0 36 yX0_dropPlaces, Cond.instanceMethod yX0_dropPlaces, Cond.selects RX0 yX0_dropPlaces yX0_dropPlaces, Cond.code yX0_dropPlaces cX0_dropPlaces 3 (some .int), Cond.methodLink RX0 40 yX0_dropLeaving, Cond.instanceMethod yX0_dropLeaving, Cond.selects RX0 yX0_dropLeaving yX0_dropLeaving, Cond.code yX0_dropLeaving cX0_dropLeaving 8 (some .int), Cond.methodLink RX0 44 yJ9_floorMod_7cf53, Cond.static yJ9_floorMod_7cf53, Cond.initialized RJ9]
def wsX0_drop_r2 : List Cond := [Cond.code yJ9_floorMod_7cf53 cJ9_floorMod_7cf53 3 (some .int)]
def wsX0_drop : List Cond := .code yX0_drop cX0_drop 5 (some .long) :: ((wsX0_drop_r1 ++ wsX0_drop_r2) ++ wsX00)
def wsX1_init : List Cond := .code yX1_init cX1_init 7 none :: ([.methodLink RX1 1 objectInit, .instanceMethod objectInit, .code objectInit ⟨#[0xb1]⟩ 1 none, .fieldLink RX1 7 "OrderedDesk$Range" "low" "J", .fieldLink RX1 13 "OrderedDesk$Range" "lowIn" "Z", .fieldLink RX1 17 "OrderedDesk$Range" "high" "J", .fieldLink RX1 20 "OrderedDesk$Range" "highIn" "Z"] ++ wsX10)
def wsX1_start : List Cond := .code yX1_start cX1_start 1 (some .long) :: ([.fieldLink RX1 13 "OrderedDesk$Range" "lowIn" "Z", .fieldLink RX1 7 "OrderedDesk$Range" "low" "J"] ++ wsX10)
def wsX1_stop : List Cond := .code yX1_stop cX1_stop 1 (some .long) :: ([.fieldLink RX1 20 "OrderedDesk$Range" "highIn" "Z", .fieldLink RX1 17 "OrderedDesk$Range" "high" "J"] ++ wsX10)
def wsX1_holds : List Cond := .code yX1_holds cX1_holds 3 (some .boolean) :: ([.methodLink RX1 23 yX1_start, .instanceMethod yX1_start, .selects RX1 yX1_start yX1_start, .initialized RX1, .code yX1_start cX1_start 1 (some .long), .fieldLink RX1 13 "OrderedDesk$Range" "lowIn" "Z", .fieldLink RX1 7 "OrderedDesk$Range" "low" "J", .methodLink RX1 27 yX1_stop, .instanceMethod yX1_stop, .selects RX1 yX1_stop yX1_stop, .code yX1_stop cX1_stop 1 (some .long), .fieldLink RX1 20 "OrderedDesk$Range" "highIn" "Z", .fieldLink RX1 17 "OrderedDesk$Range" "high" "J"] ++ wsX10)
def wsX1_mayEndAt : List Cond := .code yX1_mayEndAt cX1_mayEndAt 4 (some .boolean) :: ([.fieldLink RX1 7 "OrderedDesk$Range" "low" "J", .fieldLink RX1 17 "OrderedDesk$Range" "high" "J", .methodLink RX1 38 yX1_holds, .instanceMethod yX1_holds, .selects RX1 yX1_holds yX1_holds, .initialized RX1, .code yX1_holds cX1_holds 3 (some .boolean), .methodLink RX1 23 yX1_start, .instanceMethod yX1_start, .selects RX1 yX1_start yX1_start, .code yX1_start cX1_start 1 (some .long), .fieldLink RX1 13 "OrderedDesk$Range" "lowIn" "Z", .methodLink RX1 27 yX1_stop, .instanceMethod yX1_stop, .selects RX1 yX1_stop yX1_stop, .code yX1_stop cX1_stop 1 (some .long), .fieldLink RX1 20 "OrderedDesk$Range" "highIn" "Z"] ++ wsX10)
def wsX1_withEnd : List Cond := .code yX1_withEnd cX1_withEnd 5 (some (.object "OrderedDesk$Range")) :: ([.classLink RX1 8 RX1, .instantiable RX1 4, .initialized RX1, .fieldLink RX1 7 "OrderedDesk$Range" "low" "J", .fieldLink RX1 13 "OrderedDesk$Range" "lowIn" "Z", .fieldLink RX1 17 "OrderedDesk$Range" "high" "J", .fieldLink RX1 20 "OrderedDesk$Range" "highIn" "Z", .methodLink RX1 42 yX1_init, .instanceMethod yX1_init, .code yX1_init cX1_init 7 none, .methodLink RX1 1 objectInit, .instanceMethod objectInit, .code objectInit ⟨#[0xb1]⟩ 1 none] ++ wsX10)
def wsX1_part_r1 : List Cond := [Cond.methodLink RX1 30 yX1_mayEndAt, Cond.instanceMethod yX1_mayEndAt, Cond.selects RX1 yX1_mayEndAt yX1_mayEndAt, Cond.initialized RX1, Cond.code yX1_mayEndAt cX1_mayEndAt 4 (some .boolean), Cond.fieldLink RX1 7 "OrderedDesk$Range" "low" "J", Cond.fieldLink RX1 17 "OrderedDesk$Range" "high" "J", Cond.methodLink RX1 38 yX1_holds, Cond.instanceMethod yX1_holds, Cond.selects RX1 yX1_holds yX1_holds, Cond.code yX1_holds cX1_holds 3 (some .boolean), Cond.methodLink RX1 23 yX1_start, Cond.instanceMethod yX1_start, Cond.selects RX1 yX1_start yX1_start, Cond.code yX1_start cX1_start 1 (some .long), Cond.fieldLink RX1 13 "OrderedDesk$Range" "lowIn" "Z", Cond.methodLink RX1 27 yX1_stop, Cond.instanceMethod yX1_stop, Cond.selects RX1 yX1_stop yX1_stop, Cond.code yX1_stop cX1_stop 1 (some .long), Cond.fieldLink RX1 20 "OrderedDesk$Range" "highIn" "Z", Cond.methodLink RX1 34 yX1_withEnd, Cond.instanceMethod yX1_withEnd, Cond.selects RX1 yX1_withEnd yX1_withEnd]
def wsX1_part_r2 : List Cond := [Cond.code yX1_withEnd cX1_withEnd 5 (some (.object "OrderedDesk$Range")), Cond.classLink RX1 8 RX1, Cond.instantiable RX1 4, Cond.methodLink RX1 42 yX1_init, Cond.instanceMethod yX1_init, Cond.code yX1_init cX1_init 7 none, Cond.methodLink RX1 1 objectInit, Cond.instanceMethod objectInit, Cond.code objectInit ⟨#[0xb1]⟩ 1 none]
def wsX1_part : List Cond := .code yX1_part cX1_part 10 (some (.object "OrderedDesk$Range")) :: ((wsX1_part_r1 ++ wsX1_part_r2) ++ wsX10)
def wsX2_init_r1 : List Cond := [Cond.methodLink RX2 3 objectInit, Cond.instanceMethod objectInit, Cond.code objectInit ⟨#[0xb1]⟩ 1 none, Cond.classLink RX2 9 RX0, Cond.instantiable RX0 3, Cond.initialized RX0, Cond.fieldLink RX2 12 "OrderedDesk" "entries" "LOrderedDesk$Entries;", Cond.classLink RX2 16 RX1, Cond.instantiable RX1 4, Cond.initialized RX1, Cond.constantLong RX2 18 (-2147483649), Cond.constantLong RX2 20 (2147483648), Cond.fieldLink RX2 25 "OrderedDesk" "whole" "LOrderedDesk$Range;", Cond.fieldLink RX2 29 "OrderedDesk" "range" "LOrderedDesk$Range;", Cond.fieldLink RX2 32 "OrderedDesk" "falling" "Z", Cond.instanceMethod yX0_init, Cond.code yX0_init cX0_init 1 none, Cond.methodLink RX0 3 objectInit, Cond.arrayClass .int, Cond.fieldLink RX0 9 "OrderedDesk$Entries" "keys" "[I", Cond.fieldLink RX0 15 "OrderedDesk$Entries" "values" "[I", Cond.fieldLink RX0 18 "OrderedDesk$Entries" "count" "I", Cond.methodLink RX2 22 yX1_init, Cond.instanceMethod yX1_init]
def wsX2_init_r2 : List Cond := [Cond.code yX1_init cX1_init 7 none, Cond.methodLink RX1 1 objectInit, Cond.fieldLink RX1 7 "OrderedDesk$Range" "low" "J", Cond.fieldLink RX1 13 "OrderedDesk$Range" "lowIn" "Z", Cond.fieldLink RX1 17 "OrderedDesk$Range" "high" "J", Cond.fieldLink RX1 20 "OrderedDesk$Range" "highIn" "Z"]
def wsX2_init : List Cond := .code yX2_init cX2_init 1 none :: ((wsX2_init_r1 ++ wsX2_init_r2) ++ wsX00 ++ wsX20 ++ wsX10)
def wsX2_put : List Cond := .code yX2_put cX2_put 3 (some .long) :: ([.fieldLink RX2 12 "OrderedDesk" "entries" "LOrderedDesk$Entries;", .methodLink RX2 36 yX0_store, .instanceMethod yX0_store, .selects RX0 yX0_store yX0_store, .initialized RX0, .code yX0_store cX0_store 6 (some .long), .constantLong RX0 22 (1099511627776), .fieldLink RX0 15 "OrderedDesk$Entries" "values" "[I", .methodLink RX0 24 yX0_placeOf, .instanceMethod yX0_placeOf, .selects RX0 yX0_placeOf yX0_placeOf, .code yX0_placeOf cX0_placeOf 4 (some .int), .fieldLink RX0 18 "OrderedDesk$Entries" "count" "I", .fieldLink RX0 9 "OrderedDesk$Entries" "keys" "[I", .methodLink RX0 28 yX0_isAt, .instanceMethod yX0_isAt, .selects RX0 yX0_isAt yX0_isAt, .code yX0_isAt cX0_isAt 3 (some .boolean), .methodLink RX0 32 yX0_insert, .instanceMethod yX0_insert, .selects RX0 yX0_insert yX0_insert, .code yX0_insert cX0_insert 5 none] ++ wsX20 ++ wsX00)
def wsX2_add_r1 : List Cond := [Cond.fieldLink RX2 12 "OrderedDesk" "entries" "LOrderedDesk$Entries;", Cond.constantLong RX2 44 (1099511627776), Cond.methodLink RX2 40 yX0_valueOf, Cond.instanceMethod yX0_valueOf, Cond.selects RX0 yX0_valueOf yX0_valueOf, Cond.initialized RX0, Cond.code yX0_valueOf cX0_valueOf 3 (some .long), Cond.fieldLink RX0 15 "OrderedDesk$Entries" "values" "[I", Cond.constantLong RX0 22 (1099511627776), Cond.methodLink RX0 24 yX0_placeOf, Cond.instanceMethod yX0_placeOf, Cond.selects RX0 yX0_placeOf yX0_placeOf, Cond.code yX0_placeOf cX0_placeOf 4 (some .int), Cond.fieldLink RX0 18 "OrderedDesk$Entries" "count" "I", Cond.fieldLink RX0 9 "OrderedDesk$Entries" "keys" "[I", Cond.methodLink RX0 28 yX0_isAt, Cond.instanceMethod yX0_isAt, Cond.selects RX0 yX0_isAt yX0_isAt, Cond.code yX0_isAt cX0_isAt 3 (some .boolean), Cond.methodLink RX2 36 yX0_store, Cond.instanceMethod yX0_store, Cond.selects RX0 yX0_store yX0_store, Cond.code yX0_store cX0_store 6 (some .long), Cond.methodLink RX0 32 yX0_insert]
def wsX2_add_r2 : List Cond := [Cond.instanceMethod yX0_insert, Cond.selects RX0 yX0_insert yX0_insert, Cond.code yX0_insert cX0_insert 5 none]
def wsX2_add : List Cond := .code yX2_add cX2_add 5 (some .long) :: ((wsX2_add_r1 ++ wsX2_add_r2) ++ wsX20 ++ wsX00)
def wsX2_get : List Cond := .code yX2_get cX2_get 2 (some .long) :: ([.fieldLink RX2 12 "OrderedDesk" "entries" "LOrderedDesk$Entries;", .methodLink RX2 40 yX0_valueOf, .instanceMethod yX0_valueOf, .selects RX0 yX0_valueOf yX0_valueOf, .initialized RX0, .code yX0_valueOf cX0_valueOf 3 (some .long), .fieldLink RX0 15 "OrderedDesk$Entries" "values" "[I", .constantLong RX0 22 (1099511627776), .methodLink RX0 24 yX0_placeOf, .instanceMethod yX0_placeOf, .selects RX0 yX0_placeOf yX0_placeOf, .code yX0_placeOf cX0_placeOf 4 (some .int), .fieldLink RX0 18 "OrderedDesk$Entries" "count" "I", .fieldLink RX0 9 "OrderedDesk$Entries" "keys" "[I", .methodLink RX0 28 yX0_isAt, .instanceMethod yX0_isAt, .selects RX0 yX0_isAt yX0_isAt, .code yX0_isAt cX0_isAt 3 (some .boolean)] ++ wsX20 ++ wsX00)
def wsX2_remove_r1 : List Cond := [Cond.fieldLink RX2 12 "OrderedDesk" "entries" "LOrderedDesk$Entries;", Cond.methodLink RX2 46 yX0_drop, Cond.instanceMethod yX0_drop, Cond.selects RX0 yX0_drop yX0_drop, Cond.initialized RX0, Cond.code yX0_drop cX0_drop 5 (some .long), Cond.constantLong RX0 22 (1099511627776), Cond.fieldLink RX0 15 "OrderedDesk$Entries" "values" "[I", Cond.methodLink RX0 24 yX0_placeOf, Cond.instanceMethod yX0_placeOf, Cond.selects RX0 yX0_placeOf yX0_placeOf, Cond.code yX0_placeOf cX0_placeOf 4 (some .int), Cond.fieldLink RX0 18 "OrderedDesk$Entries" "count" "I", Cond.fieldLink RX0 9 "OrderedDesk$Entries" "keys" "[I", Cond.methodLink RX0 28 yX0_isAt, Cond.instanceMethod yX0_isAt, Cond.selects RX0 yX0_isAt yX0_isAt, Cond.code yX0_isAt cX0_isAt 3 (some .boolean), Cond.methodLink RX0 36 yX0_dropPlaces, Cond.instanceMethod yX0_dropPlaces, Cond.selects RX0 yX0_dropPlaces yX0_dropPlaces, Cond.code yX0_dropPlaces cX0_dropPlaces 3 (some .int), Cond.methodLink RX0 40 yX0_dropLeaving, Cond.instanceMethod yX0_dropLeaving]
def wsX2_remove_r2 : List Cond := [Cond.selects RX0 yX0_dropLeaving yX0_dropLeaving, Cond.code yX0_dropLeaving cX0_dropLeaving 8 (some .int), Cond.methodLink RX0 44 yJ9_floorMod_7cf53, Cond.static yJ9_floorMod_7cf53, Cond.initialized RJ9, Cond.code yJ9_floorMod_7cf53 cJ9_floorMod_7cf53 3 (some .int)]
def wsX2_remove : List Cond := .code yX2_remove cX2_remove 2 (some .long) :: ((wsX2_remove_r1 ++ wsX2_remove_r2) ++ wsX20 ++ wsX00)
def wsX2_has : List Cond := .code yX2_has cX2_has 3 (some .boolean) :: ([.fieldLink RX2 12 "OrderedDesk" "entries" "LOrderedDesk$Entries;", .constantLong RX2 44 (1099511627776), .methodLink RX2 40 yX0_valueOf, .instanceMethod yX0_valueOf, .selects RX0 yX0_valueOf yX0_valueOf, .initialized RX0, .code yX0_valueOf cX0_valueOf 3 (some .long), .fieldLink RX0 15 "OrderedDesk$Entries" "values" "[I", .constantLong RX0 22 (1099511627776), .methodLink RX0 24 yX0_placeOf, .instanceMethod yX0_placeOf, .selects RX0 yX0_placeOf yX0_placeOf, .code yX0_placeOf cX0_placeOf 4 (some .int), .fieldLink RX0 18 "OrderedDesk$Entries" "count" "I", .fieldLink RX0 9 "OrderedDesk$Entries" "keys" "[I", .methodLink RX0 28 yX0_isAt, .instanceMethod yX0_isAt, .selects RX0 yX0_isAt yX0_isAt, .code yX0_isAt cX0_isAt 3 (some .boolean), .methodLink RX2 49 yX0_holdsValue, .instanceMethod yX0_holdsValue, .selects RX0 yX0_holdsValue yX0_holdsValue, .code yX0_holdsValue cX0_holdsValue 3 (some .boolean)] ++ wsX20 ++ wsX00)
def wsX2_keyWithin : List Cond := .code yX2_keyWithin cX2_keyWithin 4 (some .long) :: ([.fieldLink RX2 12 "OrderedDesk" "entries" "LOrderedDesk$Entries;", .constantLong RX2 44 (1099511627776), .methodLink RX2 92 yX0_keyAt, .instanceMethod yX0_keyAt, .selects RX0 yX0_keyAt yX0_keyAt, .initialized RX0, .code yX0_keyAt cX0_keyAt 2 (some .long), .fieldLink RX0 18 "OrderedDesk$Entries" "count" "I", .fieldLink RX0 9 "OrderedDesk$Entries" "keys" "[I", .constantLong RX0 22 (1099511627776)] ++ wsX20 ++ wsX00)
def wsX2_keyNear_r1 : List Cond := [Cond.fieldLink RX2 12 "OrderedDesk" "entries" "LOrderedDesk$Entries;", Cond.methodLink RX2 115 Lib.Math.min.name, Cond.static Lib.Math.min.name, Cond.initialized "java/lang/Math", Cond.code Lib.Math.min.name Lib.Math.min.code 2 (some .int), Cond.methodLink RX2 110 Lib.Math.max.name, Cond.static Lib.Math.max.name, Cond.code Lib.Math.max.name Lib.Math.max.code 2 (some .int), Cond.constantLong RX2 44 (1099511627776), Cond.methodLink RX2 103 yX0_placeOf, Cond.instanceMethod yX0_placeOf, Cond.selects RX0 yX0_placeOf yX0_placeOf, Cond.initialized RX0, Cond.code yX0_placeOf cX0_placeOf 4 (some .int), Cond.fieldLink RX0 18 "OrderedDesk$Entries" "count" "I", Cond.fieldLink RX0 9 "OrderedDesk$Entries" "keys" "[I", Cond.methodLink RX2 118 yX2_keyWithin, Cond.instanceMethod yX2_keyWithin, Cond.selects RX2 yX2_keyWithin yX2_keyWithin, Cond.initialized RX2, Cond.code yX2_keyWithin cX2_keyWithin 4 (some .long), Cond.methodLink RX2 92 yX0_keyAt, Cond.instanceMethod yX0_keyAt, Cond.selects RX0 yX0_keyAt yX0_keyAt]
def wsX2_keyNear_r2 : List Cond := [Cond.code yX0_keyAt cX0_keyAt 2 (some .long), Cond.constantLong RX0 22 (1099511627776)]
def wsX2_keyNear : List Cond := .code yX2_keyNear cX2_keyNear 7 (some .long) :: ((wsX2_keyNear_r1 ++ wsX2_keyNear_r2) ++ wsX20 ++ wsX00)
def wsX2_near_r1 : List Cond := [Cond.fieldLink RX2 12 "OrderedDesk" "entries" "LOrderedDesk$Entries;", Cond.methodLink RX2 53 yX0_count, Cond.instanceMethod yX0_count, Cond.selects RX0 yX0_count yX0_count, Cond.initialized RX0, Cond.code yX0_count cX0_count 1 (some .int), Cond.fieldLink RX0 18 "OrderedDesk$Entries" "count" "I", Cond.methodLink RX2 57 yX2_keyNear, Cond.instanceMethod yX2_keyNear, Cond.selects RX2 yX2_keyNear yX2_keyNear, Cond.initialized RX2, Cond.code yX2_keyNear cX2_keyNear 7 (some .long), Cond.methodLink RX2 115 Lib.Math.min.name, Cond.static Lib.Math.min.name, Cond.initialized "java/lang/Math", Cond.code Lib.Math.min.name Lib.Math.min.code 2 (some .int), Cond.methodLink RX2 110 Lib.Math.max.name, Cond.static Lib.Math.max.name, Cond.code Lib.Math.max.name Lib.Math.max.code 2 (some .int), Cond.constantLong RX2 44 (1099511627776), Cond.methodLink RX2 103 yX0_placeOf, Cond.instanceMethod yX0_placeOf, Cond.selects RX0 yX0_placeOf yX0_placeOf, Cond.code yX0_placeOf cX0_placeOf 4 (some .int)]
def wsX2_near_r2 : List Cond := [Cond.fieldLink RX0 9 "OrderedDesk$Entries" "keys" "[I", Cond.methodLink RX2 118 yX2_keyWithin, Cond.instanceMethod yX2_keyWithin, Cond.selects RX2 yX2_keyWithin yX2_keyWithin, Cond.code yX2_keyWithin cX2_keyWithin 4 (some .long), Cond.methodLink RX2 92 yX0_keyAt, Cond.instanceMethod yX0_keyAt, Cond.selects RX0 yX0_keyAt yX0_keyAt, Cond.code yX0_keyAt cX0_keyAt 2 (some .long), Cond.constantLong RX0 22 (1099511627776)]
def wsX2_near : List Cond := .code yX2_near cX2_near 3 (some .long) :: ((wsX2_near_r1 ++ wsX2_near_r2) ++ wsX20 ++ wsX00)
def wsX2_pollWithin_r1 : List Cond := [Cond.constantLong RX2 44 (1099511627776), Cond.fieldLink RX2 12 "OrderedDesk" "entries" "LOrderedDesk$Entries;", Cond.methodLink RX2 118 yX2_keyWithin, Cond.instanceMethod yX2_keyWithin, Cond.selects RX2 yX2_keyWithin yX2_keyWithin, Cond.initialized RX2, Cond.code yX2_keyWithin cX2_keyWithin 4 (some .long), Cond.methodLink RX2 92 yX0_keyAt, Cond.instanceMethod yX0_keyAt, Cond.selects RX0 yX0_keyAt yX0_keyAt, Cond.initialized RX0, Cond.code yX0_keyAt cX0_keyAt 2 (some .long), Cond.fieldLink RX0 18 "OrderedDesk$Entries" "count" "I", Cond.fieldLink RX0 9 "OrderedDesk$Entries" "keys" "[I", Cond.constantLong RX0 22 (1099511627776), Cond.methodLink RX2 65 yX0_dropPlaces, Cond.instanceMethod yX0_dropPlaces, Cond.selects RX0 yX0_dropPlaces yX0_dropPlaces, Cond.code yX0_dropPlaces cX0_dropPlaces 3 (some .int), Cond.methodLink RX0 40 yX0_dropLeaving, Cond.instanceMethod yX0_dropLeaving, Cond.selects RX0 yX0_dropLeaving yX0_dropLeaving, Cond.code yX0_dropLeaving cX0_dropLeaving 8 (some .int), Cond.fieldLink RX0 15 "OrderedDesk$Entries" "values" "[I"]
def wsX2_pollWithin_r2 : List Cond := [Cond.methodLink RX0 44 yJ9_floorMod_7cf53, Cond.static yJ9_floorMod_7cf53, Cond.initialized RJ9, Cond.code yJ9_floorMod_7cf53 cJ9_floorMod_7cf53 3 (some .int)]
def wsX2_pollWithin : List Cond := .code yX2_pollWithin cX2_pollWithin 7 (some .long) :: ((wsX2_pollWithin_r1 ++ wsX2_pollWithin_r2) ++ wsX20 ++ wsX00)
def wsX2_poll_r1 : List Cond := [Cond.fieldLink RX2 12 "OrderedDesk" "entries" "LOrderedDesk$Entries;", Cond.methodLink RX2 53 yX0_count, Cond.instanceMethod yX0_count, Cond.selects RX0 yX0_count yX0_count, Cond.initialized RX0, Cond.code yX0_count cX0_count 1 (some .int), Cond.fieldLink RX0 18 "OrderedDesk$Entries" "count" "I", Cond.methodLink RX2 61 yX2_pollWithin, Cond.instanceMethod yX2_pollWithin, Cond.selects RX2 yX2_pollWithin yX2_pollWithin, Cond.initialized RX2, Cond.code yX2_pollWithin cX2_pollWithin 7 (some .long), Cond.constantLong RX2 44 (1099511627776), Cond.methodLink RX2 118 yX2_keyWithin, Cond.instanceMethod yX2_keyWithin, Cond.selects RX2 yX2_keyWithin yX2_keyWithin, Cond.code yX2_keyWithin cX2_keyWithin 4 (some .long), Cond.methodLink RX2 92 yX0_keyAt, Cond.instanceMethod yX0_keyAt, Cond.selects RX0 yX0_keyAt yX0_keyAt, Cond.code yX0_keyAt cX0_keyAt 2 (some .long), Cond.fieldLink RX0 9 "OrderedDesk$Entries" "keys" "[I", Cond.constantLong RX0 22 (1099511627776), Cond.methodLink RX2 65 yX0_dropPlaces]
def wsX2_poll_r2 : List Cond := [Cond.instanceMethod yX0_dropPlaces, Cond.selects RX0 yX0_dropPlaces yX0_dropPlaces, Cond.code yX0_dropPlaces cX0_dropPlaces 3 (some .int), Cond.methodLink RX0 40 yX0_dropLeaving, Cond.instanceMethod yX0_dropLeaving, Cond.selects RX0 yX0_dropLeaving yX0_dropLeaving, Cond.code yX0_dropLeaving cX0_dropLeaving 8 (some .int), Cond.fieldLink RX0 15 "OrderedDesk$Entries" "values" "[I", Cond.methodLink RX0 44 yJ9_floorMod_7cf53, Cond.static yJ9_floorMod_7cf53, Cond.initialized RJ9, Cond.code yJ9_floorMod_7cf53 cJ9_floorMod_7cf53 3 (some .int)]
def wsX2_poll : List Cond := .code yX2_poll cX2_poll 2 (some .long) :: ((wsX2_poll_r1 ++ wsX2_poll_r2) ++ wsX20 ++ wsX00)
def wsX2_size : List Cond := .code yX2_size cX2_size 1 (some .int) :: ([.fieldLink RX2 12 "OrderedDesk" "entries" "LOrderedDesk$Entries;", .methodLink RX2 53 yX0_count, .instanceMethod yX0_count, .selects RX0 yX0_count yX0_count, .initialized RX0, .code yX0_count cX0_count 1 (some .int), .fieldLink RX0 18 "OrderedDesk$Entries" "count" "I"] ++ wsX20 ++ wsX00)
def wsX2_clear : List Cond := .code yX2_clear cX2_clear 1 (some .int) :: ([.fieldLink RX2 12 "OrderedDesk" "entries" "LOrderedDesk$Entries;", .methodLink RX2 53 yX0_count, .instanceMethod yX0_count, .selects RX0 yX0_count yX0_count, .initialized RX0, .code yX0_count cX0_count 1 (some .int), .fieldLink RX0 18 "OrderedDesk$Entries" "count" "I", .methodLink RX2 65 yX0_dropPlaces, .instanceMethod yX0_dropPlaces, .selects RX0 yX0_dropPlaces yX0_dropPlaces, .code yX0_dropPlaces cX0_dropPlaces 3 (some .int), .methodLink RX0 40 yX0_dropLeaving, .instanceMethod yX0_dropLeaving, .selects RX0 yX0_dropLeaving yX0_dropLeaving, .code yX0_dropLeaving cX0_dropLeaving 8 (some .int), .fieldLink RX0 9 "OrderedDesk$Entries" "keys" "[I", .fieldLink RX0 15 "OrderedDesk$Entries" "values" "[I", .methodLink RX0 44 yJ9_floorMod_7cf53, .static yJ9_floorMod_7cf53, .initialized RJ9, .code yJ9_floorMod_7cf53 cJ9_floorMod_7cf53 3 (some .int)] ++ wsX20 ++ wsX00)
def wsX2_look_r1 : List Cond := [Cond.fieldLink RX2 25 "OrderedDesk" "whole" "LOrderedDesk$Range;", Cond.fieldLink RX2 29 "OrderedDesk" "range" "LOrderedDesk$Range;", Cond.fieldLink RX2 32 "OrderedDesk" "falling" "Z", Cond.methodLink RX2 69 yX1_part, Cond.instanceMethod yX1_part, Cond.selects RX1 yX1_part yX1_part, Cond.initialized RX1, Cond.code yX1_part cX1_part 10 (some (.object "OrderedDesk$Range")), Cond.methodLink RX1 30 yX1_mayEndAt, Cond.instanceMethod yX1_mayEndAt, Cond.selects RX1 yX1_mayEndAt yX1_mayEndAt, Cond.code yX1_mayEndAt cX1_mayEndAt 4 (some .boolean), Cond.fieldLink RX1 7 "OrderedDesk$Range" "low" "J", Cond.fieldLink RX1 17 "OrderedDesk$Range" "high" "J", Cond.methodLink RX1 38 yX1_holds, Cond.instanceMethod yX1_holds, Cond.selects RX1 yX1_holds yX1_holds, Cond.code yX1_holds cX1_holds 3 (some .boolean), Cond.methodLink RX1 23 yX1_start, Cond.instanceMethod yX1_start, Cond.selects RX1 yX1_start yX1_start, Cond.code yX1_start cX1_start 1 (some .long), Cond.fieldLink RX1 13 "OrderedDesk$Range" "lowIn" "Z", Cond.methodLink RX1 27 yX1_stop]
def wsX2_look_r2 : List Cond := [Cond.instanceMethod yX1_stop, Cond.selects RX1 yX1_stop yX1_stop, Cond.code yX1_stop cX1_stop 1 (some .long), Cond.fieldLink RX1 20 "OrderedDesk$Range" "highIn" "Z", Cond.methodLink RX1 34 yX1_withEnd, Cond.instanceMethod yX1_withEnd, Cond.selects RX1 yX1_withEnd yX1_withEnd, Cond.code yX1_withEnd cX1_withEnd 5 (some (.object "OrderedDesk$Range")), Cond.classLink RX1 8 RX1, Cond.instantiable RX1 4, Cond.methodLink RX1 42 yX1_init, Cond.instanceMethod yX1_init, Cond.code yX1_init cX1_init 7 none, Cond.methodLink RX1 1 objectInit, Cond.instanceMethod objectInit, Cond.code objectInit ⟨#[0xb1]⟩ 1 none]
def wsX2_look : List Cond := .code yX2_look cX2_look 7 (some .int) :: ((wsX2_look_r1 ++ wsX2_look_r2) ++ wsX20 ++ wsX10)
def wsX2_narrow_r1 : List Cond := [Cond.fieldLink RX2 29 "OrderedDesk" "range" "LOrderedDesk$Range;", Cond.fieldLink RX2 32 "OrderedDesk" "falling" "Z", Cond.methodLink RX2 69 yX1_part, Cond.instanceMethod yX1_part, Cond.selects RX1 yX1_part yX1_part, Cond.initialized RX1, Cond.code yX1_part cX1_part 10 (some (.object "OrderedDesk$Range")), Cond.methodLink RX1 30 yX1_mayEndAt, Cond.instanceMethod yX1_mayEndAt, Cond.selects RX1 yX1_mayEndAt yX1_mayEndAt, Cond.code yX1_mayEndAt cX1_mayEndAt 4 (some .boolean), Cond.fieldLink RX1 7 "OrderedDesk$Range" "low" "J", Cond.fieldLink RX1 17 "OrderedDesk$Range" "high" "J", Cond.methodLink RX1 38 yX1_holds, Cond.instanceMethod yX1_holds, Cond.selects RX1 yX1_holds yX1_holds, Cond.code yX1_holds cX1_holds 3 (some .boolean), Cond.methodLink RX1 23 yX1_start, Cond.instanceMethod yX1_start, Cond.selects RX1 yX1_start yX1_start, Cond.code yX1_start cX1_start 1 (some .long), Cond.fieldLink RX1 13 "OrderedDesk$Range" "lowIn" "Z", Cond.methodLink RX1 27 yX1_stop, Cond.instanceMethod yX1_stop]
def wsX2_narrow_r2 : List Cond := [Cond.selects RX1 yX1_stop yX1_stop, Cond.code yX1_stop cX1_stop 1 (some .long), Cond.fieldLink RX1 20 "OrderedDesk$Range" "highIn" "Z", Cond.methodLink RX1 34 yX1_withEnd, Cond.instanceMethod yX1_withEnd, Cond.selects RX1 yX1_withEnd yX1_withEnd, Cond.code yX1_withEnd cX1_withEnd 5 (some (.object "OrderedDesk$Range")), Cond.classLink RX1 8 RX1, Cond.instantiable RX1 4, Cond.methodLink RX1 42 yX1_init, Cond.instanceMethod yX1_init, Cond.code yX1_init cX1_init 7 none, Cond.methodLink RX1 1 objectInit, Cond.instanceMethod objectInit, Cond.code objectInit ⟨#[0xb1]⟩ 1 none]
def wsX2_narrow : List Cond := .code yX2_narrow cX2_narrow 7 (some .int) :: ((wsX2_narrow_r1 ++ wsX2_narrow_r2) ++ wsX20 ++ wsX10)
def wsX2_viewBegin : List Cond := .code yX2_viewBegin cX2_viewBegin 1 (some .int) :: ([.fieldLink RX2 12 "OrderedDesk" "entries" "LOrderedDesk$Entries;", .fieldLink RX2 29 "OrderedDesk" "range" "LOrderedDesk$Range;", .methodLink RX2 99 yX1_start, .instanceMethod yX1_start, .selects RX1 yX1_start yX1_start, .initialized RX1, .code yX1_start cX1_start 1 (some .long), .fieldLink RX1 13 "OrderedDesk$Range" "lowIn" "Z", .fieldLink RX1 7 "OrderedDesk$Range" "low" "J", .methodLink RX2 103 yX0_placeOf, .instanceMethod yX0_placeOf, .selects RX0 yX0_placeOf yX0_placeOf, .initialized RX0, .code yX0_placeOf cX0_placeOf 4 (some .int), .fieldLink RX0 18 "OrderedDesk$Entries" "count" "I", .fieldLink RX0 9 "OrderedDesk$Entries" "keys" "[I"] ++ wsX20 ++ wsX10 ++ wsX00)
def wsX2_viewEnd_r1 : List Cond := [Cond.fieldLink RX2 12 "OrderedDesk" "entries" "LOrderedDesk$Entries;", Cond.fieldLink RX2 29 "OrderedDesk" "range" "LOrderedDesk$Range;", Cond.methodLink RX2 110 Lib.Math.max.name, Cond.static Lib.Math.max.name, Cond.initialized "java/lang/Math", Cond.code Lib.Math.max.name Lib.Math.max.code 2 (some .int), Cond.methodLink RX2 79 yX2_viewBegin, Cond.instanceMethod yX2_viewBegin, Cond.selects RX2 yX2_viewBegin yX2_viewBegin, Cond.initialized RX2, Cond.code yX2_viewBegin cX2_viewBegin 1 (some .int), Cond.methodLink RX2 99 yX1_start, Cond.instanceMethod yX1_start, Cond.selects RX1 yX1_start yX1_start, Cond.initialized RX1, Cond.code yX1_start cX1_start 1 (some .long), Cond.fieldLink RX1 13 "OrderedDesk$Range" "lowIn" "Z", Cond.fieldLink RX1 7 "OrderedDesk$Range" "low" "J", Cond.methodLink RX2 103 yX0_placeOf, Cond.instanceMethod yX0_placeOf, Cond.selects RX0 yX0_placeOf yX0_placeOf, Cond.initialized RX0, Cond.code yX0_placeOf cX0_placeOf 4 (some .int), Cond.fieldLink RX0 18 "OrderedDesk$Entries" "count" "I"]
def wsX2_viewEnd_r2 : List Cond := [Cond.fieldLink RX0 9 "OrderedDesk$Entries" "keys" "[I", Cond.methodLink RX2 107 yX1_stop, Cond.instanceMethod yX1_stop, Cond.selects RX1 yX1_stop yX1_stop, Cond.code yX1_stop cX1_stop 1 (some .long), Cond.fieldLink RX1 20 "OrderedDesk$Range" "highIn" "Z", Cond.fieldLink RX1 17 "OrderedDesk$Range" "high" "J"]
def wsX2_viewEnd : List Cond := .code yX2_viewEnd cX2_viewEnd 1 (some .int) :: ((wsX2_viewEnd_r1 ++ wsX2_viewEnd_r2) ++ wsX20 ++ wsX10 ++ wsX00)
def wsX2_viewSize_r1 : List Cond := [Cond.methodLink RX2 76 yX2_viewEnd, Cond.instanceMethod yX2_viewEnd, Cond.selects RX2 yX2_viewEnd yX2_viewEnd, Cond.initialized RX2, Cond.code yX2_viewEnd cX2_viewEnd 1 (some .int), Cond.fieldLink RX2 12 "OrderedDesk" "entries" "LOrderedDesk$Entries;", Cond.fieldLink RX2 29 "OrderedDesk" "range" "LOrderedDesk$Range;", Cond.methodLink RX2 110 Lib.Math.max.name, Cond.static Lib.Math.max.name, Cond.initialized "java/lang/Math", Cond.code Lib.Math.max.name Lib.Math.max.code 2 (some .int), Cond.methodLink RX2 79 yX2_viewBegin, Cond.instanceMethod yX2_viewBegin, Cond.selects RX2 yX2_viewBegin yX2_viewBegin, Cond.code yX2_viewBegin cX2_viewBegin 1 (some .int), Cond.methodLink RX2 99 yX1_start, Cond.instanceMethod yX1_start, Cond.selects RX1 yX1_start yX1_start, Cond.initialized RX1, Cond.code yX1_start cX1_start 1 (some .long), Cond.fieldLink RX1 13 "OrderedDesk$Range" "lowIn" "Z", Cond.fieldLink RX1 7 "OrderedDesk$Range" "low" "J", Cond.methodLink RX2 103 yX0_placeOf, Cond.instanceMethod yX0_placeOf]
def wsX2_viewSize_r2 : List Cond := [Cond.selects RX0 yX0_placeOf yX0_placeOf, Cond.initialized RX0, Cond.code yX0_placeOf cX0_placeOf 4 (some .int), Cond.fieldLink RX0 18 "OrderedDesk$Entries" "count" "I", Cond.fieldLink RX0 9 "OrderedDesk$Entries" "keys" "[I", Cond.methodLink RX2 107 yX1_stop, Cond.instanceMethod yX1_stop, Cond.selects RX1 yX1_stop yX1_stop, Cond.code yX1_stop cX1_stop 1 (some .long), Cond.fieldLink RX1 20 "OrderedDesk$Range" "highIn" "Z", Cond.fieldLink RX1 17 "OrderedDesk$Range" "high" "J"]
def wsX2_viewSize : List Cond := .code yX2_viewSize cX2_viewSize 1 (some .int) :: ((wsX2_viewSize_r1 ++ wsX2_viewSize_r2) ++ wsX20 ++ wsX10 ++ wsX00)
def wsX2_turn_r1 : List Cond := [Cond.fieldLink RX2 32 "OrderedDesk" "falling" "Z", Cond.methodLink RX2 73 yX2_viewSize, Cond.instanceMethod yX2_viewSize, Cond.selects RX2 yX2_viewSize yX2_viewSize, Cond.initialized RX2, Cond.code yX2_viewSize cX2_viewSize 1 (some .int), Cond.methodLink RX2 76 yX2_viewEnd, Cond.instanceMethod yX2_viewEnd, Cond.selects RX2 yX2_viewEnd yX2_viewEnd, Cond.code yX2_viewEnd cX2_viewEnd 1 (some .int), Cond.fieldLink RX2 12 "OrderedDesk" "entries" "LOrderedDesk$Entries;", Cond.fieldLink RX2 29 "OrderedDesk" "range" "LOrderedDesk$Range;", Cond.methodLink RX2 110 Lib.Math.max.name, Cond.static Lib.Math.max.name, Cond.initialized "java/lang/Math", Cond.code Lib.Math.max.name Lib.Math.max.code 2 (some .int), Cond.methodLink RX2 79 yX2_viewBegin, Cond.instanceMethod yX2_viewBegin, Cond.selects RX2 yX2_viewBegin yX2_viewBegin, Cond.code yX2_viewBegin cX2_viewBegin 1 (some .int), Cond.methodLink RX2 99 yX1_start, Cond.instanceMethod yX1_start, Cond.selects RX1 yX1_start yX1_start, Cond.initialized RX1]
def wsX2_turn_r2 : List Cond := [Cond.code yX1_start cX1_start 1 (some .long), Cond.fieldLink RX1 13 "OrderedDesk$Range" "lowIn" "Z", Cond.fieldLink RX1 7 "OrderedDesk$Range" "low" "J", Cond.methodLink RX2 103 yX0_placeOf, Cond.instanceMethod yX0_placeOf, Cond.selects RX0 yX0_placeOf yX0_placeOf, Cond.initialized RX0, Cond.code yX0_placeOf cX0_placeOf 4 (some .int), Cond.fieldLink RX0 18 "OrderedDesk$Entries" "count" "I", Cond.fieldLink RX0 9 "OrderedDesk$Entries" "keys" "[I", Cond.methodLink RX2 107 yX1_stop, Cond.instanceMethod yX1_stop, Cond.selects RX1 yX1_stop yX1_stop, Cond.code yX1_stop cX1_stop 1 (some .long), Cond.fieldLink RX1 20 "OrderedDesk$Range" "highIn" "Z", Cond.fieldLink RX1 17 "OrderedDesk$Range" "high" "J"]
def wsX2_turn : List Cond := .code yX2_turn cX2_turn 1 (some .int) :: ((wsX2_turn_r1 ++ wsX2_turn_r2) ++ wsX20 ++ wsX10 ++ wsX00)
def wsX2_viewPut_r1 : List Cond := [Cond.fieldLink RX2 29 "OrderedDesk" "range" "LOrderedDesk$Range;", Cond.fieldLink RX2 12 "OrderedDesk" "entries" "LOrderedDesk$Entries;", Cond.constantLong RX2 86 (1099511627777), Cond.methodLink RX2 82 yX1_holds, Cond.instanceMethod yX1_holds, Cond.selects RX1 yX1_holds yX1_holds, Cond.initialized RX1, Cond.code yX1_holds cX1_holds 3 (some .boolean), Cond.methodLink RX1 23 yX1_start, Cond.instanceMethod yX1_start, Cond.selects RX1 yX1_start yX1_start, Cond.code yX1_start cX1_start 1 (some .long), Cond.fieldLink RX1 13 "OrderedDesk$Range" "lowIn" "Z", Cond.fieldLink RX1 7 "OrderedDesk$Range" "low" "J", Cond.methodLink RX1 27 yX1_stop, Cond.instanceMethod yX1_stop, Cond.selects RX1 yX1_stop yX1_stop, Cond.code yX1_stop cX1_stop 1 (some .long), Cond.fieldLink RX1 20 "OrderedDesk$Range" "highIn" "Z", Cond.fieldLink RX1 17 "OrderedDesk$Range" "high" "J", Cond.methodLink RX2 36 yX0_store, Cond.instanceMethod yX0_store, Cond.selects RX0 yX0_store yX0_store, Cond.initialized RX0]
def wsX2_viewPut_r2 : List Cond := [Cond.code yX0_store cX0_store 6 (some .long), Cond.constantLong RX0 22 (1099511627776), Cond.fieldLink RX0 15 "OrderedDesk$Entries" "values" "[I", Cond.methodLink RX0 24 yX0_placeOf, Cond.instanceMethod yX0_placeOf, Cond.selects RX0 yX0_placeOf yX0_placeOf, Cond.code yX0_placeOf cX0_placeOf 4 (some .int), Cond.fieldLink RX0 18 "OrderedDesk$Entries" "count" "I", Cond.fieldLink RX0 9 "OrderedDesk$Entries" "keys" "[I", Cond.methodLink RX0 28 yX0_isAt, Cond.instanceMethod yX0_isAt, Cond.selects RX0 yX0_isAt yX0_isAt, Cond.code yX0_isAt cX0_isAt 3 (some .boolean), Cond.methodLink RX0 32 yX0_insert, Cond.instanceMethod yX0_insert, Cond.selects RX0 yX0_insert yX0_insert, Cond.code yX0_insert cX0_insert 5 none]
def wsX2_viewPut : List Cond := .code yX2_viewPut cX2_viewPut 3 (some .long) :: ((wsX2_viewPut_r1 ++ wsX2_viewPut_r2) ++ wsX20 ++ wsX10 ++ wsX00)
def wsX2_viewGet_r1 : List Cond := [Cond.fieldLink RX2 29 "OrderedDesk" "range" "LOrderedDesk$Range;", Cond.fieldLink RX2 12 "OrderedDesk" "entries" "LOrderedDesk$Entries;", Cond.constantLong RX2 44 (1099511627776), Cond.methodLink RX2 82 yX1_holds, Cond.instanceMethod yX1_holds, Cond.selects RX1 yX1_holds yX1_holds, Cond.initialized RX1, Cond.code yX1_holds cX1_holds 3 (some .boolean), Cond.methodLink RX1 23 yX1_start, Cond.instanceMethod yX1_start, Cond.selects RX1 yX1_start yX1_start, Cond.code yX1_start cX1_start 1 (some .long), Cond.fieldLink RX1 13 "OrderedDesk$Range" "lowIn" "Z", Cond.fieldLink RX1 7 "OrderedDesk$Range" "low" "J", Cond.methodLink RX1 27 yX1_stop, Cond.instanceMethod yX1_stop, Cond.selects RX1 yX1_stop yX1_stop, Cond.code yX1_stop cX1_stop 1 (some .long), Cond.fieldLink RX1 20 "OrderedDesk$Range" "highIn" "Z", Cond.fieldLink RX1 17 "OrderedDesk$Range" "high" "J", Cond.methodLink RX2 40 yX0_valueOf, Cond.instanceMethod yX0_valueOf, Cond.selects RX0 yX0_valueOf yX0_valueOf, Cond.initialized RX0]
def wsX2_viewGet_r2 : List Cond := [Cond.code yX0_valueOf cX0_valueOf 3 (some .long), Cond.fieldLink RX0 15 "OrderedDesk$Entries" "values" "[I", Cond.constantLong RX0 22 (1099511627776), Cond.methodLink RX0 24 yX0_placeOf, Cond.instanceMethod yX0_placeOf, Cond.selects RX0 yX0_placeOf yX0_placeOf, Cond.code yX0_placeOf cX0_placeOf 4 (some .int), Cond.fieldLink RX0 18 "OrderedDesk$Entries" "count" "I", Cond.fieldLink RX0 9 "OrderedDesk$Entries" "keys" "[I", Cond.methodLink RX0 28 yX0_isAt, Cond.instanceMethod yX0_isAt, Cond.selects RX0 yX0_isAt yX0_isAt, Cond.code yX0_isAt cX0_isAt 3 (some .boolean)]
def wsX2_viewGet : List Cond := .code yX2_viewGet cX2_viewGet 2 (some .long) :: ((wsX2_viewGet_r1 ++ wsX2_viewGet_r2) ++ wsX20 ++ wsX10 ++ wsX00)
def wsX2_viewRemove_r1 : List Cond := [Cond.fieldLink RX2 29 "OrderedDesk" "range" "LOrderedDesk$Range;", Cond.fieldLink RX2 12 "OrderedDesk" "entries" "LOrderedDesk$Entries;", Cond.constantLong RX2 44 (1099511627776), Cond.methodLink RX2 82 yX1_holds, Cond.instanceMethod yX1_holds, Cond.selects RX1 yX1_holds yX1_holds, Cond.initialized RX1, Cond.code yX1_holds cX1_holds 3 (some .boolean), Cond.methodLink RX1 23 yX1_start, Cond.instanceMethod yX1_start, Cond.selects RX1 yX1_start yX1_start, Cond.code yX1_start cX1_start 1 (some .long), Cond.fieldLink RX1 13 "OrderedDesk$Range" "lowIn" "Z", Cond.fieldLink RX1 7 "OrderedDesk$Range" "low" "J", Cond.methodLink RX1 27 yX1_stop, Cond.instanceMethod yX1_stop, Cond.selects RX1 yX1_stop yX1_stop, Cond.code yX1_stop cX1_stop 1 (some .long), Cond.fieldLink RX1 20 "OrderedDesk$Range" "highIn" "Z", Cond.fieldLink RX1 17 "OrderedDesk$Range" "high" "J", Cond.methodLink RX2 46 yX0_drop, Cond.instanceMethod yX0_drop, Cond.selects RX0 yX0_drop yX0_drop, Cond.initialized RX0]
def wsX2_viewRemove_r2 : List Cond := [Cond.code yX0_drop cX0_drop 5 (some .long), Cond.constantLong RX0 22 (1099511627776), Cond.fieldLink RX0 15 "OrderedDesk$Entries" "values" "[I", Cond.methodLink RX0 24 yX0_placeOf, Cond.instanceMethod yX0_placeOf, Cond.selects RX0 yX0_placeOf yX0_placeOf, Cond.code yX0_placeOf cX0_placeOf 4 (some .int), Cond.fieldLink RX0 18 "OrderedDesk$Entries" "count" "I", Cond.fieldLink RX0 9 "OrderedDesk$Entries" "keys" "[I", Cond.methodLink RX0 28 yX0_isAt, Cond.instanceMethod yX0_isAt, Cond.selects RX0 yX0_isAt yX0_isAt, Cond.code yX0_isAt cX0_isAt 3 (some .boolean), Cond.methodLink RX0 36 yX0_dropPlaces, Cond.instanceMethod yX0_dropPlaces, Cond.selects RX0 yX0_dropPlaces yX0_dropPlaces, Cond.code yX0_dropPlaces cX0_dropPlaces 3 (some .int), Cond.methodLink RX0 40 yX0_dropLeaving, Cond.instanceMethod yX0_dropLeaving, Cond.selects RX0 yX0_dropLeaving yX0_dropLeaving, Cond.code yX0_dropLeaving cX0_dropLeaving 8 (some .int), Cond.methodLink RX0 44 yJ9_floorMod_7cf53, Cond.static yJ9_floorMod_7cf53, Cond.initialized RJ9]
def wsX2_viewRemove_r3 : List Cond := [Cond.code yJ9_floorMod_7cf53 cJ9_floorMod_7cf53 3 (some .int)]
def wsX2_viewRemove : List Cond := .code yX2_viewRemove cX2_viewRemove 2 (some .long) :: ((wsX2_viewRemove_r1 ++ (wsX2_viewRemove_r2 ++ wsX2_viewRemove_r3)) ++ wsX20 ++ wsX10 ++ wsX00)
def wsX2_mirrored : List Cond := .code yX2_mirrored cX2_mirrored 1 (some .int) :: ([])
def wsX2_viewNear_r1 : List Cond := [Cond.fieldLink RX2 32 "OrderedDesk" "falling" "Z", Cond.methodLink RX2 88 yX2_mirrored, Cond.static yX2_mirrored, Cond.initialized RX2, Cond.code yX2_mirrored cX2_mirrored 1 (some .int), Cond.methodLink RX2 79 yX2_viewBegin, Cond.instanceMethod yX2_viewBegin, Cond.selects RX2 yX2_viewBegin yX2_viewBegin, Cond.code yX2_viewBegin cX2_viewBegin 1 (some .int), Cond.fieldLink RX2 12 "OrderedDesk" "entries" "LOrderedDesk$Entries;", Cond.fieldLink RX2 29 "OrderedDesk" "range" "LOrderedDesk$Range;", Cond.methodLink RX2 99 yX1_start, Cond.instanceMethod yX1_start, Cond.selects RX1 yX1_start yX1_start, Cond.initialized RX1, Cond.code yX1_start cX1_start 1 (some .long), Cond.fieldLink RX1 13 "OrderedDesk$Range" "lowIn" "Z", Cond.fieldLink RX1 7 "OrderedDesk$Range" "low" "J", Cond.methodLink RX2 103 yX0_placeOf, Cond.instanceMethod yX0_placeOf, Cond.selects RX0 yX0_placeOf yX0_placeOf, Cond.initialized RX0, Cond.code yX0_placeOf cX0_placeOf 4 (some .int), Cond.fieldLink RX0 18 "OrderedDesk$Entries" "count" "I"]
def wsX2_viewNear_r2 : List Cond := [Cond.fieldLink RX0 9 "OrderedDesk$Entries" "keys" "[I", Cond.methodLink RX2 76 yX2_viewEnd, Cond.instanceMethod yX2_viewEnd, Cond.selects RX2 yX2_viewEnd yX2_viewEnd, Cond.code yX2_viewEnd cX2_viewEnd 1 (some .int), Cond.methodLink RX2 110 Lib.Math.max.name, Cond.static Lib.Math.max.name, Cond.initialized "java/lang/Math", Cond.code Lib.Math.max.name Lib.Math.max.code 2 (some .int), Cond.methodLink RX2 107 yX1_stop, Cond.instanceMethod yX1_stop, Cond.selects RX1 yX1_stop yX1_stop, Cond.code yX1_stop cX1_stop 1 (some .long), Cond.fieldLink RX1 20 "OrderedDesk$Range" "highIn" "Z", Cond.fieldLink RX1 17 "OrderedDesk$Range" "high" "J", Cond.methodLink RX2 57 yX2_keyNear, Cond.instanceMethod yX2_keyNear, Cond.selects RX2 yX2_keyNear yX2_keyNear, Cond.code yX2_keyNear cX2_keyNear 7 (some .long), Cond.methodLink RX2 115 Lib.Math.min.name, Cond.static Lib.Math.min.name, Cond.code Lib.Math.min.name Lib.Math.min.code 2 (some .int), Cond.constantLong RX2 44 (1099511627776), Cond.methodLink RX2 118 yX2_keyWithin]
def wsX2_viewNear_r3 : List Cond := [Cond.instanceMethod yX2_keyWithin, Cond.selects RX2 yX2_keyWithin yX2_keyWithin, Cond.code yX2_keyWithin cX2_keyWithin 4 (some .long), Cond.methodLink RX2 92 yX0_keyAt, Cond.instanceMethod yX0_keyAt, Cond.selects RX0 yX0_keyAt yX0_keyAt, Cond.code yX0_keyAt cX0_keyAt 2 (some .long), Cond.constantLong RX0 22 (1099511627776)]
def wsX2_viewNear : List Cond := .code yX2_viewNear cX2_viewNear 3 (some .long) :: ((wsX2_viewNear_r1 ++ (wsX2_viewNear_r2 ++ wsX2_viewNear_r3)) ++ wsX20 ++ wsX10 ++ wsX00)
def wsX2_viewPoll_r1 : List Cond := [Cond.fieldLink RX2 32 "OrderedDesk" "falling" "Z", Cond.methodLink RX2 79 yX2_viewBegin, Cond.instanceMethod yX2_viewBegin, Cond.selects RX2 yX2_viewBegin yX2_viewBegin, Cond.initialized RX2, Cond.code yX2_viewBegin cX2_viewBegin 1 (some .int), Cond.fieldLink RX2 12 "OrderedDesk" "entries" "LOrderedDesk$Entries;", Cond.fieldLink RX2 29 "OrderedDesk" "range" "LOrderedDesk$Range;", Cond.methodLink RX2 99 yX1_start, Cond.instanceMethod yX1_start, Cond.selects RX1 yX1_start yX1_start, Cond.initialized RX1, Cond.code yX1_start cX1_start 1 (some .long), Cond.fieldLink RX1 13 "OrderedDesk$Range" "lowIn" "Z", Cond.fieldLink RX1 7 "OrderedDesk$Range" "low" "J", Cond.methodLink RX2 103 yX0_placeOf, Cond.instanceMethod yX0_placeOf, Cond.selects RX0 yX0_placeOf yX0_placeOf, Cond.initialized RX0, Cond.code yX0_placeOf cX0_placeOf 4 (some .int), Cond.fieldLink RX0 18 "OrderedDesk$Entries" "count" "I", Cond.fieldLink RX0 9 "OrderedDesk$Entries" "keys" "[I", Cond.methodLink RX2 76 yX2_viewEnd, Cond.instanceMethod yX2_viewEnd]
def wsX2_viewPoll_r2 : List Cond := [Cond.selects RX2 yX2_viewEnd yX2_viewEnd, Cond.code yX2_viewEnd cX2_viewEnd 1 (some .int), Cond.methodLink RX2 110 Lib.Math.max.name, Cond.static Lib.Math.max.name, Cond.initialized "java/lang/Math", Cond.code Lib.Math.max.name Lib.Math.max.code 2 (some .int), Cond.methodLink RX2 107 yX1_stop, Cond.instanceMethod yX1_stop, Cond.selects RX1 yX1_stop yX1_stop, Cond.code yX1_stop cX1_stop 1 (some .long), Cond.fieldLink RX1 20 "OrderedDesk$Range" "highIn" "Z", Cond.fieldLink RX1 17 "OrderedDesk$Range" "high" "J", Cond.methodLink RX2 61 yX2_pollWithin, Cond.instanceMethod yX2_pollWithin, Cond.selects RX2 yX2_pollWithin yX2_pollWithin, Cond.code yX2_pollWithin cX2_pollWithin 7 (some .long), Cond.constantLong RX2 44 (1099511627776), Cond.methodLink RX2 118 yX2_keyWithin, Cond.instanceMethod yX2_keyWithin, Cond.selects RX2 yX2_keyWithin yX2_keyWithin, Cond.code yX2_keyWithin cX2_keyWithin 4 (some .long), Cond.methodLink RX2 92 yX0_keyAt, Cond.instanceMethod yX0_keyAt, Cond.selects RX0 yX0_keyAt yX0_keyAt]
def wsX2_viewPoll_r3 : List Cond := [Cond.code yX0_keyAt cX0_keyAt 2 (some .long), Cond.constantLong RX0 22 (1099511627776), Cond.methodLink RX2 65 yX0_dropPlaces, Cond.instanceMethod yX0_dropPlaces, Cond.selects RX0 yX0_dropPlaces yX0_dropPlaces, Cond.code yX0_dropPlaces cX0_dropPlaces 3 (some .int), Cond.methodLink RX0 40 yX0_dropLeaving, Cond.instanceMethod yX0_dropLeaving, Cond.selects RX0 yX0_dropLeaving yX0_dropLeaving, Cond.code yX0_dropLeaving cX0_dropLeaving 8 (some .int), Cond.fieldLink RX0 15 "OrderedDesk$Entries" "values" "[I", Cond.methodLink RX0 44 yJ9_floorMod_7cf53, Cond.static yJ9_floorMod_7cf53, Cond.initialized RJ9, Cond.code yJ9_floorMod_7cf53 cJ9_floorMod_7cf53 3 (some .int)]
def wsX2_viewPoll : List Cond := .code yX2_viewPoll cX2_viewPoll 2 (some .long) :: ((wsX2_viewPoll_r1 ++ (wsX2_viewPoll_r2 ++ wsX2_viewPoll_r3)) ++ wsX20 ++ wsX10 ++ wsX00)
def wsX2_viewKey_r1 : List Cond := [Cond.constantLong RX2 44 (1099511627776), Cond.fieldLink RX2 12 "OrderedDesk" "entries" "LOrderedDesk$Entries;", Cond.fieldLink RX2 32 "OrderedDesk" "falling" "Z", Cond.methodLink RX2 79 yX2_viewBegin, Cond.instanceMethod yX2_viewBegin, Cond.selects RX2 yX2_viewBegin yX2_viewBegin, Cond.initialized RX2, Cond.code yX2_viewBegin cX2_viewBegin 1 (some .int), Cond.fieldLink RX2 29 "OrderedDesk" "range" "LOrderedDesk$Range;", Cond.methodLink RX2 99 yX1_start, Cond.instanceMethod yX1_start, Cond.selects RX1 yX1_start yX1_start, Cond.initialized RX1, Cond.code yX1_start cX1_start 1 (some .long), Cond.fieldLink RX1 13 "OrderedDesk$Range" "lowIn" "Z", Cond.fieldLink RX1 7 "OrderedDesk$Range" "low" "J", Cond.methodLink RX2 103 yX0_placeOf, Cond.instanceMethod yX0_placeOf, Cond.selects RX0 yX0_placeOf yX0_placeOf, Cond.initialized RX0, Cond.code yX0_placeOf cX0_placeOf 4 (some .int), Cond.fieldLink RX0 18 "OrderedDesk$Entries" "count" "I", Cond.fieldLink RX0 9 "OrderedDesk$Entries" "keys" "[I", Cond.methodLink RX2 76 yX2_viewEnd]
def wsX2_viewKey_r2 : List Cond := [Cond.instanceMethod yX2_viewEnd, Cond.selects RX2 yX2_viewEnd yX2_viewEnd, Cond.code yX2_viewEnd cX2_viewEnd 1 (some .int), Cond.methodLink RX2 110 Lib.Math.max.name, Cond.static Lib.Math.max.name, Cond.initialized "java/lang/Math", Cond.code Lib.Math.max.name Lib.Math.max.code 2 (some .int), Cond.methodLink RX2 107 yX1_stop, Cond.instanceMethod yX1_stop, Cond.selects RX1 yX1_stop yX1_stop, Cond.code yX1_stop cX1_stop 1 (some .long), Cond.fieldLink RX1 20 "OrderedDesk$Range" "highIn" "Z", Cond.fieldLink RX1 17 "OrderedDesk$Range" "high" "J", Cond.methodLink RX2 92 yX0_keyAt, Cond.instanceMethod yX0_keyAt, Cond.selects RX0 yX0_keyAt yX0_keyAt, Cond.code yX0_keyAt cX0_keyAt 2 (some .long), Cond.constantLong RX0 22 (1099511627776)]
def wsX2_viewKey : List Cond := .code yX2_viewKey cX2_viewKey 4 (some .long) :: ((wsX2_viewKey_r1 ++ wsX2_viewKey_r2) ++ wsX20 ++ wsX10 ++ wsX00)
def wsX2_walk_r1 : List Cond := [Cond.fieldLink RX2 32 "OrderedDesk" "falling" "Z", Cond.fieldLink RX2 12 "OrderedDesk" "entries" "LOrderedDesk$Entries;", Cond.methodLink RX2 79 yX2_viewBegin, Cond.instanceMethod yX2_viewBegin, Cond.selects RX2 yX2_viewBegin yX2_viewBegin, Cond.initialized RX2, Cond.code yX2_viewBegin cX2_viewBegin 1 (some .int), Cond.fieldLink RX2 29 "OrderedDesk" "range" "LOrderedDesk$Range;", Cond.methodLink RX2 99 yX1_start, Cond.instanceMethod yX1_start, Cond.selects RX1 yX1_start yX1_start, Cond.initialized RX1, Cond.code yX1_start cX1_start 1 (some .long), Cond.fieldLink RX1 13 "OrderedDesk$Range" "lowIn" "Z", Cond.fieldLink RX1 7 "OrderedDesk$Range" "low" "J", Cond.methodLink RX2 103 yX0_placeOf, Cond.instanceMethod yX0_placeOf, Cond.selects RX0 yX0_placeOf yX0_placeOf, Cond.initialized RX0, Cond.code yX0_placeOf cX0_placeOf 4 (some .int), Cond.fieldLink RX0 18 "OrderedDesk$Entries" "count" "I", Cond.fieldLink RX0 9 "OrderedDesk$Entries" "keys" "[I", Cond.methodLink RX2 76 yX2_viewEnd, Cond.instanceMethod yX2_viewEnd]
def wsX2_walk_r2 : List Cond := [Cond.selects RX2 yX2_viewEnd yX2_viewEnd, Cond.code yX2_viewEnd cX2_viewEnd 1 (some .int), Cond.methodLink RX2 110 Lib.Math.max.name, Cond.static Lib.Math.max.name, Cond.initialized "java/lang/Math", Cond.code Lib.Math.max.name Lib.Math.max.code 2 (some .int), Cond.methodLink RX2 107 yX1_stop, Cond.instanceMethod yX1_stop, Cond.selects RX1 yX1_stop yX1_stop, Cond.code yX1_stop cX1_stop 1 (some .long), Cond.fieldLink RX1 20 "OrderedDesk$Range" "highIn" "Z", Cond.fieldLink RX1 17 "OrderedDesk$Range" "high" "J", Cond.methodLink RX2 92 yX0_keyAt, Cond.instanceMethod yX0_keyAt, Cond.selects RX0 yX0_keyAt yX0_keyAt, Cond.code yX0_keyAt cX0_keyAt 2 (some .long), Cond.constantLong RX0 22 (1099511627776)]
def wsX2_walk : List Cond := .code yX2_walk cX2_walk 8 (some .long) :: ((wsX2_walk_r1 ++ wsX2_walk_r2) ++ wsX20 ++ wsX10 ++ wsX00)
def wsX2_sweep_r1 : List Cond := [Cond.fieldLink RX2 12 "OrderedDesk" "entries" "LOrderedDesk$Entries;", Cond.methodLink RX2 79 yX2_viewBegin, Cond.instanceMethod yX2_viewBegin, Cond.selects RX2 yX2_viewBegin yX2_viewBegin, Cond.initialized RX2, Cond.code yX2_viewBegin cX2_viewBegin 1 (some .int), Cond.fieldLink RX2 29 "OrderedDesk" "range" "LOrderedDesk$Range;", Cond.methodLink RX2 99 yX1_start, Cond.instanceMethod yX1_start, Cond.selects RX1 yX1_start yX1_start, Cond.initialized RX1, Cond.code yX1_start cX1_start 1 (some .long), Cond.fieldLink RX1 13 "OrderedDesk$Range" "lowIn" "Z", Cond.fieldLink RX1 7 "OrderedDesk$Range" "low" "J", Cond.methodLink RX2 103 yX0_placeOf, Cond.instanceMethod yX0_placeOf, Cond.selects RX0 yX0_placeOf yX0_placeOf, Cond.initialized RX0, Cond.code yX0_placeOf cX0_placeOf 4 (some .int), Cond.fieldLink RX0 18 "OrderedDesk$Entries" "count" "I", Cond.fieldLink RX0 9 "OrderedDesk$Entries" "keys" "[I", Cond.methodLink RX2 76 yX2_viewEnd, Cond.instanceMethod yX2_viewEnd, Cond.selects RX2 yX2_viewEnd yX2_viewEnd]
def wsX2_sweep_r2 : List Cond := [Cond.code yX2_viewEnd cX2_viewEnd 1 (some .int), Cond.methodLink RX2 110 Lib.Math.max.name, Cond.static Lib.Math.max.name, Cond.initialized "java/lang/Math", Cond.code Lib.Math.max.name Lib.Math.max.code 2 (some .int), Cond.methodLink RX2 107 yX1_stop, Cond.instanceMethod yX1_stop, Cond.selects RX1 yX1_stop yX1_stop, Cond.code yX1_stop cX1_stop 1 (some .long), Cond.fieldLink RX1 20 "OrderedDesk$Range" "highIn" "Z", Cond.fieldLink RX1 17 "OrderedDesk$Range" "high" "J", Cond.methodLink RX2 95 yX0_dropLeaving, Cond.instanceMethod yX0_dropLeaving, Cond.selects RX0 yX0_dropLeaving yX0_dropLeaving, Cond.code yX0_dropLeaving cX0_dropLeaving 8 (some .int), Cond.fieldLink RX0 15 "OrderedDesk$Entries" "values" "[I", Cond.methodLink RX0 44 yJ9_floorMod_7cf53, Cond.static yJ9_floorMod_7cf53, Cond.initialized RJ9, Cond.code yJ9_floorMod_7cf53 cJ9_floorMod_7cf53 3 (some .int)]
def wsX2_sweep : List Cond := .code yX2_sweep cX2_sweep 3 (some .int) :: ((wsX2_sweep_r1 ++ wsX2_sweep_r2) ++ wsX20 ++ wsX10 ++ wsX00)
def wsX2_viewClear_r1 : List Cond := [Cond.fieldLink RX2 12 "OrderedDesk" "entries" "LOrderedDesk$Entries;", Cond.methodLink RX2 79 yX2_viewBegin, Cond.instanceMethod yX2_viewBegin, Cond.selects RX2 yX2_viewBegin yX2_viewBegin, Cond.initialized RX2, Cond.code yX2_viewBegin cX2_viewBegin 1 (some .int), Cond.fieldLink RX2 29 "OrderedDesk" "range" "LOrderedDesk$Range;", Cond.methodLink RX2 99 yX1_start, Cond.instanceMethod yX1_start, Cond.selects RX1 yX1_start yX1_start, Cond.initialized RX1, Cond.code yX1_start cX1_start 1 (some .long), Cond.fieldLink RX1 13 "OrderedDesk$Range" "lowIn" "Z", Cond.fieldLink RX1 7 "OrderedDesk$Range" "low" "J", Cond.methodLink RX2 103 yX0_placeOf, Cond.instanceMethod yX0_placeOf, Cond.selects RX0 yX0_placeOf yX0_placeOf, Cond.initialized RX0, Cond.code yX0_placeOf cX0_placeOf 4 (some .int), Cond.fieldLink RX0 18 "OrderedDesk$Entries" "count" "I", Cond.fieldLink RX0 9 "OrderedDesk$Entries" "keys" "[I", Cond.methodLink RX2 76 yX2_viewEnd, Cond.instanceMethod yX2_viewEnd, Cond.selects RX2 yX2_viewEnd yX2_viewEnd]
def wsX2_viewClear_r2 : List Cond := [Cond.code yX2_viewEnd cX2_viewEnd 1 (some .int), Cond.methodLink RX2 110 Lib.Math.max.name, Cond.static Lib.Math.max.name, Cond.initialized "java/lang/Math", Cond.code Lib.Math.max.name Lib.Math.max.code 2 (some .int), Cond.methodLink RX2 107 yX1_stop, Cond.instanceMethod yX1_stop, Cond.selects RX1 yX1_stop yX1_stop, Cond.code yX1_stop cX1_stop 1 (some .long), Cond.fieldLink RX1 20 "OrderedDesk$Range" "highIn" "Z", Cond.fieldLink RX1 17 "OrderedDesk$Range" "high" "J", Cond.methodLink RX2 65 yX0_dropPlaces, Cond.instanceMethod yX0_dropPlaces, Cond.selects RX0 yX0_dropPlaces yX0_dropPlaces, Cond.code yX0_dropPlaces cX0_dropPlaces 3 (some .int), Cond.methodLink RX0 40 yX0_dropLeaving, Cond.instanceMethod yX0_dropLeaving, Cond.selects RX0 yX0_dropLeaving yX0_dropLeaving, Cond.code yX0_dropLeaving cX0_dropLeaving 8 (some .int), Cond.fieldLink RX0 15 "OrderedDesk$Entries" "values" "[I", Cond.methodLink RX0 44 yJ9_floorMod_7cf53, Cond.static yJ9_floorMod_7cf53, Cond.initialized RJ9, Cond.code yJ9_floorMod_7cf53 cJ9_floorMod_7cf53 3 (some .int)]
def wsX2_viewClear : List Cond := .code yX2_viewClear cX2_viewClear 1 (some .int) :: ((wsX2_viewClear_r1 ++ wsX2_viewClear_r2) ++ wsX20 ++ wsX10 ++ wsX00)
def wsX2_again : List Cond := .code yX2_again cX2_again 1 (some .int) :: ([.fieldLink RX2 12 "OrderedDesk" "entries" "LOrderedDesk$Entries;", .fieldLink RX2 25 "OrderedDesk" "whole" "LOrderedDesk$Range;", .fieldLink RX2 29 "OrderedDesk" "range" "LOrderedDesk$Range;", .fieldLink RX2 32 "OrderedDesk" "falling" "Z", .methodLink RX2 53 yX0_count, .instanceMethod yX0_count, .selects RX0 yX0_count yX0_count, .initialized RX0, .code yX0_count cX0_count 1 (some .int), .fieldLink RX0 18 "OrderedDesk$Entries" "count" "I"] ++ wsX20 ++ wsX00)
def wsX3_init : List Cond := .code yX3_init cX3_init 1 none :: ([.methodLink RX3 3 objectInit, .instanceMethod objectInit, .code objectInit ⟨#[0xb1]⟩ 1 none, .arrayClass .int, .fieldLink RX3 9 "OrderedDeskModel" "key" "[I", .fieldLink RX3 13 "OrderedDeskModel" "value" "[I"] ++ wsX30)
def wsX3_placeOf : List Cond := .code yX3_placeOf cX3_placeOf 3 (some .int) :: ([.fieldLink RX3 16 "OrderedDeskModel" "many" "I", .fieldLink RX3 9 "OrderedDeskModel" "key" "[I"] ++ wsX30)
def wsX3_isAt : List Cond := .code yX3_isAt cX3_isAt 3 (some .boolean) :: ([.fieldLink RX3 16 "OrderedDeskModel" "many" "I", .fieldLink RX3 9 "OrderedDeskModel" "key" "[I"] ++ wsX30)
def wsJ7_copyOf_59c91 : List Cond := .code yJ7_copyOf_59c91 cJ7_copyOf_59c91 3 (some (.array .int)) :: ([.methodLink RJ7 316 ⟨"[I", "clone", "()Ljava/lang/Object;"⟩, .sameMethod "[I" "java/lang/Object" "clone" "()Ljava/lang/Object;", .native ⟨"java/lang/Object", "clone", "()Ljava/lang/Object;"⟩, .instanceMethod ⟨"java/lang/Object", "clone", "()Ljava/lang/Object;"⟩, .selects "[I" ⟨"[I", "clone", "()Ljava/lang/Object;"⟩ ⟨"java/lang/Object", "clone", "()Ljava/lang/Object;"⟩, .classLink RJ7 317 "[I", .arrayClass .int, .methodLink RJ7 304 Lib.Math.min.name, .static Lib.Math.min.name, .initialized "java/lang/Math", .code Lib.Math.min.name Lib.Math.min.code 2 (some .int), .methodLink RJ7 150 arraycopyName, .native arraycopyName, .static arraycopyName, .initialized "java/lang/System"])
def wsX3_insert : List Cond := .code yX3_insert cX3_insert 5 none :: ([.fieldLink RX3 16 "OrderedDeskModel" "many" "I", .fieldLink RX3 9 "OrderedDeskModel" "key" "[I", .fieldLink RX3 13 "OrderedDeskModel" "value" "[I", .methodLink RX3 20 yJ7_copyOf_59c91, .static yJ7_copyOf_59c91, .initialized RJ7, .code yJ7_copyOf_59c91 cJ7_copyOf_59c91 3 (some (.array .int)), .methodLink RJ7 316 ⟨"[I", "clone", "()Ljava/lang/Object;"⟩, .sameMethod "[I" "java/lang/Object" "clone" "()Ljava/lang/Object;", .native ⟨"java/lang/Object", "clone", "()Ljava/lang/Object;"⟩, .instanceMethod ⟨"java/lang/Object", "clone", "()Ljava/lang/Object;"⟩, .selects "[I" ⟨"[I", "clone", "()Ljava/lang/Object;"⟩ ⟨"java/lang/Object", "clone", "()Ljava/lang/Object;"⟩, .classLink RJ7 317 "[I", .arrayClass .int, .methodLink RJ7 304 Lib.Math.min.name, .static Lib.Math.min.name, .initialized "java/lang/Math", .code Lib.Math.min.name Lib.Math.min.code 2 (some .int), .methodLink RJ7 150 arraycopyName, .native arraycopyName, .static arraycopyName, .initialized "java/lang/System"] ++ wsX30)
def wsX3_delete : List Cond := .code yX3_delete cX3_delete 3 none :: ([.fieldLink RX3 16 "OrderedDeskModel" "many" "I", .fieldLink RX3 9 "OrderedDeskModel" "key" "[I", .fieldLink RX3 13 "OrderedDeskModel" "value" "[I"] ++ wsX30)
def wsX3_put_r1 : List Cond := [Cond.constantLong RX3 38 (1099511627776), Cond.fieldLink RX3 13 "OrderedDeskModel" "value" "[I", Cond.methodLink RX3 26 yX3_placeOf, Cond.instanceMethod yX3_placeOf, Cond.selects RX3 yX3_placeOf yX3_placeOf, Cond.initialized RX3, Cond.code yX3_placeOf cX3_placeOf 3 (some .int), Cond.fieldLink RX3 16 "OrderedDeskModel" "many" "I", Cond.fieldLink RX3 9 "OrderedDeskModel" "key" "[I", Cond.methodLink RX3 30 yX3_isAt, Cond.instanceMethod yX3_isAt, Cond.selects RX3 yX3_isAt yX3_isAt, Cond.code yX3_isAt cX3_isAt 3 (some .boolean), Cond.methodLink RX3 34 yX3_insert, Cond.instanceMethod yX3_insert, Cond.selects RX3 yX3_insert yX3_insert, Cond.code yX3_insert cX3_insert 5 none, Cond.methodLink RX3 20 yJ7_copyOf_59c91, Cond.static yJ7_copyOf_59c91, Cond.initialized RJ7, Cond.code yJ7_copyOf_59c91 cJ7_copyOf_59c91 3 (some (.array .int)), Cond.methodLink RJ7 316 ⟨"[I", "clone", "()Ljava/lang/Object;"⟩, Cond.sameMethod "[I" "java/lang/Object" "clone" "()Ljava/lang/Object;", Cond.native ⟨"java/lang/Object", "clone", "()Ljava/lang/Object;"⟩]
def wsX3_put_r2 : List Cond := [Cond.instanceMethod ⟨"java/lang/Object", "clone", "()Ljava/lang/Object;"⟩, Cond.selects "[I" ⟨"[I", "clone", "()Ljava/lang/Object;"⟩ ⟨"java/lang/Object", "clone", "()Ljava/lang/Object;"⟩, Cond.classLink RJ7 317 "[I", Cond.arrayClass .int, Cond.methodLink RJ7 304 Lib.Math.min.name, Cond.static Lib.Math.min.name, Cond.initialized "java/lang/Math", Cond.code Lib.Math.min.name Lib.Math.min.code 2 (some .int), Cond.methodLink RJ7 150 arraycopyName, Cond.native arraycopyName, Cond.static arraycopyName, Cond.initialized "java/lang/System"]
def wsX3_put : List Cond := .code yX3_put cX3_put 5 (some .long) :: ((wsX3_put_r1 ++ wsX3_put_r2) ++ wsX30)
def wsX3_add_r1 : List Cond := [Cond.fieldLink RX3 13 "OrderedDeskModel" "value" "[I", Cond.constantLong RX3 38 (1099511627776), Cond.methodLink RX3 26 yX3_placeOf, Cond.instanceMethod yX3_placeOf, Cond.selects RX3 yX3_placeOf yX3_placeOf, Cond.initialized RX3, Cond.code yX3_placeOf cX3_placeOf 3 (some .int), Cond.fieldLink RX3 16 "OrderedDeskModel" "many" "I", Cond.fieldLink RX3 9 "OrderedDeskModel" "key" "[I", Cond.methodLink RX3 30 yX3_isAt, Cond.instanceMethod yX3_isAt, Cond.selects RX3 yX3_isAt yX3_isAt, Cond.code yX3_isAt cX3_isAt 3 (some .boolean), Cond.methodLink RX3 34 yX3_insert, Cond.instanceMethod yX3_insert, Cond.selects RX3 yX3_insert yX3_insert, Cond.code yX3_insert cX3_insert 5 none, Cond.methodLink RX3 20 yJ7_copyOf_59c91, Cond.static yJ7_copyOf_59c91, Cond.initialized RJ7, Cond.code yJ7_copyOf_59c91 cJ7_copyOf_59c91 3 (some (.array .int)), Cond.methodLink RJ7 316 ⟨"[I", "clone", "()Ljava/lang/Object;"⟩, Cond.sameMethod "[I" "java/lang/Object" "clone" "()Ljava/lang/Object;", Cond.native ⟨"java/lang/Object", "clone", "()Ljava/lang/Object;"⟩]
def wsX3_add_r2 : List Cond := [Cond.instanceMethod ⟨"java/lang/Object", "clone", "()Ljava/lang/Object;"⟩, Cond.selects "[I" ⟨"[I", "clone", "()Ljava/lang/Object;"⟩ ⟨"java/lang/Object", "clone", "()Ljava/lang/Object;"⟩, Cond.classLink RJ7 317 "[I", Cond.arrayClass .int, Cond.methodLink RJ7 304 Lib.Math.min.name, Cond.static Lib.Math.min.name, Cond.initialized "java/lang/Math", Cond.code Lib.Math.min.name Lib.Math.min.code 2 (some .int), Cond.methodLink RJ7 150 arraycopyName, Cond.native arraycopyName, Cond.static arraycopyName, Cond.initialized "java/lang/System"]
def wsX3_add : List Cond := .code yX3_add cX3_add 4 (some .long) :: ((wsX3_add_r1 ++ wsX3_add_r2) ++ wsX30)
def wsX3_get : List Cond := .code yX3_get cX3_get 3 (some .long) :: ([.fieldLink RX3 13 "OrderedDeskModel" "value" "[I", .constantLong RX3 38 (1099511627776), .methodLink RX3 26 yX3_placeOf, .instanceMethod yX3_placeOf, .selects RX3 yX3_placeOf yX3_placeOf, .initialized RX3, .code yX3_placeOf cX3_placeOf 3 (some .int), .fieldLink RX3 16 "OrderedDeskModel" "many" "I", .fieldLink RX3 9 "OrderedDeskModel" "key" "[I", .methodLink RX3 30 yX3_isAt, .instanceMethod yX3_isAt, .selects RX3 yX3_isAt yX3_isAt, .code yX3_isAt cX3_isAt 3 (some .boolean)] ++ wsX30)
def wsX3_remove : List Cond := .code yX3_remove cX3_remove 4 (some .long) :: ([.constantLong RX3 38 (1099511627776), .fieldLink RX3 13 "OrderedDeskModel" "value" "[I", .methodLink RX3 26 yX3_placeOf, .instanceMethod yX3_placeOf, .selects RX3 yX3_placeOf yX3_placeOf, .initialized RX3, .code yX3_placeOf cX3_placeOf 3 (some .int), .fieldLink RX3 16 "OrderedDeskModel" "many" "I", .fieldLink RX3 9 "OrderedDeskModel" "key" "[I", .methodLink RX3 30 yX3_isAt, .instanceMethod yX3_isAt, .selects RX3 yX3_isAt yX3_isAt, .code yX3_isAt cX3_isAt 3 (some .boolean), .methodLink RX3 40 yX3_delete, .instanceMethod yX3_delete, .selects RX3 yX3_delete yX3_delete, .code yX3_delete cX3_delete 3 none] ++ wsX30)
def wsX3_has : List Cond := .code yX3_has cX3_has 4 (some .boolean) :: ([.fieldLink RX3 16 "OrderedDeskModel" "many" "I", .fieldLink RX3 9 "OrderedDeskModel" "key" "[I", .fieldLink RX3 13 "OrderedDeskModel" "value" "[I"] ++ wsX30)
def wsX3_keyAt : List Cond := .code yX3_keyAt cX3_keyAt 4 (some .long) :: ([.fieldLink RX3 9 "OrderedDeskModel" "key" "[I", .constantLong RX3 38 (1099511627776)] ++ wsX30)
def wsX3_near : List Cond := .code yX3_near cX3_near 8 (some .long) :: ([.fieldLink RX3 9 "OrderedDeskModel" "key" "[I", .constantLong RX3 38 (1099511627776), .methodLink RX3 44 yX3_keyAt, .instanceMethod yX3_keyAt, .selects RX3 yX3_keyAt yX3_keyAt, .initialized RX3, .code yX3_keyAt cX3_keyAt 4 (some .long)] ++ wsX30)
def wsX3_near_ : List Cond := .code yX3_near_ cX3_near_ 3 (some .long) :: ([.fieldLink RX3 16 "OrderedDeskModel" "many" "I", .methodLink RX3 48 yX3_near, .instanceMethod yX3_near, .selects RX3 yX3_near yX3_near, .initialized RX3, .code yX3_near cX3_near 8 (some .long), .fieldLink RX3 9 "OrderedDeskModel" "key" "[I", .constantLong RX3 38 (1099511627776), .methodLink RX3 44 yX3_keyAt, .instanceMethod yX3_keyAt, .selects RX3 yX3_keyAt yX3_keyAt, .code yX3_keyAt cX3_keyAt 4 (some .long)] ++ wsX30)
def wsX3_poll : List Cond := .code yX3_poll cX3_poll 4 (some .long) :: ([.fieldLink RX3 16 "OrderedDeskModel" "many" "I", .constantLong RX3 38 (1099511627776), .fieldLink RX3 9 "OrderedDeskModel" "key" "[I", .methodLink RX3 40 yX3_delete, .instanceMethod yX3_delete, .selects RX3 yX3_delete yX3_delete, .initialized RX3, .code yX3_delete cX3_delete 3 none, .fieldLink RX3 13 "OrderedDeskModel" "value" "[I"] ++ wsX30)
def wsX3_size : List Cond := .code yX3_size cX3_size 1 (some .int) :: ([.fieldLink RX3 16 "OrderedDeskModel" "many" "I"] ++ wsX30)
def wsX3_clear : List Cond := .code yX3_clear cX3_clear 2 (some .int) :: ([.fieldLink RX3 16 "OrderedDeskModel" "many" "I"] ++ wsX30)
def wsX3_all : List Cond := .code yX3_all cX3_all 1 none :: ([.fieldLink RX3 52 "OrderedDeskModel" "hasLow" "Z", .fieldLink RX3 56 "OrderedDeskModel" "hasHigh" "Z", .fieldLink RX3 59 "OrderedDeskModel" "falls" "Z"] ++ wsX30)
def wsX3_begin : List Cond := .code yX3_begin cX3_begin 3 none :: ([.fieldLink RX3 52 "OrderedDeskModel" "hasLow" "Z", .fieldLink RX3 72 "OrderedDeskModel" "low" "I", .fieldLink RX3 75 "OrderedDeskModel" "lowIn" "Z"] ++ wsX30)
def wsX3_end : List Cond := .code yX3_end cX3_end 3 none :: ([.fieldLink RX3 56 "OrderedDeskModel" "hasHigh" "Z", .fieldLink RX3 78 "OrderedDeskModel" "high" "I", .fieldLink RX3 81 "OrderedDeskModel" "highIn" "Z"] ++ wsX30)
def wsX3_look : List Cond := .code yX3_look cX3_look 6 (some .int) :: ([.methodLink RX3 62 yX3_all, .instanceMethod yX3_all, .selects RX3 yX3_all yX3_all, .initialized RX3, .code yX3_all cX3_all 1 none, .fieldLink RX3 52 "OrderedDeskModel" "hasLow" "Z", .fieldLink RX3 56 "OrderedDeskModel" "hasHigh" "Z", .fieldLink RX3 59 "OrderedDeskModel" "falls" "Z", .methodLink RX3 65 yX3_begin, .instanceMethod yX3_begin, .selects RX3 yX3_begin yX3_begin, .code yX3_begin cX3_begin 3 none, .fieldLink RX3 72 "OrderedDeskModel" "low" "I", .fieldLink RX3 75 "OrderedDeskModel" "lowIn" "Z", .methodLink RX3 69 yX3_end, .instanceMethod yX3_end, .selects RX3 yX3_end yX3_end, .code yX3_end cX3_end 3 none, .fieldLink RX3 78 "OrderedDeskModel" "high" "I", .fieldLink RX3 81 "OrderedDeskModel" "highIn" "Z"] ++ wsX30)
def wsX3_isIn : List Cond := .code yX3_isIn cX3_isIn 2 (some .boolean) :: ([.fieldLink RX3 52 "OrderedDeskModel" "hasLow" "Z", .fieldLink RX3 72 "OrderedDeskModel" "low" "I", .fieldLink RX3 75 "OrderedDeskModel" "lowIn" "Z", .fieldLink RX3 56 "OrderedDeskModel" "hasHigh" "Z", .fieldLink RX3 78 "OrderedDeskModel" "high" "I", .fieldLink RX3 81 "OrderedDeskModel" "highIn" "Z"] ++ wsX30)
def wsX3_mayEnd : List Cond := .code yX3_mayEnd cX3_mayEnd 3 (some .boolean) :: ([.fieldLink RX3 52 "OrderedDeskModel" "hasLow" "Z", .fieldLink RX3 72 "OrderedDeskModel" "low" "I", .fieldLink RX3 56 "OrderedDeskModel" "hasHigh" "Z", .fieldLink RX3 78 "OrderedDeskModel" "high" "I", .methodLink RX3 84 yX3_isIn, .instanceMethod yX3_isIn, .selects RX3 yX3_isIn yX3_isIn, .initialized RX3, .code yX3_isIn cX3_isIn 2 (some .boolean), .fieldLink RX3 75 "OrderedDeskModel" "lowIn" "Z", .fieldLink RX3 81 "OrderedDeskModel" "highIn" "Z"] ++ wsX30)
def wsX3_narrow : List Cond := .code yX3_narrow cX3_narrow 6 (some .int) :: ([.fieldLink RX3 59 "OrderedDeskModel" "falls" "Z", .methodLink RX3 88 yX3_mayEnd, .instanceMethod yX3_mayEnd, .selects RX3 yX3_mayEnd yX3_mayEnd, .initialized RX3, .code yX3_mayEnd cX3_mayEnd 3 (some .boolean), .fieldLink RX3 52 "OrderedDeskModel" "hasLow" "Z", .fieldLink RX3 72 "OrderedDeskModel" "low" "I", .fieldLink RX3 56 "OrderedDeskModel" "hasHigh" "Z", .fieldLink RX3 78 "OrderedDeskModel" "high" "I", .methodLink RX3 84 yX3_isIn, .instanceMethod yX3_isIn, .selects RX3 yX3_isIn yX3_isIn, .code yX3_isIn cX3_isIn 2 (some .boolean), .fieldLink RX3 75 "OrderedDeskModel" "lowIn" "Z", .fieldLink RX3 81 "OrderedDeskModel" "highIn" "Z", .methodLink RX3 69 yX3_end, .instanceMethod yX3_end, .selects RX3 yX3_end yX3_end, .code yX3_end cX3_end 3 none, .methodLink RX3 65 yX3_begin, .instanceMethod yX3_begin, .selects RX3 yX3_begin yX3_begin, .code yX3_begin cX3_begin 3 none] ++ wsX30)
def wsX3_first : List Cond := .code yX3_first cX3_first 2 (some .int) :: ([.fieldLink RX3 16 "OrderedDeskModel" "many" "I", .fieldLink RX3 9 "OrderedDeskModel" "key" "[I", .fieldLink RX3 56 "OrderedDeskModel" "hasHigh" "Z", .fieldLink RX3 78 "OrderedDeskModel" "high" "I", .methodLink RX3 84 yX3_isIn, .instanceMethod yX3_isIn, .selects RX3 yX3_isIn yX3_isIn, .initialized RX3, .code yX3_isIn cX3_isIn 2 (some .boolean), .fieldLink RX3 52 "OrderedDeskModel" "hasLow" "Z", .fieldLink RX3 72 "OrderedDeskModel" "low" "I", .fieldLink RX3 75 "OrderedDeskModel" "lowIn" "Z", .fieldLink RX3 81 "OrderedDeskModel" "highIn" "Z"] ++ wsX30)
def wsX3_behind : List Cond := .code yX3_behind cX3_behind 2 (some .int) :: ([.fieldLink RX3 16 "OrderedDeskModel" "many" "I", .fieldLink RX3 9 "OrderedDeskModel" "key" "[I", .methodLink RX3 96 yX3_first, .instanceMethod yX3_first, .selects RX3 yX3_first yX3_first, .initialized RX3, .code yX3_first cX3_first 2 (some .int), .fieldLink RX3 56 "OrderedDeskModel" "hasHigh" "Z", .fieldLink RX3 78 "OrderedDeskModel" "high" "I", .methodLink RX3 84 yX3_isIn, .instanceMethod yX3_isIn, .selects RX3 yX3_isIn yX3_isIn, .code yX3_isIn cX3_isIn 2 (some .boolean), .fieldLink RX3 52 "OrderedDeskModel" "hasLow" "Z", .fieldLink RX3 72 "OrderedDeskModel" "low" "I", .fieldLink RX3 75 "OrderedDeskModel" "lowIn" "Z", .fieldLink RX3 81 "OrderedDeskModel" "highIn" "Z"] ++ wsX30)
def wsX3_viewSize : List Cond := .code yX3_viewSize cX3_viewSize 1 (some .int) :: ([.methodLink RX3 99 yX3_behind, .instanceMethod yX3_behind, .selects RX3 yX3_behind yX3_behind, .initialized RX3, .code yX3_behind cX3_behind 2 (some .int), .fieldLink RX3 16 "OrderedDeskModel" "many" "I", .fieldLink RX3 9 "OrderedDeskModel" "key" "[I", .methodLink RX3 96 yX3_first, .instanceMethod yX3_first, .selects RX3 yX3_first yX3_first, .code yX3_first cX3_first 2 (some .int), .fieldLink RX3 56 "OrderedDeskModel" "hasHigh" "Z", .fieldLink RX3 78 "OrderedDeskModel" "high" "I", .methodLink RX3 84 yX3_isIn, .instanceMethod yX3_isIn, .selects RX3 yX3_isIn yX3_isIn, .code yX3_isIn cX3_isIn 2 (some .boolean), .fieldLink RX3 52 "OrderedDeskModel" "hasLow" "Z", .fieldLink RX3 72 "OrderedDeskModel" "low" "I", .fieldLink RX3 75 "OrderedDeskModel" "lowIn" "Z", .fieldLink RX3 81 "OrderedDeskModel" "highIn" "Z"] ++ wsX30)
def wsX3_turn_r1 : List Cond := [Cond.fieldLink RX3 59 "OrderedDeskModel" "falls" "Z", Cond.methodLink RX3 92 yX3_viewSize, Cond.instanceMethod yX3_viewSize, Cond.selects RX3 yX3_viewSize yX3_viewSize, Cond.initialized RX3, Cond.code yX3_viewSize cX3_viewSize 1 (some .int), Cond.methodLink RX3 99 yX3_behind, Cond.instanceMethod yX3_behind, Cond.selects RX3 yX3_behind yX3_behind, Cond.code yX3_behind cX3_behind 2 (some .int), Cond.fieldLink RX3 16 "OrderedDeskModel" "many" "I", Cond.fieldLink RX3 9 "OrderedDeskModel" "key" "[I", Cond.methodLink RX3 96 yX3_first, Cond.instanceMethod yX3_first, Cond.selects RX3 yX3_first yX3_first, Cond.code yX3_first cX3_first 2 (some .int), Cond.fieldLink RX3 56 "OrderedDeskModel" "hasHigh" "Z", Cond.fieldLink RX3 78 "OrderedDeskModel" "high" "I", Cond.methodLink RX3 84 yX3_isIn, Cond.instanceMethod yX3_isIn, Cond.selects RX3 yX3_isIn yX3_isIn, Cond.code yX3_isIn cX3_isIn 2 (some .boolean), Cond.fieldLink RX3 52 "OrderedDeskModel" "hasLow" "Z", Cond.fieldLink RX3 72 "OrderedDeskModel" "low" "I"]
def wsX3_turn_r2 : List Cond := [Cond.fieldLink RX3 75 "OrderedDeskModel" "lowIn" "Z", Cond.fieldLink RX3 81 "OrderedDeskModel" "highIn" "Z"]
def wsX3_turn : List Cond := .code yX3_turn cX3_turn 1 (some .int) :: ((wsX3_turn_r1 ++ wsX3_turn_r2) ++ wsX30)
def wsX3_viewPut_r1 : List Cond := [Cond.constantLong RX3 106 (1099511627777), Cond.methodLink RX3 84 yX3_isIn, Cond.instanceMethod yX3_isIn, Cond.selects RX3 yX3_isIn yX3_isIn, Cond.initialized RX3, Cond.code yX3_isIn cX3_isIn 2 (some .boolean), Cond.fieldLink RX3 52 "OrderedDeskModel" "hasLow" "Z", Cond.fieldLink RX3 72 "OrderedDeskModel" "low" "I", Cond.fieldLink RX3 75 "OrderedDeskModel" "lowIn" "Z", Cond.fieldLink RX3 56 "OrderedDeskModel" "hasHigh" "Z", Cond.fieldLink RX3 78 "OrderedDeskModel" "high" "I", Cond.fieldLink RX3 81 "OrderedDeskModel" "highIn" "Z", Cond.methodLink RX3 102 yX3_put, Cond.instanceMethod yX3_put, Cond.selects RX3 yX3_put yX3_put, Cond.code yX3_put cX3_put 5 (some .long), Cond.constantLong RX3 38 (1099511627776), Cond.fieldLink RX3 13 "OrderedDeskModel" "value" "[I", Cond.methodLink RX3 26 yX3_placeOf, Cond.instanceMethod yX3_placeOf, Cond.selects RX3 yX3_placeOf yX3_placeOf, Cond.code yX3_placeOf cX3_placeOf 3 (some .int), Cond.fieldLink RX3 16 "OrderedDeskModel" "many" "I", Cond.fieldLink RX3 9 "OrderedDeskModel" "key" "[I"]
def wsX3_viewPut_r2 : List Cond := [Cond.methodLink RX3 30 yX3_isAt, Cond.instanceMethod yX3_isAt, Cond.selects RX3 yX3_isAt yX3_isAt, Cond.code yX3_isAt cX3_isAt 3 (some .boolean), Cond.methodLink RX3 34 yX3_insert, Cond.instanceMethod yX3_insert, Cond.selects RX3 yX3_insert yX3_insert, Cond.code yX3_insert cX3_insert 5 none, Cond.methodLink RX3 20 yJ7_copyOf_59c91, Cond.static yJ7_copyOf_59c91, Cond.initialized RJ7, Cond.code yJ7_copyOf_59c91 cJ7_copyOf_59c91 3 (some (.array .int)), Cond.methodLink RJ7 316 ⟨"[I", "clone", "()Ljava/lang/Object;"⟩, Cond.sameMethod "[I" "java/lang/Object" "clone" "()Ljava/lang/Object;", Cond.native ⟨"java/lang/Object", "clone", "()Ljava/lang/Object;"⟩, Cond.instanceMethod ⟨"java/lang/Object", "clone", "()Ljava/lang/Object;"⟩, Cond.selects "[I" ⟨"[I", "clone", "()Ljava/lang/Object;"⟩ ⟨"java/lang/Object", "clone", "()Ljava/lang/Object;"⟩, Cond.classLink RJ7 317 "[I", Cond.arrayClass .int, Cond.methodLink RJ7 304 Lib.Math.min.name, Cond.static Lib.Math.min.name, Cond.initialized "java/lang/Math", Cond.code Lib.Math.min.name Lib.Math.min.code 2 (some .int), Cond.methodLink RJ7 150 arraycopyName]
def wsX3_viewPut_r3 : List Cond := [Cond.native arraycopyName, Cond.static arraycopyName, Cond.initialized "java/lang/System"]
def wsX3_viewPut : List Cond := .code yX3_viewPut cX3_viewPut 3 (some .long) :: ((wsX3_viewPut_r1 ++ (wsX3_viewPut_r2 ++ wsX3_viewPut_r3)) ++ wsX30)
def wsX3_viewGet_r1 : List Cond := [Cond.constantLong RX3 38 (1099511627776), Cond.methodLink RX3 84 yX3_isIn, Cond.instanceMethod yX3_isIn, Cond.selects RX3 yX3_isIn yX3_isIn, Cond.initialized RX3, Cond.code yX3_isIn cX3_isIn 2 (some .boolean), Cond.fieldLink RX3 52 "OrderedDeskModel" "hasLow" "Z", Cond.fieldLink RX3 72 "OrderedDeskModel" "low" "I", Cond.fieldLink RX3 75 "OrderedDeskModel" "lowIn" "Z", Cond.fieldLink RX3 56 "OrderedDeskModel" "hasHigh" "Z", Cond.fieldLink RX3 78 "OrderedDeskModel" "high" "I", Cond.fieldLink RX3 81 "OrderedDeskModel" "highIn" "Z", Cond.methodLink RX3 108 yX3_get, Cond.instanceMethod yX3_get, Cond.selects RX3 yX3_get yX3_get, Cond.code yX3_get cX3_get 3 (some .long), Cond.fieldLink RX3 13 "OrderedDeskModel" "value" "[I", Cond.methodLink RX3 26 yX3_placeOf, Cond.instanceMethod yX3_placeOf, Cond.selects RX3 yX3_placeOf yX3_placeOf, Cond.code yX3_placeOf cX3_placeOf 3 (some .int), Cond.fieldLink RX3 16 "OrderedDeskModel" "many" "I", Cond.fieldLink RX3 9 "OrderedDeskModel" "key" "[I", Cond.methodLink RX3 30 yX3_isAt]
def wsX3_viewGet_r2 : List Cond := [Cond.instanceMethod yX3_isAt, Cond.selects RX3 yX3_isAt yX3_isAt, Cond.code yX3_isAt cX3_isAt 3 (some .boolean)]
def wsX3_viewGet : List Cond := .code yX3_viewGet cX3_viewGet 2 (some .long) :: ((wsX3_viewGet_r1 ++ wsX3_viewGet_r2) ++ wsX30)
def wsX3_viewRemove_r1 : List Cond := [Cond.constantLong RX3 38 (1099511627776), Cond.methodLink RX3 84 yX3_isIn, Cond.instanceMethod yX3_isIn, Cond.selects RX3 yX3_isIn yX3_isIn, Cond.initialized RX3, Cond.code yX3_isIn cX3_isIn 2 (some .boolean), Cond.fieldLink RX3 52 "OrderedDeskModel" "hasLow" "Z", Cond.fieldLink RX3 72 "OrderedDeskModel" "low" "I", Cond.fieldLink RX3 75 "OrderedDeskModel" "lowIn" "Z", Cond.fieldLink RX3 56 "OrderedDeskModel" "hasHigh" "Z", Cond.fieldLink RX3 78 "OrderedDeskModel" "high" "I", Cond.fieldLink RX3 81 "OrderedDeskModel" "highIn" "Z", Cond.methodLink RX3 112 yX3_remove, Cond.instanceMethod yX3_remove, Cond.selects RX3 yX3_remove yX3_remove, Cond.code yX3_remove cX3_remove 4 (some .long), Cond.fieldLink RX3 13 "OrderedDeskModel" "value" "[I", Cond.methodLink RX3 26 yX3_placeOf, Cond.instanceMethod yX3_placeOf, Cond.selects RX3 yX3_placeOf yX3_placeOf, Cond.code yX3_placeOf cX3_placeOf 3 (some .int), Cond.fieldLink RX3 16 "OrderedDeskModel" "many" "I", Cond.fieldLink RX3 9 "OrderedDeskModel" "key" "[I", Cond.methodLink RX3 30 yX3_isAt]
def wsX3_viewRemove_r2 : List Cond := [Cond.instanceMethod yX3_isAt, Cond.selects RX3 yX3_isAt yX3_isAt, Cond.code yX3_isAt cX3_isAt 3 (some .boolean), Cond.methodLink RX3 40 yX3_delete, Cond.instanceMethod yX3_delete, Cond.selects RX3 yX3_delete yX3_delete, Cond.code yX3_delete cX3_delete 3 none]
def wsX3_viewRemove : List Cond := .code yX3_viewRemove cX3_viewRemove 2 (some .long) :: ((wsX3_viewRemove_r1 ++ wsX3_viewRemove_r2) ++ wsX30)
def wsX3_viewNear_r1 : List Cond := [Cond.constantLong RX3 38 (1099511627776), Cond.fieldLink RX3 59 "OrderedDeskModel" "falls" "Z", Cond.methodLink RX3 96 yX3_first, Cond.instanceMethod yX3_first, Cond.selects RX3 yX3_first yX3_first, Cond.initialized RX3, Cond.code yX3_first cX3_first 2 (some .int), Cond.fieldLink RX3 16 "OrderedDeskModel" "many" "I", Cond.fieldLink RX3 9 "OrderedDeskModel" "key" "[I", Cond.fieldLink RX3 56 "OrderedDeskModel" "hasHigh" "Z", Cond.fieldLink RX3 78 "OrderedDeskModel" "high" "I", Cond.methodLink RX3 84 yX3_isIn, Cond.instanceMethod yX3_isIn, Cond.selects RX3 yX3_isIn yX3_isIn, Cond.code yX3_isIn cX3_isIn 2 (some .boolean), Cond.fieldLink RX3 52 "OrderedDeskModel" "hasLow" "Z", Cond.fieldLink RX3 72 "OrderedDeskModel" "low" "I", Cond.fieldLink RX3 75 "OrderedDeskModel" "lowIn" "Z", Cond.fieldLink RX3 81 "OrderedDeskModel" "highIn" "Z", Cond.methodLink RX3 99 yX3_behind, Cond.instanceMethod yX3_behind, Cond.selects RX3 yX3_behind yX3_behind, Cond.code yX3_behind cX3_behind 2 (some .int), Cond.methodLink RX3 48 yX3_near]
def wsX3_viewNear_r2 : List Cond := [Cond.instanceMethod yX3_near, Cond.selects RX3 yX3_near yX3_near, Cond.code yX3_near cX3_near 8 (some .long), Cond.methodLink RX3 44 yX3_keyAt, Cond.instanceMethod yX3_keyAt, Cond.selects RX3 yX3_keyAt yX3_keyAt, Cond.code yX3_keyAt cX3_keyAt 4 (some .long)]
def wsX3_viewNear : List Cond := .code yX3_viewNear cX3_viewNear 3 (some .long) :: ((wsX3_viewNear_r1 ++ wsX3_viewNear_r2) ++ wsX30)
def wsX3_viewPoll_r1 : List Cond := [Cond.constantLong RX3 38 (1099511627776), Cond.fieldLink RX3 59 "OrderedDeskModel" "falls" "Z", Cond.fieldLink RX3 9 "OrderedDeskModel" "key" "[I", Cond.methodLink RX3 96 yX3_first, Cond.instanceMethod yX3_first, Cond.selects RX3 yX3_first yX3_first, Cond.initialized RX3, Cond.code yX3_first cX3_first 2 (some .int), Cond.fieldLink RX3 16 "OrderedDeskModel" "many" "I", Cond.fieldLink RX3 56 "OrderedDeskModel" "hasHigh" "Z", Cond.fieldLink RX3 78 "OrderedDeskModel" "high" "I", Cond.methodLink RX3 84 yX3_isIn, Cond.instanceMethod yX3_isIn, Cond.selects RX3 yX3_isIn yX3_isIn, Cond.code yX3_isIn cX3_isIn 2 (some .boolean), Cond.fieldLink RX3 52 "OrderedDeskModel" "hasLow" "Z", Cond.fieldLink RX3 72 "OrderedDeskModel" "low" "I", Cond.fieldLink RX3 75 "OrderedDeskModel" "lowIn" "Z", Cond.fieldLink RX3 81 "OrderedDeskModel" "highIn" "Z", Cond.methodLink RX3 99 yX3_behind, Cond.instanceMethod yX3_behind, Cond.selects RX3 yX3_behind yX3_behind, Cond.code yX3_behind cX3_behind 2 (some .int), Cond.methodLink RX3 40 yX3_delete]
def wsX3_viewPoll_r2 : List Cond := [Cond.instanceMethod yX3_delete, Cond.selects RX3 yX3_delete yX3_delete, Cond.code yX3_delete cX3_delete 3 none, Cond.fieldLink RX3 13 "OrderedDeskModel" "value" "[I"]
def wsX3_viewPoll : List Cond := .code yX3_viewPoll cX3_viewPoll 6 (some .long) :: ((wsX3_viewPoll_r1 ++ wsX3_viewPoll_r2) ++ wsX30)
def wsX3_viewKey : List Cond := .code yX3_viewKey cX3_viewKey 4 (some .long) :: ([.constantLong RX3 38 (1099511627776), .fieldLink RX3 9 "OrderedDeskModel" "key" "[I", .fieldLink RX3 59 "OrderedDeskModel" "falls" "Z", .methodLink RX3 96 yX3_first, .instanceMethod yX3_first, .selects RX3 yX3_first yX3_first, .initialized RX3, .code yX3_first cX3_first 2 (some .int), .fieldLink RX3 16 "OrderedDeskModel" "many" "I", .fieldLink RX3 56 "OrderedDeskModel" "hasHigh" "Z", .fieldLink RX3 78 "OrderedDeskModel" "high" "I", .methodLink RX3 84 yX3_isIn, .instanceMethod yX3_isIn, .selects RX3 yX3_isIn yX3_isIn, .code yX3_isIn cX3_isIn 2 (some .boolean), .fieldLink RX3 52 "OrderedDeskModel" "hasLow" "Z", .fieldLink RX3 72 "OrderedDeskModel" "low" "I", .fieldLink RX3 75 "OrderedDeskModel" "lowIn" "Z", .fieldLink RX3 81 "OrderedDeskModel" "highIn" "Z", .methodLink RX3 99 yX3_behind, .instanceMethod yX3_behind, .selects RX3 yX3_behind yX3_behind, .code yX3_behind cX3_behind 2 (some .int)] ++ wsX30)
def wsX3_walk : List Cond := .code yX3_walk cX3_walk 6 (some .long) :: ([.fieldLink RX3 9 "OrderedDeskModel" "key" "[I", .fieldLink RX3 59 "OrderedDeskModel" "falls" "Z", .methodLink RX3 96 yX3_first, .instanceMethod yX3_first, .selects RX3 yX3_first yX3_first, .initialized RX3, .code yX3_first cX3_first 2 (some .int), .fieldLink RX3 16 "OrderedDeskModel" "many" "I", .fieldLink RX3 56 "OrderedDeskModel" "hasHigh" "Z", .fieldLink RX3 78 "OrderedDeskModel" "high" "I", .methodLink RX3 84 yX3_isIn, .instanceMethod yX3_isIn, .selects RX3 yX3_isIn yX3_isIn, .code yX3_isIn cX3_isIn 2 (some .boolean), .fieldLink RX3 52 "OrderedDeskModel" "hasLow" "Z", .fieldLink RX3 72 "OrderedDeskModel" "low" "I", .fieldLink RX3 75 "OrderedDeskModel" "lowIn" "Z", .fieldLink RX3 81 "OrderedDeskModel" "highIn" "Z", .methodLink RX3 99 yX3_behind, .instanceMethod yX3_behind, .selects RX3 yX3_behind yX3_behind, .code yX3_behind cX3_behind 2 (some .int)] ++ wsX30)
def wsX3_sweep_r1 : List Cond := [Cond.fieldLink RX3 9 "OrderedDeskModel" "key" "[I", Cond.methodLink RX3 96 yX3_first, Cond.instanceMethod yX3_first, Cond.selects RX3 yX3_first yX3_first, Cond.initialized RX3, Cond.code yX3_first cX3_first 2 (some .int), Cond.fieldLink RX3 16 "OrderedDeskModel" "many" "I", Cond.fieldLink RX3 56 "OrderedDeskModel" "hasHigh" "Z", Cond.fieldLink RX3 78 "OrderedDeskModel" "high" "I", Cond.methodLink RX3 84 yX3_isIn, Cond.instanceMethod yX3_isIn, Cond.selects RX3 yX3_isIn yX3_isIn, Cond.code yX3_isIn cX3_isIn 2 (some .boolean), Cond.fieldLink RX3 52 "OrderedDeskModel" "hasLow" "Z", Cond.fieldLink RX3 72 "OrderedDeskModel" "low" "I", Cond.fieldLink RX3 75 "OrderedDeskModel" "lowIn" "Z", Cond.fieldLink RX3 81 "OrderedDeskModel" "highIn" "Z", Cond.methodLink RX3 99 yX3_behind, Cond.instanceMethod yX3_behind, Cond.selects RX3 yX3_behind yX3_behind, Cond.code yX3_behind cX3_behind 2 (some .int), Cond.methodLink RX3 115 yJ9_floorMod_7cf53, Cond.static yJ9_floorMod_7cf53, Cond.initialized RJ9]
def wsX3_sweep_r2 : List Cond := [Cond.code yJ9_floorMod_7cf53 cJ9_floorMod_7cf53 3 (some .int), Cond.methodLink RX3 40 yX3_delete, Cond.instanceMethod yX3_delete, Cond.selects RX3 yX3_delete yX3_delete, Cond.code yX3_delete cX3_delete 3 none, Cond.fieldLink RX3 13 "OrderedDeskModel" "value" "[I"]
def wsX3_sweep : List Cond := .code yX3_sweep cX3_sweep 6 (some .int) :: ((wsX3_sweep_r1 ++ wsX3_sweep_r2) ++ wsX30)
def wsX3_viewClear_r1 : List Cond := [Cond.methodLink RX3 96 yX3_first, Cond.instanceMethod yX3_first, Cond.selects RX3 yX3_first yX3_first, Cond.initialized RX3, Cond.code yX3_first cX3_first 2 (some .int), Cond.fieldLink RX3 16 "OrderedDeskModel" "many" "I", Cond.fieldLink RX3 9 "OrderedDeskModel" "key" "[I", Cond.fieldLink RX3 56 "OrderedDeskModel" "hasHigh" "Z", Cond.fieldLink RX3 78 "OrderedDeskModel" "high" "I", Cond.methodLink RX3 84 yX3_isIn, Cond.instanceMethod yX3_isIn, Cond.selects RX3 yX3_isIn yX3_isIn, Cond.code yX3_isIn cX3_isIn 2 (some .boolean), Cond.fieldLink RX3 52 "OrderedDeskModel" "hasLow" "Z", Cond.fieldLink RX3 72 "OrderedDeskModel" "low" "I", Cond.fieldLink RX3 75 "OrderedDeskModel" "lowIn" "Z", Cond.fieldLink RX3 81 "OrderedDeskModel" "highIn" "Z", Cond.methodLink RX3 99 yX3_behind, Cond.instanceMethod yX3_behind, Cond.selects RX3 yX3_behind yX3_behind, Cond.code yX3_behind cX3_behind 2 (some .int), Cond.methodLink RX3 40 yX3_delete, Cond.instanceMethod yX3_delete, Cond.selects RX3 yX3_delete yX3_delete]
def wsX3_viewClear_r2 : List Cond := [Cond.code yX3_delete cX3_delete 3 none, Cond.fieldLink RX3 13 "OrderedDeskModel" "value" "[I"]
def wsX3_viewClear : List Cond := .code yX3_viewClear cX3_viewClear 4 (some .int) :: ((wsX3_viewClear_r1 ++ wsX3_viewClear_r2) ++ wsX30)
def wsX3_again : List Cond := .code yX3_again cX3_again 1 (some .int) :: ([.fieldLink RX3 16 "OrderedDeskModel" "many" "I", .methodLink RX3 62 yX3_all, .instanceMethod yX3_all, .selects RX3 yX3_all yX3_all, .initialized RX3, .code yX3_all cX3_all 1 none, .fieldLink RX3 52 "OrderedDeskModel" "hasLow" "Z", .fieldLink RX3 56 "OrderedDeskModel" "hasHigh" "Z", .fieldLink RX3 59 "OrderedDeskModel" "falls" "Z"] ++ wsX30)
def wsJ9_max_7cf53 : List Cond := .code yJ9_max_7cf53 cJ9_max_7cf53 2 (some .int) :: ([])
def wsJ9_min_7cf53 : List Cond := .code yJ9_min_7cf53 cJ9_min_7cf53 2 (some .int) :: ([])
def wsL_law_r1 : List Cond := [Cond.classLink RL 7 RX2, Cond.instantiable RX2 4, Cond.initialized RX2, Cond.classLink RL 10 RX3, Cond.instantiable RX3 10, Cond.initialized RX3, Cond.methodLink RL 9 yX2_init, Cond.instanceMethod yX2_init, Cond.code yX2_init cX2_init 1 none, Cond.methodLink RX2 3 objectInit, Cond.instanceMethod objectInit, Cond.code objectInit ⟨#[0xb1]⟩ 1 none, Cond.classLink RX2 9 RX0, Cond.instantiable RX0 3, Cond.initialized RX0, Cond.fieldLink RX2 12 "OrderedDesk" "entries" "LOrderedDesk$Entries;", Cond.classLink RX2 16 RX1, Cond.instantiable RX1 4, Cond.initialized RX1, Cond.constantLong RX2 18 (-2147483649), Cond.constantLong RX2 20 (2147483648), Cond.fieldLink RX2 25 "OrderedDesk" "whole" "LOrderedDesk$Range;", Cond.fieldLink RX2 29 "OrderedDesk" "range" "LOrderedDesk$Range;", Cond.fieldLink RX2 32 "OrderedDesk" "falling" "Z"]
def wsL_law_r2 : List Cond := [Cond.instanceMethod yX0_init, Cond.code yX0_init cX0_init 1 none, Cond.methodLink RX0 3 objectInit, Cond.arrayClass .int, Cond.fieldLink RX0 9 "OrderedDesk$Entries" "keys" "[I", Cond.fieldLink RX0 15 "OrderedDesk$Entries" "values" "[I", Cond.fieldLink RX0 18 "OrderedDesk$Entries" "count" "I", Cond.methodLink RX2 22 yX1_init, Cond.instanceMethod yX1_init, Cond.code yX1_init cX1_init 7 none, Cond.methodLink RX1 1 objectInit, Cond.fieldLink RX1 7 "OrderedDesk$Range" "low" "J", Cond.fieldLink RX1 13 "OrderedDesk$Range" "lowIn" "Z", Cond.fieldLink RX1 17 "OrderedDesk$Range" "high" "J", Cond.fieldLink RX1 20 "OrderedDesk$Range" "highIn" "Z", Cond.methodLink RL 12 yX3_init, Cond.instanceMethod yX3_init, Cond.code yX3_init cX3_init 1 none, Cond.methodLink RX3 3 objectInit, Cond.fieldLink RX3 9 "OrderedDeskModel" "key" "[I", Cond.fieldLink RX3 13 "OrderedDeskModel" "value" "[I", Cond.methodLink RL 13 yX2_put, Cond.instanceMethod yX2_put, Cond.selects RX2 yX2_put yX2_put]
def wsL_law_r3 : List Cond := [Cond.code yX2_put cX2_put 3 (some .long), Cond.methodLink RX2 36 yX0_store, Cond.instanceMethod yX0_store, Cond.selects RX0 yX0_store yX0_store, Cond.code yX0_store cX0_store 6 (some .long), Cond.constantLong RX0 22 (1099511627776), Cond.methodLink RX0 24 yX0_placeOf, Cond.instanceMethod yX0_placeOf, Cond.selects RX0 yX0_placeOf yX0_placeOf, Cond.code yX0_placeOf cX0_placeOf 4 (some .int), Cond.methodLink RX0 28 yX0_isAt, Cond.instanceMethod yX0_isAt, Cond.selects RX0 yX0_isAt yX0_isAt, Cond.code yX0_isAt cX0_isAt 3 (some .boolean), Cond.methodLink RX0 32 yX0_insert, Cond.instanceMethod yX0_insert, Cond.selects RX0 yX0_insert yX0_insert, Cond.code yX0_insert cX0_insert 5 none, Cond.methodLink RL 17 yX3_put, Cond.instanceMethod yX3_put, Cond.selects RX3 yX3_put yX3_put, Cond.code yX3_put cX3_put 5 (some .long), Cond.constantLong RX3 38 (1099511627776), Cond.methodLink RX3 26 yX3_placeOf]
def wsL_law_r4 : List Cond := [Cond.instanceMethod yX3_placeOf, Cond.selects RX3 yX3_placeOf yX3_placeOf, Cond.code yX3_placeOf cX3_placeOf 3 (some .int), Cond.fieldLink RX3 16 "OrderedDeskModel" "many" "I", Cond.methodLink RX3 30 yX3_isAt, Cond.instanceMethod yX3_isAt, Cond.selects RX3 yX3_isAt yX3_isAt, Cond.code yX3_isAt cX3_isAt 3 (some .boolean), Cond.methodLink RX3 34 yX3_insert, Cond.instanceMethod yX3_insert, Cond.selects RX3 yX3_insert yX3_insert, Cond.code yX3_insert cX3_insert 5 none, Cond.methodLink RX3 20 yJ7_copyOf_59c91, Cond.static yJ7_copyOf_59c91, Cond.initialized RJ7, Cond.code yJ7_copyOf_59c91 cJ7_copyOf_59c91 3 (some (.array .int)), Cond.methodLink RJ7 316 ⟨"[I", "clone", "()Ljava/lang/Object;"⟩, Cond.sameMethod "[I" "java/lang/Object" "clone" "()Ljava/lang/Object;", Cond.native ⟨"java/lang/Object", "clone", "()Ljava/lang/Object;"⟩, Cond.instanceMethod ⟨"java/lang/Object", "clone", "()Ljava/lang/Object;"⟩, Cond.selects "[I" ⟨"[I", "clone", "()Ljava/lang/Object;"⟩ ⟨"java/lang/Object", "clone", "()Ljava/lang/Object;"⟩, Cond.classLink RJ7 317 "[I", Cond.methodLink RJ7 304 Lib.Math.min.name, Cond.static Lib.Math.min.name]
def wsL_law_r5 : List Cond := [Cond.initialized "java/lang/Math", Cond.code Lib.Math.min.name Lib.Math.min.code 2 (some .int), Cond.methodLink RJ7 150 arraycopyName, Cond.native arraycopyName, Cond.static arraycopyName, Cond.initialized "java/lang/System", Cond.methodLink RL 18 yX2_add, Cond.instanceMethod yX2_add, Cond.selects RX2 yX2_add yX2_add, Cond.code yX2_add cX2_add 5 (some .long), Cond.constantLong RX2 44 (1099511627776), Cond.methodLink RX2 40 yX0_valueOf, Cond.instanceMethod yX0_valueOf, Cond.selects RX0 yX0_valueOf yX0_valueOf, Cond.code yX0_valueOf cX0_valueOf 3 (some .long), Cond.methodLink RL 21 yX3_add, Cond.instanceMethod yX3_add, Cond.selects RX3 yX3_add yX3_add, Cond.code yX3_add cX3_add 4 (some .long), Cond.methodLink RL 22 yX2_get, Cond.instanceMethod yX2_get, Cond.selects RX2 yX2_get yX2_get, Cond.code yX2_get cX2_get 2 (some .long), Cond.methodLink RL 26 yX3_get]
def wsL_law_r6 : List Cond := [Cond.instanceMethod yX3_get, Cond.selects RX3 yX3_get yX3_get, Cond.code yX3_get cX3_get 3 (some .long), Cond.methodLink RL 27 yX2_remove, Cond.instanceMethod yX2_remove, Cond.selects RX2 yX2_remove yX2_remove, Cond.code yX2_remove cX2_remove 2 (some .long), Cond.methodLink RX2 46 yX0_drop, Cond.instanceMethod yX0_drop, Cond.selects RX0 yX0_drop yX0_drop, Cond.code yX0_drop cX0_drop 5 (some .long), Cond.methodLink RX0 36 yX0_dropPlaces, Cond.instanceMethod yX0_dropPlaces, Cond.selects RX0 yX0_dropPlaces yX0_dropPlaces, Cond.code yX0_dropPlaces cX0_dropPlaces 3 (some .int), Cond.methodLink RX0 40 yX0_dropLeaving, Cond.instanceMethod yX0_dropLeaving, Cond.selects RX0 yX0_dropLeaving yX0_dropLeaving, Cond.code yX0_dropLeaving cX0_dropLeaving 8 (some .int), Cond.methodLink RX0 44 yJ9_floorMod_7cf53, Cond.static yJ9_floorMod_7cf53, Cond.initialized RJ9, Cond.code yJ9_floorMod_7cf53 cJ9_floorMod_7cf53 3 (some .int), Cond.methodLink RL 30 yX3_remove]
def wsL_law_r7 : List Cond := [Cond.instanceMethod yX3_remove, Cond.selects RX3 yX3_remove yX3_remove, Cond.code yX3_remove cX3_remove 4 (some .long), Cond.methodLink RX3 40 yX3_delete, Cond.instanceMethod yX3_delete, Cond.selects RX3 yX3_delete yX3_delete, Cond.code yX3_delete cX3_delete 3 none, Cond.methodLink RL 31 yX2_has, Cond.instanceMethod yX2_has, Cond.selects RX2 yX2_has yX2_has, Cond.code yX2_has cX2_has 3 (some .boolean), Cond.methodLink RX2 49 yX0_holdsValue, Cond.instanceMethod yX0_holdsValue, Cond.selects RX0 yX0_holdsValue yX0_holdsValue, Cond.code yX0_holdsValue cX0_holdsValue 3 (some .boolean), Cond.methodLink RL 35 yX3_has, Cond.instanceMethod yX3_has, Cond.selects RX3 yX3_has yX3_has, Cond.code yX3_has cX3_has 4 (some .boolean), Cond.methodLink RL 36 yX2_near, Cond.instanceMethod yX2_near, Cond.selects RX2 yX2_near yX2_near, Cond.code yX2_near cX2_near 3 (some .long), Cond.methodLink RX2 53 yX0_count]
def wsL_law_r8 : List Cond := [Cond.instanceMethod yX0_count, Cond.selects RX0 yX0_count yX0_count, Cond.code yX0_count cX0_count 1 (some .int), Cond.methodLink RX2 57 yX2_keyNear, Cond.instanceMethod yX2_keyNear, Cond.selects RX2 yX2_keyNear yX2_keyNear, Cond.code yX2_keyNear cX2_keyNear 7 (some .long), Cond.methodLink RX2 115 Lib.Math.min.name, Cond.methodLink RX2 110 Lib.Math.max.name, Cond.static Lib.Math.max.name, Cond.code Lib.Math.max.name Lib.Math.max.code 2 (some .int), Cond.methodLink RX2 103 yX0_placeOf, Cond.methodLink RX2 118 yX2_keyWithin, Cond.instanceMethod yX2_keyWithin, Cond.selects RX2 yX2_keyWithin yX2_keyWithin, Cond.code yX2_keyWithin cX2_keyWithin 4 (some .long), Cond.methodLink RX2 92 yX0_keyAt, Cond.instanceMethod yX0_keyAt, Cond.selects RX0 yX0_keyAt yX0_keyAt, Cond.code yX0_keyAt cX0_keyAt 2 (some .long), Cond.methodLink RL 39 yX3_near_, Cond.instanceMethod yX3_near_, Cond.selects RX3 yX3_near_ yX3_near_, Cond.code yX3_near_ cX3_near_ 3 (some .long)]
def wsL_law_r9 : List Cond := [Cond.methodLink RX3 48 yX3_near, Cond.instanceMethod yX3_near, Cond.selects RX3 yX3_near yX3_near, Cond.code yX3_near cX3_near 8 (some .long), Cond.methodLink RX3 44 yX3_keyAt, Cond.instanceMethod yX3_keyAt, Cond.selects RX3 yX3_keyAt yX3_keyAt, Cond.code yX3_keyAt cX3_keyAt 4 (some .long), Cond.methodLink RL 40 yX2_poll, Cond.instanceMethod yX2_poll, Cond.selects RX2 yX2_poll yX2_poll, Cond.code yX2_poll cX2_poll 2 (some .long), Cond.methodLink RX2 61 yX2_pollWithin, Cond.instanceMethod yX2_pollWithin, Cond.selects RX2 yX2_pollWithin yX2_pollWithin, Cond.code yX2_pollWithin cX2_pollWithin 7 (some .long), Cond.methodLink RX2 65 yX0_dropPlaces, Cond.methodLink RL 44 yX3_poll, Cond.instanceMethod yX3_poll, Cond.selects RX3 yX3_poll yX3_poll, Cond.code yX3_poll cX3_poll 4 (some .long), Cond.methodLink RL 45 yX2_size, Cond.instanceMethod yX2_size, Cond.selects RX2 yX2_size yX2_size]
def wsL_law_r10 : List Cond := [Cond.code yX2_size cX2_size 1 (some .int), Cond.methodLink RL 49 yX3_size, Cond.instanceMethod yX3_size, Cond.selects RX3 yX3_size yX3_size, Cond.code yX3_size cX3_size 1 (some .int), Cond.methodLink RL 50 yX2_clear, Cond.instanceMethod yX2_clear, Cond.selects RX2 yX2_clear yX2_clear, Cond.code yX2_clear cX2_clear 1 (some .int), Cond.methodLink RL 53 yX3_clear, Cond.instanceMethod yX3_clear, Cond.selects RX3 yX3_clear yX3_clear, Cond.code yX3_clear cX3_clear 2 (some .int), Cond.methodLink RL 54 yX2_look, Cond.instanceMethod yX2_look, Cond.selects RX2 yX2_look yX2_look, Cond.code yX2_look cX2_look 7 (some .int), Cond.methodLink RX2 69 yX1_part, Cond.instanceMethod yX1_part, Cond.selects RX1 yX1_part yX1_part, Cond.code yX1_part cX1_part 10 (some (.object "OrderedDesk$Range")), Cond.methodLink RX1 30 yX1_mayEndAt, Cond.instanceMethod yX1_mayEndAt, Cond.selects RX1 yX1_mayEndAt yX1_mayEndAt]
def wsL_law_r11 : List Cond := [Cond.code yX1_mayEndAt cX1_mayEndAt 4 (some .boolean), Cond.methodLink RX1 38 yX1_holds, Cond.instanceMethod yX1_holds, Cond.selects RX1 yX1_holds yX1_holds, Cond.code yX1_holds cX1_holds 3 (some .boolean), Cond.methodLink RX1 23 yX1_start, Cond.instanceMethod yX1_start, Cond.selects RX1 yX1_start yX1_start, Cond.code yX1_start cX1_start 1 (some .long), Cond.methodLink RX1 27 yX1_stop, Cond.instanceMethod yX1_stop, Cond.selects RX1 yX1_stop yX1_stop, Cond.code yX1_stop cX1_stop 1 (some .long), Cond.methodLink RX1 34 yX1_withEnd, Cond.instanceMethod yX1_withEnd, Cond.selects RX1 yX1_withEnd yX1_withEnd, Cond.code yX1_withEnd cX1_withEnd 5 (some (.object "OrderedDesk$Range")), Cond.classLink RX1 8 RX1, Cond.methodLink RX1 42 yX1_init, Cond.methodLink RL 58 yX3_look, Cond.instanceMethod yX3_look, Cond.selects RX3 yX3_look yX3_look, Cond.code yX3_look cX3_look 6 (some .int), Cond.methodLink RX3 62 yX3_all]
def wsL_law_r12 : List Cond := [Cond.instanceMethod yX3_all, Cond.selects RX3 yX3_all yX3_all, Cond.code yX3_all cX3_all 1 none, Cond.fieldLink RX3 52 "OrderedDeskModel" "hasLow" "Z", Cond.fieldLink RX3 56 "OrderedDeskModel" "hasHigh" "Z", Cond.fieldLink RX3 59 "OrderedDeskModel" "falls" "Z", Cond.methodLink RX3 65 yX3_begin, Cond.instanceMethod yX3_begin, Cond.selects RX3 yX3_begin yX3_begin, Cond.code yX3_begin cX3_begin 3 none, Cond.fieldLink RX3 72 "OrderedDeskModel" "low" "I", Cond.fieldLink RX3 75 "OrderedDeskModel" "lowIn" "Z", Cond.methodLink RX3 69 yX3_end, Cond.instanceMethod yX3_end, Cond.selects RX3 yX3_end yX3_end, Cond.code yX3_end cX3_end 3 none, Cond.fieldLink RX3 78 "OrderedDeskModel" "high" "I", Cond.fieldLink RX3 81 "OrderedDeskModel" "highIn" "Z", Cond.methodLink RL 59 yX2_narrow, Cond.instanceMethod yX2_narrow, Cond.selects RX2 yX2_narrow yX2_narrow, Cond.code yX2_narrow cX2_narrow 7 (some .int), Cond.methodLink RL 62 yX3_narrow, Cond.instanceMethod yX3_narrow]
def wsL_law_r13 : List Cond := [Cond.selects RX3 yX3_narrow yX3_narrow, Cond.code yX3_narrow cX3_narrow 6 (some .int), Cond.methodLink RX3 88 yX3_mayEnd, Cond.instanceMethod yX3_mayEnd, Cond.selects RX3 yX3_mayEnd yX3_mayEnd, Cond.code yX3_mayEnd cX3_mayEnd 3 (some .boolean), Cond.methodLink RX3 84 yX3_isIn, Cond.instanceMethod yX3_isIn, Cond.selects RX3 yX3_isIn yX3_isIn, Cond.code yX3_isIn cX3_isIn 2 (some .boolean), Cond.methodLink RL 63 yX2_turn, Cond.instanceMethod yX2_turn, Cond.selects RX2 yX2_turn yX2_turn, Cond.code yX2_turn cX2_turn 1 (some .int), Cond.methodLink RX2 73 yX2_viewSize, Cond.instanceMethod yX2_viewSize, Cond.selects RX2 yX2_viewSize yX2_viewSize, Cond.code yX2_viewSize cX2_viewSize 1 (some .int), Cond.methodLink RX2 76 yX2_viewEnd, Cond.instanceMethod yX2_viewEnd, Cond.selects RX2 yX2_viewEnd yX2_viewEnd, Cond.code yX2_viewEnd cX2_viewEnd 1 (some .int), Cond.methodLink RX2 79 yX2_viewBegin, Cond.instanceMethod yX2_viewBegin]
def wsL_law_r14 : List Cond := [Cond.selects RX2 yX2_viewBegin yX2_viewBegin, Cond.code yX2_viewBegin cX2_viewBegin 1 (some .int), Cond.methodLink RX2 99 yX1_start, Cond.methodLink RX2 107 yX1_stop, Cond.methodLink RL 66 yX3_turn, Cond.instanceMethod yX3_turn, Cond.selects RX3 yX3_turn yX3_turn, Cond.code yX3_turn cX3_turn 1 (some .int), Cond.methodLink RX3 92 yX3_viewSize, Cond.instanceMethod yX3_viewSize, Cond.selects RX3 yX3_viewSize yX3_viewSize, Cond.code yX3_viewSize cX3_viewSize 1 (some .int), Cond.methodLink RX3 99 yX3_behind, Cond.instanceMethod yX3_behind, Cond.selects RX3 yX3_behind yX3_behind, Cond.code yX3_behind cX3_behind 2 (some .int), Cond.methodLink RX3 96 yX3_first, Cond.instanceMethod yX3_first, Cond.selects RX3 yX3_first yX3_first, Cond.code yX3_first cX3_first 2 (some .int), Cond.methodLink RL 67 yX2_viewSize, Cond.methodLink RL 70 yX3_viewSize, Cond.methodLink RL 71 yX2_viewPut, Cond.instanceMethod yX2_viewPut]
def wsL_law_r15 : List Cond := [Cond.selects RX2 yX2_viewPut yX2_viewPut, Cond.code yX2_viewPut cX2_viewPut 3 (some .long), Cond.constantLong RX2 86 (1099511627777), Cond.methodLink RX2 82 yX1_holds, Cond.methodLink RL 74 yX3_viewPut, Cond.instanceMethod yX3_viewPut, Cond.selects RX3 yX3_viewPut yX3_viewPut, Cond.code yX3_viewPut cX3_viewPut 3 (some .long), Cond.constantLong RX3 106 (1099511627777), Cond.methodLink RX3 102 yX3_put, Cond.methodLink RL 75 yX2_viewGet, Cond.instanceMethod yX2_viewGet, Cond.selects RX2 yX2_viewGet yX2_viewGet, Cond.code yX2_viewGet cX2_viewGet 2 (some .long), Cond.methodLink RL 78 yX3_viewGet, Cond.instanceMethod yX3_viewGet, Cond.selects RX3 yX3_viewGet yX3_viewGet, Cond.code yX3_viewGet cX3_viewGet 2 (some .long), Cond.methodLink RX3 108 yX3_get, Cond.methodLink RL 79 yX2_viewRemove, Cond.instanceMethod yX2_viewRemove, Cond.selects RX2 yX2_viewRemove yX2_viewRemove, Cond.code yX2_viewRemove cX2_viewRemove 2 (some .long), Cond.methodLink RL 82 yX3_viewRemove]
def wsL_law_r16 : List Cond := [Cond.instanceMethod yX3_viewRemove, Cond.selects RX3 yX3_viewRemove yX3_viewRemove, Cond.code yX3_viewRemove cX3_viewRemove 2 (some .long), Cond.methodLink RX3 112 yX3_remove, Cond.methodLink RL 83 yX2_viewNear, Cond.instanceMethod yX2_viewNear, Cond.selects RX2 yX2_viewNear yX2_viewNear, Cond.code yX2_viewNear cX2_viewNear 3 (some .long), Cond.methodLink RX2 88 yX2_mirrored, Cond.static yX2_mirrored, Cond.code yX2_mirrored cX2_mirrored 1 (some .int), Cond.methodLink RL 86 yX3_viewNear, Cond.instanceMethod yX3_viewNear, Cond.selects RX3 yX3_viewNear yX3_viewNear, Cond.code yX3_viewNear cX3_viewNear 3 (some .long), Cond.methodLink RL 87 yX2_viewPoll, Cond.instanceMethod yX2_viewPoll, Cond.selects RX2 yX2_viewPoll yX2_viewPoll, Cond.code yX2_viewPoll cX2_viewPoll 2 (some .long), Cond.methodLink RL 90 yX3_viewPoll, Cond.instanceMethod yX3_viewPoll, Cond.selects RX3 yX3_viewPoll yX3_viewPoll, Cond.code yX3_viewPoll cX3_viewPoll 6 (some .long), Cond.methodLink RL 91 yX2_viewKey]
def wsL_law_r17 : List Cond := [Cond.instanceMethod yX2_viewKey, Cond.selects RX2 yX2_viewKey yX2_viewKey, Cond.code yX2_viewKey cX2_viewKey 4 (some .long), Cond.methodLink RL 94 yX3_viewKey, Cond.instanceMethod yX3_viewKey, Cond.selects RX3 yX3_viewKey yX3_viewKey, Cond.code yX3_viewKey cX3_viewKey 4 (some .long), Cond.methodLink RL 95 yX2_walk, Cond.instanceMethod yX2_walk, Cond.selects RX2 yX2_walk yX2_walk, Cond.code yX2_walk cX2_walk 8 (some .long), Cond.methodLink RL 99 yX3_walk, Cond.instanceMethod yX3_walk, Cond.selects RX3 yX3_walk yX3_walk, Cond.code yX3_walk cX3_walk 6 (some .long), Cond.methodLink RL 100 yX2_sweep, Cond.instanceMethod yX2_sweep, Cond.selects RX2 yX2_sweep yX2_sweep, Cond.code yX2_sweep cX2_sweep 3 (some .int), Cond.methodLink RX2 95 yX0_dropLeaving, Cond.methodLink RL 104 yX3_sweep, Cond.instanceMethod yX3_sweep, Cond.selects RX3 yX3_sweep yX3_sweep, Cond.code yX3_sweep cX3_sweep 6 (some .int)]
def wsL_law_r18 : List Cond := [Cond.methodLink RX3 115 yJ9_floorMod_7cf53, Cond.methodLink RL 105 yX2_viewClear, Cond.instanceMethod yX2_viewClear, Cond.selects RX2 yX2_viewClear yX2_viewClear, Cond.code yX2_viewClear cX2_viewClear 1 (some .int), Cond.methodLink RL 108 yX3_viewClear, Cond.instanceMethod yX3_viewClear, Cond.selects RX3 yX3_viewClear yX3_viewClear, Cond.code yX3_viewClear cX3_viewClear 4 (some .int), Cond.methodLink RL 109 yX2_again, Cond.instanceMethod yX2_again, Cond.selects RX2 yX2_again yX2_again, Cond.code yX2_again cX2_again 1 (some .int), Cond.methodLink RL 112 yX3_again, Cond.instanceMethod yX3_again, Cond.selects RX3 yX3_again yX3_again, Cond.code yX3_again cX3_again 1 (some .int)]
def wsL_law : List Cond := (wsL_law_r1 ++ (wsL_law_r2 ++ (wsL_law_r3 ++ (wsL_law_r4 ++ (wsL_law_r5 ++ (wsL_law_r6 ++ (wsL_law_r7 ++ (wsL_law_r8 ++ (wsL_law_r9 ++ (wsL_law_r10 ++ (wsL_law_r11 ++ (wsL_law_r12 ++ (wsL_law_r13 ++ (wsL_law_r14 ++ (wsL_law_r15 ++ (wsL_law_r16 ++ (wsL_law_r17 ++ wsL_law_r18))))))))))))))))) ++ wsX20 ++ wsX30 ++ wsX00 ++ wsX10 ++ ([] : List Cond)
set_option maxRecDepth 20000 in
theorem wsL_law_in : ∀ w ∈ wsL_law, w ∈ lw_tbl := fun w h => (goodIn_p wsL_law [34, 37, 42, 61, 297, 92, 96, 100, 104, 108, 333, 337, 341, 345, 348, 165, 113, 117, 364, 122, 368, 126, 130, 134, 138, 141, 372, 376, 145, 149, 380, 153, 157, 161, 176, 169, 173, 384, 388, 392, 180, 184, 396, 189, 400, 193, 404, 197, 201, 205, 209, 213, 217, 221, 408, 412, 416, 420, 227, 424, 428, 432, 231, 235, 239, 243, 436, 440, 444, 448, 250, 453, 256, 459, 260, 464, 264, 267, 469, 271, 473, 275, 477, 279, 481, 283, 485, 288, 490, 292, 494] (by decide +kernel) (by decide +kernel) w h).1
theorem inlX0 : ∀ w ∈ wsX00, w ∈ wsL_law := fun _ h => List.mem_append_left _ (List.mem_append_left _ (List.mem_append_right _ h))
theorem inX0 : ∀ w ∈ wsX00, w ∈ lw_tbl := fun w h => wsL_law_in w (inlX0 w h)
theorem inlX1 : ∀ w ∈ wsX10, w ∈ wsL_law := fun _ h => List.mem_append_left _ (List.mem_append_right _ h)
theorem inX1 : ∀ w ∈ wsX10, w ∈ lw_tbl := fun w h => wsL_law_in w (inlX1 w h)
theorem inlX2 : ∀ w ∈ wsX20, w ∈ wsL_law := fun _ h => List.mem_append_left _ (List.mem_append_left _ (List.mem_append_left _ (List.mem_append_left _ (List.mem_append_right _ h))))
theorem inX2 : ∀ w ∈ wsX20, w ∈ lw_tbl := fun w h => wsL_law_in w (inlX2 w h)
theorem inlX3 : ∀ w ∈ wsX30, w ∈ wsL_law := fun _ h => List.mem_append_left _ (List.mem_append_left _ (List.mem_append_left _ (List.mem_append_right _ h)))
theorem inX3 : ∀ w ∈ wsX30, w ∈ lw_tbl := fun w h => wsL_law_in w (inlX3 w h)
end
section
theorem inJx8e188 : ∀ w ∈ wsJx8e1880, w ∈ lw_tbl := by decide +kernel
theorem inJ9 : ∀ w ∈ wsJ90, w ∈ lw_tbl := by decide +kernel
theorem inJ10 : ∀ w ∈ wsJ100, w ∈ lw_tbl := by decide +kernel
theorem inJ7 : ∀ w ∈ wsJ70, w ∈ lw_tbl := by decide +kernel
theorem dX0_init_0 : decode cX0_init 0 = .ok (.aload_n 0, 1) := by decide +kernel
theorem dX0_init_1 : decode cX0_init 1 = .ok (.invokespecial 3, 3) := by decide +kernel
theorem dX0_init_4 : decode cX0_init 4 = .ok (.aload_n 0, 1) := by decide +kernel
theorem dX0_init_5 : decode cX0_init 5 = .ok (.sipush 512, 3) := by decide +kernel
theorem dX0_init_8 : decode cX0_init 8 = .ok (.newarray .int, 2) := by decide +kernel
theorem dX0_init_10 : decode cX0_init 10 = .ok (.putfield 9, 3) := by decide +kernel
theorem dX0_init_13 : decode cX0_init 13 = .ok (.aload_n 0, 1) := by decide +kernel
theorem dX0_init_14 : decode cX0_init 14 = .ok (.sipush 512, 3) := by decide +kernel
theorem dX0_init_17 : decode cX0_init 17 = .ok (.newarray .int, 2) := by decide +kernel
theorem dX0_init_19 : decode cX0_init 19 = .ok (.putfield 15, 3) := by decide +kernel
theorem dX0_init_22 : decode cX0_init 22 = .ok (.aload_n 0, 1) := by decide +kernel
theorem dX0_init_23 : decode cX0_init 23 = .ok (.iconst 0, 1) := by decide +kernel
theorem dX0_init_24 : decode cX0_init 24 = .ok (.putfield 18, 3) := by decide +kernel
theorem dX0_init_27 : decode cX0_init 27 = .ok (.return_, 1) := by decide +kernel
theorem dX0_count_0 : decode cX0_count 0 = .ok (.aload_n 0, 1) := by decide +kernel
theorem dX0_count_1 : decode cX0_count 1 = .ok (.getfield 18, 3) := by decide +kernel
theorem dX0_count_4 : decode cX0_count 4 = .ok (.ireturn, 1) := by decide +kernel
theorem dX0_placeOf_0 : decode cX0_placeOf 0 = .ok (.iconst 0, 1) := by decide +kernel
theorem dX0_placeOf_1 : decode cX0_placeOf 1 = .ok (.istore_n 3, 1) := by decide +kernel
theorem dX0_placeOf_2 : decode cX0_placeOf 2 = .ok (.iload_n 3, 1) := by decide +kernel
theorem dX0_placeOf_3 : decode cX0_placeOf 3 = .ok (.aload_n 0, 1) := by decide +kernel
theorem dX0_placeOf_4 : decode cX0_placeOf 4 = .ok (.getfield 18, 3) := by decide +kernel
theorem dX0_placeOf_7 : decode cX0_placeOf 7 = .ok (.if_icmp .ge 21, 3) := by decide +kernel
theorem dX0_placeOf_10 : decode cX0_placeOf 10 = .ok (.aload_n 0, 1) := by decide +kernel
theorem dX0_placeOf_11 : decode cX0_placeOf 11 = .ok (.getfield 9, 3) := by decide +kernel
theorem dX0_placeOf_14 : decode cX0_placeOf 14 = .ok (.iload_n 3, 1) := by decide +kernel
theorem dX0_placeOf_15 : decode cX0_placeOf 15 = .ok (.iaload, 1) := by decide +kernel
theorem dX0_placeOf_16 : decode cX0_placeOf 16 = .ok (.i2l, 1) := by decide +kernel
theorem dX0_placeOf_17 : decode cX0_placeOf 17 = .ok (.lload_n 1, 1) := by decide +kernel
theorem dX0_placeOf_18 : decode cX0_placeOf 18 = .ok (.lcmp, 1) := by decide +kernel
theorem dX0_placeOf_19 : decode cX0_placeOf 19 = .ok (.ifCond .ge 9, 3) := by decide +kernel
theorem dX0_placeOf_22 : decode cX0_placeOf 22 = .ok (.iinc 3 1, 3) := by decide +kernel
theorem dX0_placeOf_25 : decode cX0_placeOf 25 = .ok (.goto (-23), 3) := by decide +kernel
theorem dX0_placeOf_28 : decode cX0_placeOf 28 = .ok (.iload_n 3, 1) := by decide +kernel
theorem dX0_placeOf_29 : decode cX0_placeOf 29 = .ok (.ireturn, 1) := by decide +kernel
theorem dX0_keyAt_0 : decode cX0_keyAt 0 = .ok (.iload_n 1, 1) := by decide +kernel
theorem dX0_keyAt_1 : decode cX0_keyAt 1 = .ok (.ifCond .lt 21, 3) := by decide +kernel
theorem dX0_keyAt_4 : decode cX0_keyAt 4 = .ok (.iload_n 1, 1) := by decide +kernel
theorem dX0_keyAt_5 : decode cX0_keyAt 5 = .ok (.aload_n 0, 1) := by decide +kernel
theorem dX0_keyAt_6 : decode cX0_keyAt 6 = .ok (.getfield 18, 3) := by decide +kernel
theorem dX0_keyAt_9 : decode cX0_keyAt 9 = .ok (.if_icmp .ge 13, 3) := by decide +kernel
theorem dX0_keyAt_12 : decode cX0_keyAt 12 = .ok (.aload_n 0, 1) := by decide +kernel
theorem dX0_keyAt_13 : decode cX0_keyAt 13 = .ok (.getfield 9, 3) := by decide +kernel
theorem dX0_keyAt_16 : decode cX0_keyAt 16 = .ok (.iload_n 1, 1) := by decide +kernel
theorem dX0_keyAt_17 : decode cX0_keyAt 17 = .ok (.iaload, 1) := by decide +kernel
theorem dX0_keyAt_18 : decode cX0_keyAt 18 = .ok (.i2l, 1) := by decide +kernel
theorem dX0_keyAt_19 : decode cX0_keyAt 19 = .ok (.goto 6, 3) := by decide +kernel
theorem dX0_keyAt_22 : decode cX0_keyAt 22 = .ok (.ldc2_w 22, 3) := by decide +kernel
theorem dX0_keyAt_25 : decode cX0_keyAt 25 = .ok (.lreturn, 1) := by decide +kernel
theorem dX0_isAt_0 : decode cX0_isAt 0 = .ok (.iload_n 1, 1) := by decide +kernel
theorem dX0_isAt_1 : decode cX0_isAt 1 = .ok (.aload_n 0, 1) := by decide +kernel
theorem dX0_isAt_2 : decode cX0_isAt 2 = .ok (.getfield 18, 3) := by decide +kernel
theorem dX0_isAt_5 : decode cX0_isAt 5 = .ok (.if_icmp .ge 17, 3) := by decide +kernel
theorem dX0_isAt_8 : decode cX0_isAt 8 = .ok (.aload_n 0, 1) := by decide +kernel
theorem dX0_isAt_9 : decode cX0_isAt 9 = .ok (.getfield 9, 3) := by decide +kernel
theorem dX0_isAt_12 : decode cX0_isAt 12 = .ok (.iload_n 1, 1) := by decide +kernel
theorem dX0_isAt_13 : decode cX0_isAt 13 = .ok (.iaload, 1) := by decide +kernel
theorem dX0_isAt_14 : decode cX0_isAt 14 = .ok (.iload_n 2, 1) := by decide +kernel
theorem dX0_isAt_15 : decode cX0_isAt 15 = .ok (.if_icmp .ne 7, 3) := by decide +kernel
theorem dX0_isAt_18 : decode cX0_isAt 18 = .ok (.iconst 1, 1) := by decide +kernel
theorem dX0_isAt_19 : decode cX0_isAt 19 = .ok (.goto 4, 3) := by decide +kernel
theorem dX0_isAt_22 : decode cX0_isAt 22 = .ok (.iconst 0, 1) := by decide +kernel
theorem dX0_isAt_23 : decode cX0_isAt 23 = .ok (.ireturn, 1) := by decide +kernel
set_option maxRecDepth 20000 in
theorem ggX0_valueOf_X0_placeOf : GoodIn wsX0_valueOf wsX0_placeOf := goodIn_r _ [7, 8, 9, 14, 15, 16] (by decide +kernel) (by decide +kernel)
set_option maxRecDepth 20000 in
theorem gX0_valueOf_X0_placeOf : GoodIn wsX0_valueOf (wsV RX0 24 RX0 yX0_placeOf wsX0_placeOf) := goodIn_app (goodIn_of _ (by decide +kernel)) ggX0_valueOf_X0_placeOf
set_option maxRecDepth 20000 in
theorem ggX0_valueOf_X0_isAt : GoodIn wsX0_valueOf wsX0_isAt := goodIn_r _ [13, 8, 9, 14, 15, 16] (by decide +kernel) (by decide +kernel)
set_option maxRecDepth 20000 in
theorem gX0_valueOf_X0_isAt : GoodIn wsX0_valueOf (wsV RX0 28 RX0 yX0_isAt wsX0_isAt) := goodIn_app (goodIn_of _ (by decide +kernel)) ggX0_valueOf_X0_isAt
theorem dX0_valueOf_0 : decode cX0_valueOf 0 = .ok (.aload_n 0, 1) := by decide +kernel
theorem dX0_valueOf_1 : decode cX0_valueOf 1 = .ok (.iload_n 1, 1) := by decide +kernel
theorem dX0_valueOf_2 : decode cX0_valueOf 2 = .ok (.i2l, 1) := by decide +kernel
theorem dX0_valueOf_3 : decode cX0_valueOf 3 = .ok (.invokevirtual 24, 3) := by decide +kernel
theorem dX0_valueOf_6 : decode cX0_valueOf 6 = .ok (.istore_n 2, 1) := by decide +kernel
theorem dX0_valueOf_7 : decode cX0_valueOf 7 = .ok (.aload_n 0, 1) := by decide +kernel
theorem dX0_valueOf_8 : decode cX0_valueOf 8 = .ok (.iload_n 2, 1) := by decide +kernel
theorem dX0_valueOf_9 : decode cX0_valueOf 9 = .ok (.iload_n 1, 1) := by decide +kernel
theorem dX0_valueOf_10 : decode cX0_valueOf 10 = .ok (.invokevirtual 28, 3) := by decide +kernel
theorem dX0_valueOf_13 : decode cX0_valueOf 13 = .ok (.ifCond .eq 13, 3) := by decide +kernel
theorem dX0_valueOf_16 : decode cX0_valueOf 16 = .ok (.aload_n 0, 1) := by decide +kernel
theorem dX0_valueOf_17 : decode cX0_valueOf 17 = .ok (.getfield 15, 3) := by decide +kernel
theorem dX0_valueOf_20 : decode cX0_valueOf 20 = .ok (.iload_n 2, 1) := by decide +kernel
theorem dX0_valueOf_21 : decode cX0_valueOf 21 = .ok (.iaload, 1) := by decide +kernel
theorem dX0_valueOf_22 : decode cX0_valueOf 22 = .ok (.i2l, 1) := by decide +kernel
theorem dX0_valueOf_23 : decode cX0_valueOf 23 = .ok (.goto 6, 3) := by decide +kernel
theorem dX0_valueOf_26 : decode cX0_valueOf 26 = .ok (.ldc2_w 22, 3) := by decide +kernel
theorem dX0_valueOf_29 : decode cX0_valueOf 29 = .ok (.lreturn, 1) := by decide +kernel
theorem dX0_holdsValue_0 : decode cX0_holdsValue 0 = .ok (.iconst 0, 1) := by decide +kernel
theorem dX0_holdsValue_1 : decode cX0_holdsValue 1 = .ok (.istore_n 2, 1) := by decide +kernel
theorem dX0_holdsValue_2 : decode cX0_holdsValue 2 = .ok (.iload_n 2, 1) := by decide +kernel
theorem dX0_holdsValue_3 : decode cX0_holdsValue 3 = .ok (.aload_n 0, 1) := by decide +kernel
theorem dX0_holdsValue_4 : decode cX0_holdsValue 4 = .ok (.getfield 18, 3) := by decide +kernel
theorem dX0_holdsValue_7 : decode cX0_holdsValue 7 = .ok (.if_icmp .ge 21, 3) := by decide +kernel
theorem dX0_holdsValue_10 : decode cX0_holdsValue 10 = .ok (.aload_n 0, 1) := by decide +kernel
theorem dX0_holdsValue_11 : decode cX0_holdsValue 11 = .ok (.getfield 15, 3) := by decide +kernel
theorem dX0_holdsValue_14 : decode cX0_holdsValue 14 = .ok (.iload_n 2, 1) := by decide +kernel
theorem dX0_holdsValue_15 : decode cX0_holdsValue 15 = .ok (.iaload, 1) := by decide +kernel
theorem dX0_holdsValue_16 : decode cX0_holdsValue 16 = .ok (.iload_n 1, 1) := by decide +kernel
theorem dX0_holdsValue_17 : decode cX0_holdsValue 17 = .ok (.if_icmp .ne 5, 3) := by decide +kernel
theorem dX0_holdsValue_20 : decode cX0_holdsValue 20 = .ok (.iconst 1, 1) := by decide +kernel
theorem dX0_holdsValue_21 : decode cX0_holdsValue 21 = .ok (.ireturn, 1) := by decide +kernel
theorem dX0_holdsValue_22 : decode cX0_holdsValue 22 = .ok (.iinc 2 1, 3) := by decide +kernel
theorem dX0_holdsValue_25 : decode cX0_holdsValue 25 = .ok (.goto (-23), 3) := by decide +kernel
theorem dX0_holdsValue_28 : decode cX0_holdsValue 28 = .ok (.iconst 0, 1) := by decide +kernel
theorem dX0_holdsValue_29 : decode cX0_holdsValue 29 = .ok (.ireturn, 1) := by decide +kernel
set_option maxRecDepth 20000 in
theorem ggX0_store_X0_placeOf : GoodIn wsX0_store wsX0_placeOf := goodIn_r _ [7, 8, 9, 18, 19, 20] (by decide +kernel) (by decide +kernel)
set_option maxRecDepth 20000 in
theorem gX0_store_X0_placeOf : GoodIn wsX0_store (wsV RX0 24 RX0 yX0_placeOf wsX0_placeOf) := goodIn_app (goodIn_of _ (by decide +kernel)) ggX0_store_X0_placeOf
set_option maxRecDepth 20000 in
theorem ggX0_store_X0_isAt : GoodIn wsX0_store wsX0_isAt := goodIn_r _ [13, 8, 9, 18, 19, 20] (by decide +kernel) (by decide +kernel)
set_option maxRecDepth 20000 in
theorem gX0_store_X0_isAt : GoodIn wsX0_store (wsV RX0 28 RX0 yX0_isAt wsX0_isAt) := goodIn_app (goodIn_of _ (by decide +kernel)) ggX0_store_X0_isAt
set_option maxRecDepth 20000 in
theorem ggX0_store_X0_insert : GoodIn wsX0_store wsX0_insert := goodIn_r _ [17, 8, 9, 2, 18, 19, 20] (by decide +kernel) (by decide +kernel)
set_option maxRecDepth 20000 in
theorem gX0_store_X0_insert : GoodIn wsX0_store (wsV RX0 32 RX0 yX0_insert wsX0_insert) := goodIn_app (goodIn_of _ (by decide +kernel)) ggX0_store_X0_insert
theorem dX0_store_0 : decode cX0_store 0 = .ok (.aload_n 0, 1) := by decide +kernel
theorem dX0_store_1 : decode cX0_store 1 = .ok (.iload_n 1, 1) := by decide +kernel
theorem dX0_store_2 : decode cX0_store 2 = .ok (.i2l, 1) := by decide +kernel
theorem dX0_store_3 : decode cX0_store 3 = .ok (.invokevirtual 24, 3) := by decide +kernel
theorem dX0_store_6 : decode cX0_store 6 = .ok (.istore_n 3, 1) := by decide +kernel
theorem dX0_store_7 : decode cX0_store 7 = .ok (.aload_n 0, 1) := by decide +kernel
theorem dX0_store_8 : decode cX0_store 8 = .ok (.iload_n 3, 1) := by decide +kernel
theorem dX0_store_9 : decode cX0_store 9 = .ok (.iload_n 1, 1) := by decide +kernel
theorem dX0_store_10 : decode cX0_store 10 = .ok (.invokevirtual 28, 3) := by decide +kernel
theorem dX0_store_13 : decode cX0_store 13 = .ok (.ifCond .ne 14, 3) := by decide +kernel
theorem dX0_store_16 : decode cX0_store 16 = .ok (.aload_n 0, 1) := by decide +kernel
theorem dX0_store_17 : decode cX0_store 17 = .ok (.iload_n 3, 1) := by decide +kernel
theorem dX0_store_18 : decode cX0_store 18 = .ok (.iload_n 1, 1) := by decide +kernel
theorem dX0_store_19 : decode cX0_store 19 = .ok (.iload_n 2, 1) := by decide +kernel
theorem dX0_store_20 : decode cX0_store 20 = .ok (.invokevirtual 32, 3) := by decide +kernel
theorem dX0_store_23 : decode cX0_store 23 = .ok (.ldc2_w 22, 3) := by decide +kernel
theorem dX0_store_26 : decode cX0_store 26 = .ok (.lreturn, 1) := by decide +kernel
theorem dX0_store_27 : decode cX0_store 27 = .ok (.aload_n 0, 1) := by decide +kernel
theorem dX0_store_28 : decode cX0_store 28 = .ok (.getfield 15, 3) := by decide +kernel
theorem dX0_store_31 : decode cX0_store 31 = .ok (.iload_n 3, 1) := by decide +kernel
theorem dX0_store_32 : decode cX0_store 32 = .ok (.iaload, 1) := by decide +kernel
theorem dX0_store_33 : decode cX0_store 33 = .ok (.i2l, 1) := by decide +kernel
theorem dX0_store_34 : decode cX0_store 34 = .ok (.lstore 4, 2) := by decide +kernel
theorem dX0_store_36 : decode cX0_store 36 = .ok (.aload_n 0, 1) := by decide +kernel
theorem dX0_store_37 : decode cX0_store 37 = .ok (.getfield 15, 3) := by decide +kernel
theorem dX0_store_40 : decode cX0_store 40 = .ok (.iload_n 3, 1) := by decide +kernel
theorem dX0_store_41 : decode cX0_store 41 = .ok (.iload_n 2, 1) := by decide +kernel
theorem dX0_store_42 : decode cX0_store 42 = .ok (.iastore, 1) := by decide +kernel
theorem dX0_store_43 : decode cX0_store 43 = .ok (.lload 4, 2) := by decide +kernel
theorem dX0_store_45 : decode cX0_store 45 = .ok (.lreturn, 1) := by decide +kernel
theorem dX0_insert_0 : decode cX0_insert 0 = .ok (.aload_n 0, 1) := by decide +kernel
theorem dX0_insert_1 : decode cX0_insert 1 = .ok (.getfield 18, 3) := by decide +kernel
theorem dX0_insert_4 : decode cX0_insert 4 = .ok (.sipush 512, 3) := by decide +kernel
theorem dX0_insert_7 : decode cX0_insert 7 = .ok (.if_icmp .lt 4, 3) := by decide +kernel
theorem dX0_insert_10 : decode cX0_insert 10 = .ok (.return_, 1) := by decide +kernel
theorem dX0_insert_11 : decode cX0_insert 11 = .ok (.aload_n 0, 1) := by decide +kernel
theorem dX0_insert_12 : decode cX0_insert 12 = .ok (.getfield 18, 3) := by decide +kernel
theorem dX0_insert_15 : decode cX0_insert 15 = .ok (.istore 4, 2) := by decide +kernel
theorem dX0_insert_17 : decode cX0_insert 17 = .ok (.iload 4, 2) := by decide +kernel
theorem dX0_insert_19 : decode cX0_insert 19 = .ok (.iload_n 1, 1) := by decide +kernel
theorem dX0_insert_20 : decode cX0_insert 20 = .ok (.if_icmp .le 41, 3) := by decide +kernel
theorem dX0_insert_23 : decode cX0_insert 23 = .ok (.aload_n 0, 1) := by decide +kernel
theorem dX0_insert_24 : decode cX0_insert 24 = .ok (.getfield 9, 3) := by decide +kernel
theorem dX0_insert_27 : decode cX0_insert 27 = .ok (.iload 4, 2) := by decide +kernel
theorem dX0_insert_29 : decode cX0_insert 29 = .ok (.aload_n 0, 1) := by decide +kernel
theorem dX0_insert_30 : decode cX0_insert 30 = .ok (.getfield 9, 3) := by decide +kernel
theorem dX0_insert_33 : decode cX0_insert 33 = .ok (.iload 4, 2) := by decide +kernel
theorem dX0_insert_35 : decode cX0_insert 35 = .ok (.iconst 1, 1) := by decide +kernel
theorem dX0_insert_36 : decode cX0_insert 36 = .ok (.isub, 1) := by decide +kernel
theorem dX0_insert_37 : decode cX0_insert 37 = .ok (.iaload, 1) := by decide +kernel
theorem dX0_insert_38 : decode cX0_insert 38 = .ok (.iastore, 1) := by decide +kernel
theorem dX0_insert_39 : decode cX0_insert 39 = .ok (.aload_n 0, 1) := by decide +kernel
theorem dX0_insert_40 : decode cX0_insert 40 = .ok (.getfield 15, 3) := by decide +kernel
theorem dX0_insert_43 : decode cX0_insert 43 = .ok (.iload 4, 2) := by decide +kernel
theorem dX0_insert_45 : decode cX0_insert 45 = .ok (.aload_n 0, 1) := by decide +kernel
theorem dX0_insert_46 : decode cX0_insert 46 = .ok (.getfield 15, 3) := by decide +kernel
theorem dX0_insert_49 : decode cX0_insert 49 = .ok (.iload 4, 2) := by decide +kernel
theorem dX0_insert_51 : decode cX0_insert 51 = .ok (.iconst 1, 1) := by decide +kernel
theorem dX0_insert_52 : decode cX0_insert 52 = .ok (.isub, 1) := by decide +kernel
theorem dX0_insert_53 : decode cX0_insert 53 = .ok (.iaload, 1) := by decide +kernel
theorem dX0_insert_54 : decode cX0_insert 54 = .ok (.iastore, 1) := by decide +kernel
theorem dX0_insert_55 : decode cX0_insert 55 = .ok (.iinc 4 (-1), 3) := by decide +kernel
theorem dX0_insert_58 : decode cX0_insert 58 = .ok (.goto (-41), 3) := by decide +kernel
theorem dX0_insert_61 : decode cX0_insert 61 = .ok (.aload_n 0, 1) := by decide +kernel
theorem dX0_insert_62 : decode cX0_insert 62 = .ok (.getfield 9, 3) := by decide +kernel
theorem dX0_insert_65 : decode cX0_insert 65 = .ok (.iload_n 1, 1) := by decide +kernel
theorem dX0_insert_66 : decode cX0_insert 66 = .ok (.iload_n 2, 1) := by decide +kernel
theorem dX0_insert_67 : decode cX0_insert 67 = .ok (.iastore, 1) := by decide +kernel
theorem dX0_insert_68 : decode cX0_insert 68 = .ok (.aload_n 0, 1) := by decide +kernel
theorem dX0_insert_69 : decode cX0_insert 69 = .ok (.getfield 15, 3) := by decide +kernel
theorem dX0_insert_72 : decode cX0_insert 72 = .ok (.iload_n 1, 1) := by decide +kernel
theorem dX0_insert_73 : decode cX0_insert 73 = .ok (.iload_n 3, 1) := by decide +kernel
theorem dX0_insert_74 : decode cX0_insert 74 = .ok (.iastore, 1) := by decide +kernel
theorem dX0_insert_75 : decode cX0_insert 75 = .ok (.aload_n 0, 1) := by decide +kernel
theorem dX0_insert_76 : decode cX0_insert 76 = .ok (.dup, 1) := by decide +kernel
theorem dX0_insert_77 : decode cX0_insert 77 = .ok (.getfield 18, 3) := by decide +kernel
theorem dX0_insert_80 : decode cX0_insert 80 = .ok (.iconst 1, 1) := by decide +kernel
theorem dX0_insert_81 : decode cX0_insert 81 = .ok (.iadd, 1) := by decide +kernel
theorem dX0_insert_82 : decode cX0_insert 82 = .ok (.putfield 18, 3) := by decide +kernel
theorem dX0_insert_85 : decode cX0_insert 85 = .ok (.return_, 1) := by decide +kernel
set_option maxRecDepth 20000 in
theorem ggX0_drop_X0_placeOf : GoodIn wsX0_drop wsX0_placeOf := goodIn_r _ [7, 8, 9, 26, 27, 28] (by decide +kernel) (by decide +kernel)
set_option maxRecDepth 20000 in
theorem gX0_drop_X0_placeOf : GoodIn wsX0_drop (wsV RX0 24 RX0 yX0_placeOf wsX0_placeOf) := goodIn_app (goodIn_of _ (by decide +kernel)) ggX0_drop_X0_placeOf
set_option maxRecDepth 20000 in
theorem ggX0_drop_X0_isAt : GoodIn wsX0_drop wsX0_isAt := goodIn_r _ [13, 8, 9, 26, 27, 28] (by decide +kernel) (by decide +kernel)
set_option maxRecDepth 20000 in
theorem gX0_drop_X0_isAt : GoodIn wsX0_drop (wsV RX0 28 RX0 yX0_isAt wsX0_isAt) := goodIn_app (goodIn_of _ (by decide +kernel)) ggX0_drop_X0_isAt
set_option maxRecDepth 20000 in
theorem ggX0_drop_X0_dropPlaces : GoodIn wsX0_drop wsX0_dropPlaces := goodIn_r _ [17, 18, 19, 20, 6, 21, 8, 9, 2, 22, 23, 24, 25, 26, 27, 28] (by decide +kernel) (by decide +kernel)
set_option maxRecDepth 20000 in
theorem gX0_drop_X0_dropPlaces : GoodIn wsX0_drop (wsV RX0 36 RX0 yX0_dropPlaces wsX0_dropPlaces) := goodIn_app (goodIn_of _ (by decide +kernel)) ggX0_drop_X0_dropPlaces
theorem dX0_drop_0 : decode cX0_drop 0 = .ok (.aload_n 0, 1) := by decide +kernel
theorem dX0_drop_1 : decode cX0_drop 1 = .ok (.iload_n 1, 1) := by decide +kernel
theorem dX0_drop_2 : decode cX0_drop 2 = .ok (.i2l, 1) := by decide +kernel
theorem dX0_drop_3 : decode cX0_drop 3 = .ok (.invokevirtual 24, 3) := by decide +kernel
theorem dX0_drop_6 : decode cX0_drop 6 = .ok (.istore_n 2, 1) := by decide +kernel
theorem dX0_drop_7 : decode cX0_drop 7 = .ok (.aload_n 0, 1) := by decide +kernel
theorem dX0_drop_8 : decode cX0_drop 8 = .ok (.iload_n 2, 1) := by decide +kernel
theorem dX0_drop_9 : decode cX0_drop 9 = .ok (.iload_n 1, 1) := by decide +kernel
theorem dX0_drop_10 : decode cX0_drop 10 = .ok (.invokevirtual 28, 3) := by decide +kernel
theorem dX0_drop_13 : decode cX0_drop 13 = .ok (.ifCond .ne 7, 3) := by decide +kernel
theorem dX0_drop_16 : decode cX0_drop 16 = .ok (.ldc2_w 22, 3) := by decide +kernel
theorem dX0_drop_19 : decode cX0_drop 19 = .ok (.lreturn, 1) := by decide +kernel
theorem dX0_drop_20 : decode cX0_drop 20 = .ok (.aload_n 0, 1) := by decide +kernel
theorem dX0_drop_21 : decode cX0_drop 21 = .ok (.getfield 15, 3) := by decide +kernel
theorem dX0_drop_24 : decode cX0_drop 24 = .ok (.iload_n 2, 1) := by decide +kernel
theorem dX0_drop_25 : decode cX0_drop 25 = .ok (.iaload, 1) := by decide +kernel
theorem dX0_drop_26 : decode cX0_drop 26 = .ok (.i2l, 1) := by decide +kernel
theorem dX0_drop_27 : decode cX0_drop 27 = .ok (.lstore_n 3, 1) := by decide +kernel
theorem dX0_drop_28 : decode cX0_drop 28 = .ok (.aload_n 0, 1) := by decide +kernel
theorem dX0_drop_29 : decode cX0_drop 29 = .ok (.iload_n 2, 1) := by decide +kernel
theorem dX0_drop_30 : decode cX0_drop 30 = .ok (.iload_n 2, 1) := by decide +kernel
theorem dX0_drop_31 : decode cX0_drop 31 = .ok (.iconst 1, 1) := by decide +kernel
theorem dX0_drop_32 : decode cX0_drop 32 = .ok (.iadd, 1) := by decide +kernel
theorem dX0_drop_33 : decode cX0_drop 33 = .ok (.invokevirtual 36, 3) := by decide +kernel
theorem dX0_drop_36 : decode cX0_drop 36 = .ok (.pop, 1) := by decide +kernel
theorem dX0_drop_37 : decode cX0_drop 37 = .ok (.lload_n 3, 1) := by decide +kernel
theorem dX0_drop_38 : decode cX0_drop 38 = .ok (.lreturn, 1) := by decide +kernel
set_option maxRecDepth 20000 in
theorem ggX0_dropPlaces_X0_dropLeaving : GoodIn wsX0_dropPlaces wsX0_dropLeaving := goodIn_r _ [5, 6, 7, 8, 9, 10, 11, 12, 13, 14, 15] (by decide +kernel) (by decide +kernel)
set_option maxRecDepth 20000 in
theorem gX0_dropPlaces_X0_dropLeaving : GoodIn wsX0_dropPlaces (wsV RX0 40 RX0 yX0_dropLeaving wsX0_dropLeaving) := goodIn_app (goodIn_of _ (by decide +kernel)) ggX0_dropPlaces_X0_dropLeaving
theorem dX0_dropPlaces_0 : decode cX0_dropPlaces 0 = .ok (.aload_n 0, 1) := by decide +kernel
theorem dX0_dropPlaces_1 : decode cX0_dropPlaces 1 = .ok (.iconst 1, 1) := by decide +kernel
theorem dX0_dropPlaces_2 : decode cX0_dropPlaces 2 = .ok (.iconst 0, 1) := by decide +kernel
theorem dX0_dropPlaces_3 : decode cX0_dropPlaces 3 = .ok (.iload_n 1, 1) := by decide +kernel
theorem dX0_dropPlaces_4 : decode cX0_dropPlaces 4 = .ok (.iload_n 2, 1) := by decide +kernel
theorem dX0_dropPlaces_5 : decode cX0_dropPlaces 5 = .ok (.invokevirtual 40, 3) := by decide +kernel
theorem dX0_dropPlaces_8 : decode cX0_dropPlaces 8 = .ok (.ireturn, 1) := by decide +kernel
set_option maxRecDepth 20000 in
theorem ggX0_dropLeaving_J9_floorMod_7cf53 : GoodIn wsX0_dropLeaving wsJ9_floorMod_7cf53 := goodIn_r _ [7] (by decide +kernel) (by decide +kernel)
set_option maxRecDepth 20000 in
theorem gX0_dropLeaving_J9_floorMod_7cf53 : GoodIn wsX0_dropLeaving (va_wsS RX0 44 yJ9_floorMod_7cf53 wsJ9_floorMod_7cf53) := goodIn_app (goodIn_of _ (by decide +kernel)) ggX0_dropLeaving_J9_floorMod_7cf53
theorem dX0_dropLeaving_0 : decode cX0_dropLeaving 0 = .ok (.iload_n 1, 1) := by decide +kernel
theorem dX0_dropLeaving_1 : decode cX0_dropLeaving 1 = .ok (.iconst 1, 1) := by decide +kernel
theorem dX0_dropLeaving_2 : decode cX0_dropLeaving 2 = .ok (.if_icmp .ge 5, 3) := by decide +kernel
theorem dX0_dropLeaving_5 : decode cX0_dropLeaving 5 = .ok (.iconst (-1), 1) := by decide +kernel
theorem dX0_dropLeaving_6 : decode cX0_dropLeaving 6 = .ok (.ireturn, 1) := by decide +kernel
theorem dX0_dropLeaving_7 : decode cX0_dropLeaving 7 = .ok (.iload_n 3, 1) := by decide +kernel
theorem dX0_dropLeaving_8 : decode cX0_dropLeaving 8 = .ok (.istore 5, 2) := by decide +kernel
theorem dX0_dropLeaving_10 : decode cX0_dropLeaving 10 = .ok (.iload_n 3, 1) := by decide +kernel
theorem dX0_dropLeaving_11 : decode cX0_dropLeaving 11 = .ok (.istore 6, 2) := by decide +kernel
theorem dX0_dropLeaving_13 : decode cX0_dropLeaving 13 = .ok (.iload 6, 2) := by decide +kernel
theorem dX0_dropLeaving_15 : decode cX0_dropLeaving 15 = .ok (.aload_n 0, 1) := by decide +kernel
theorem dX0_dropLeaving_16 : decode cX0_dropLeaving 16 = .ok (.getfield 18, 3) := by decide +kernel
theorem dX0_dropLeaving_19 : decode cX0_dropLeaving 19 = .ok (.if_icmp .ge 74, 3) := by decide +kernel
theorem dX0_dropLeaving_22 : decode cX0_dropLeaving 22 = .ok (.iload 6, 2) := by decide +kernel
theorem dX0_dropLeaving_24 : decode cX0_dropLeaving 24 = .ok (.iload 4, 2) := by decide +kernel
theorem dX0_dropLeaving_26 : decode cX0_dropLeaving 26 = .ok (.if_icmp .ge 22, 3) := by decide +kernel
theorem dX0_dropLeaving_29 : decode cX0_dropLeaving 29 = .ok (.aload_n 0, 1) := by decide +kernel
theorem dX0_dropLeaving_30 : decode cX0_dropLeaving 30 = .ok (.getfield 9, 3) := by decide +kernel
theorem dX0_dropLeaving_33 : decode cX0_dropLeaving 33 = .ok (.iload 6, 2) := by decide +kernel
theorem dX0_dropLeaving_35 : decode cX0_dropLeaving 35 = .ok (.iaload, 1) := by decide +kernel
theorem dX0_dropLeaving_36 : decode cX0_dropLeaving 36 = .ok (.iload_n 1, 1) := by decide +kernel
theorem dX0_dropLeaving_37 : decode cX0_dropLeaving 37 = .ok (.invokestatic 44, 3) := by decide +kernel
theorem dX0_dropLeaving_40 : decode cX0_dropLeaving 40 = .ok (.iload_n 2, 1) := by decide +kernel
theorem dX0_dropLeaving_41 : decode cX0_dropLeaving 41 = .ok (.if_icmp .ne 7, 3) := by decide +kernel
theorem dX0_dropLeaving_44 : decode cX0_dropLeaving 44 = .ok (.iconst 1, 1) := by decide +kernel
theorem dX0_dropLeaving_45 : decode cX0_dropLeaving 45 = .ok (.goto 4, 3) := by decide +kernel
theorem dX0_dropLeaving_48 : decode cX0_dropLeaving 48 = .ok (.iconst 0, 1) := by decide +kernel
theorem dX0_dropLeaving_49 : decode cX0_dropLeaving 49 = .ok (.istore 7, 2) := by decide +kernel
theorem dX0_dropLeaving_51 : decode cX0_dropLeaving 51 = .ok (.iload 7, 2) := by decide +kernel
theorem dX0_dropLeaving_53 : decode cX0_dropLeaving 53 = .ok (.ifCond .ne 34, 3) := by decide +kernel
theorem dX0_dropLeaving_56 : decode cX0_dropLeaving 56 = .ok (.aload_n 0, 1) := by decide +kernel
theorem dX0_dropLeaving_57 : decode cX0_dropLeaving 57 = .ok (.getfield 9, 3) := by decide +kernel
theorem dX0_dropLeaving_60 : decode cX0_dropLeaving 60 = .ok (.iload 5, 2) := by decide +kernel
theorem dX0_dropLeaving_62 : decode cX0_dropLeaving 62 = .ok (.aload_n 0, 1) := by decide +kernel
theorem dX0_dropLeaving_63 : decode cX0_dropLeaving 63 = .ok (.getfield 9, 3) := by decide +kernel
theorem dX0_dropLeaving_66 : decode cX0_dropLeaving 66 = .ok (.iload 6, 2) := by decide +kernel
theorem dX0_dropLeaving_68 : decode cX0_dropLeaving 68 = .ok (.iaload, 1) := by decide +kernel
theorem dX0_dropLeaving_69 : decode cX0_dropLeaving 69 = .ok (.iastore, 1) := by decide +kernel
theorem dX0_dropLeaving_70 : decode cX0_dropLeaving 70 = .ok (.aload_n 0, 1) := by decide +kernel
theorem dX0_dropLeaving_71 : decode cX0_dropLeaving 71 = .ok (.getfield 15, 3) := by decide +kernel
theorem dX0_dropLeaving_74 : decode cX0_dropLeaving 74 = .ok (.iload 5, 2) := by decide +kernel
theorem dX0_dropLeaving_76 : decode cX0_dropLeaving 76 = .ok (.aload_n 0, 1) := by decide +kernel
theorem dX0_dropLeaving_77 : decode cX0_dropLeaving 77 = .ok (.getfield 15, 3) := by decide +kernel
theorem dX0_dropLeaving_80 : decode cX0_dropLeaving 80 = .ok (.iload 6, 2) := by decide +kernel
theorem dX0_dropLeaving_82 : decode cX0_dropLeaving 82 = .ok (.iaload, 1) := by decide +kernel
theorem dX0_dropLeaving_83 : decode cX0_dropLeaving 83 = .ok (.iastore, 1) := by decide +kernel
theorem dX0_dropLeaving_84 : decode cX0_dropLeaving 84 = .ok (.iinc 5 1, 3) := by decide +kernel
theorem dX0_dropLeaving_87 : decode cX0_dropLeaving 87 = .ok (.iinc 6 1, 3) := by decide +kernel
theorem dX0_dropLeaving_90 : decode cX0_dropLeaving 90 = .ok (.goto (-77), 3) := by decide +kernel
theorem dX0_dropLeaving_93 : decode cX0_dropLeaving 93 = .ok (.aload_n 0, 1) := by decide +kernel
theorem dX0_dropLeaving_94 : decode cX0_dropLeaving 94 = .ok (.getfield 18, 3) := by decide +kernel
theorem dX0_dropLeaving_97 : decode cX0_dropLeaving 97 = .ok (.iload 5, 2) := by decide +kernel
theorem dX0_dropLeaving_99 : decode cX0_dropLeaving 99 = .ok (.isub, 1) := by decide +kernel
theorem dX0_dropLeaving_100 : decode cX0_dropLeaving 100 = .ok (.istore 6, 2) := by decide +kernel
theorem dX0_dropLeaving_102 : decode cX0_dropLeaving 102 = .ok (.aload_n 0, 1) := by decide +kernel
theorem dX0_dropLeaving_103 : decode cX0_dropLeaving 103 = .ok (.iload 5, 2) := by decide +kernel
theorem dX0_dropLeaving_105 : decode cX0_dropLeaving 105 = .ok (.putfield 18, 3) := by decide +kernel
theorem dX0_dropLeaving_108 : decode cX0_dropLeaving 108 = .ok (.iload 6, 2) := by decide +kernel
theorem dX0_dropLeaving_110 : decode cX0_dropLeaving 110 = .ok (.ireturn, 1) := by decide +kernel
theorem dX1_init_0 : decode cX1_init 0 = .ok (.aload_n 0, 1) := by decide +kernel
theorem dX1_init_1 : decode cX1_init 1 = .ok (.invokespecial 1, 3) := by decide +kernel
theorem dX1_init_4 : decode cX1_init 4 = .ok (.aload_n 0, 1) := by decide +kernel
theorem dX1_init_5 : decode cX1_init 5 = .ok (.lload_n 1, 1) := by decide +kernel
theorem dX1_init_6 : decode cX1_init 6 = .ok (.putfield 7, 3) := by decide +kernel
theorem dX1_init_9 : decode cX1_init 9 = .ok (.aload_n 0, 1) := by decide +kernel
theorem dX1_init_10 : decode cX1_init 10 = .ok (.iload_n 3, 1) := by decide +kernel
theorem dX1_init_11 : decode cX1_init 11 = .ok (.putfield 13, 3) := by decide +kernel
theorem dX1_init_14 : decode cX1_init 14 = .ok (.aload_n 0, 1) := by decide +kernel
theorem dX1_init_15 : decode cX1_init 15 = .ok (.lload 4, 2) := by decide +kernel
theorem dX1_init_17 : decode cX1_init 17 = .ok (.putfield 17, 3) := by decide +kernel
theorem dX1_init_20 : decode cX1_init 20 = .ok (.aload_n 0, 1) := by decide +kernel
theorem dX1_init_21 : decode cX1_init 21 = .ok (.iload 6, 2) := by decide +kernel
theorem dX1_init_23 : decode cX1_init 23 = .ok (.putfield 20, 3) := by decide +kernel
theorem dX1_init_26 : decode cX1_init 26 = .ok (.return_, 1) := by decide +kernel
theorem dX1_start_0 : decode cX1_start 0 = .ok (.aload_n 0, 1) := by decide +kernel
theorem dX1_start_1 : decode cX1_start 1 = .ok (.getfield 13, 3) := by decide +kernel
theorem dX1_start_4 : decode cX1_start 4 = .ok (.ifCond .eq 10, 3) := by decide +kernel
theorem dX1_start_7 : decode cX1_start 7 = .ok (.aload_n 0, 1) := by decide +kernel
theorem dX1_start_8 : decode cX1_start 8 = .ok (.getfield 7, 3) := by decide +kernel
theorem dX1_start_11 : decode cX1_start 11 = .ok (.goto 9, 3) := by decide +kernel
theorem dX1_start_14 : decode cX1_start 14 = .ok (.aload_n 0, 1) := by decide +kernel
theorem dX1_start_15 : decode cX1_start 15 = .ok (.getfield 7, 3) := by decide +kernel
theorem dX1_start_18 : decode cX1_start 18 = .ok (.lconst 1, 1) := by decide +kernel
theorem dX1_start_19 : decode cX1_start 19 = .ok (.ladd, 1) := by decide +kernel
theorem dX1_start_20 : decode cX1_start 20 = .ok (.lreturn, 1) := by decide +kernel
theorem dX1_stop_0 : decode cX1_stop 0 = .ok (.aload_n 0, 1) := by decide +kernel
theorem dX1_stop_1 : decode cX1_stop 1 = .ok (.getfield 20, 3) := by decide +kernel
theorem dX1_stop_4 : decode cX1_stop 4 = .ok (.ifCond .eq 12, 3) := by decide +kernel
theorem dX1_stop_7 : decode cX1_stop 7 = .ok (.aload_n 0, 1) := by decide +kernel
theorem dX1_stop_8 : decode cX1_stop 8 = .ok (.getfield 17, 3) := by decide +kernel
theorem dX1_stop_11 : decode cX1_stop 11 = .ok (.lconst 1, 1) := by decide +kernel
theorem dX1_stop_12 : decode cX1_stop 12 = .ok (.ladd, 1) := by decide +kernel
theorem dX1_stop_13 : decode cX1_stop 13 = .ok (.goto 7, 3) := by decide +kernel
theorem dX1_stop_16 : decode cX1_stop 16 = .ok (.aload_n 0, 1) := by decide +kernel
theorem dX1_stop_17 : decode cX1_stop 17 = .ok (.getfield 17, 3) := by decide +kernel
theorem dX1_stop_20 : decode cX1_stop 20 = .ok (.lreturn, 1) := by decide +kernel
set_option maxRecDepth 20000 in
theorem ggX1_holds_X1_start : GoodIn wsX1_holds wsX1_start := goodIn_r _ [5, 6, 7, 14, 15, 16, 17] (by decide +kernel) (by decide +kernel)
set_option maxRecDepth 20000 in
theorem gX1_holds_X1_start : GoodIn wsX1_holds (wsV RX1 23 RX1 yX1_start wsX1_start) := goodIn_app (goodIn_of _ (by decide +kernel)) ggX1_holds_X1_start
set_option maxRecDepth 20000 in
theorem ggX1_holds_X1_stop : GoodIn wsX1_holds wsX1_stop := goodIn_r _ [11, 12, 13, 14, 15, 16, 17] (by decide +kernel) (by decide +kernel)
set_option maxRecDepth 20000 in
theorem gX1_holds_X1_stop : GoodIn wsX1_holds (wsV RX1 27 RX1 yX1_stop wsX1_stop) := goodIn_app (goodIn_of _ (by decide +kernel)) ggX1_holds_X1_stop
theorem dX1_holds_0 : decode cX1_holds 0 = .ok (.lload_n 1, 1) := by decide +kernel
theorem dX1_holds_1 : decode cX1_holds 1 = .ok (.aload_n 0, 1) := by decide +kernel
theorem dX1_holds_2 : decode cX1_holds 2 = .ok (.invokevirtual 23, 3) := by decide +kernel
theorem dX1_holds_5 : decode cX1_holds 5 = .ok (.lcmp, 1) := by decide +kernel
theorem dX1_holds_6 : decode cX1_holds 6 = .ok (.ifCond .lt 16, 3) := by decide +kernel
theorem dX1_holds_9 : decode cX1_holds 9 = .ok (.lload_n 1, 1) := by decide +kernel
theorem dX1_holds_10 : decode cX1_holds 10 = .ok (.aload_n 0, 1) := by decide +kernel
theorem dX1_holds_11 : decode cX1_holds 11 = .ok (.invokevirtual 27, 3) := by decide +kernel
theorem dX1_holds_14 : decode cX1_holds 14 = .ok (.lcmp, 1) := by decide +kernel
theorem dX1_holds_15 : decode cX1_holds 15 = .ok (.ifCond .ge 7, 3) := by decide +kernel
theorem dX1_holds_18 : decode cX1_holds 18 = .ok (.iconst 1, 1) := by decide +kernel
theorem dX1_holds_19 : decode cX1_holds 19 = .ok (.goto 4, 3) := by decide +kernel
theorem dX1_holds_22 : decode cX1_holds 22 = .ok (.iconst 0, 1) := by decide +kernel
theorem dX1_holds_23 : decode cX1_holds 23 = .ok (.ireturn, 1) := by decide +kernel
set_option maxRecDepth 20000 in
theorem ggX1_part_X1_mayEndAt : GoodIn wsX1_part wsX1_mayEndAt := goodIn_r _ [5, 6, 7, 8, 9, 10, 4, 11, 12, 13, 14, 15, 16, 17, 18, 19, 20, 21, 34, 35, 36, 37] (by decide +kernel) (by decide +kernel)
set_option maxRecDepth 20000 in
theorem gX1_part_X1_mayEndAt : GoodIn wsX1_part (wsV RX1 30 RX1 yX1_mayEndAt wsX1_mayEndAt) := goodIn_app (goodIn_of _ (by decide +kernel)) ggX1_part_X1_mayEndAt
set_option maxRecDepth 20000 in
theorem ggX1_part_X1_withEnd : GoodIn wsX1_part wsX1_withEnd := goodIn_r _ [25, 26, 27, 4, 6, 16, 7, 21, 28, 29, 30, 31, 32, 33, 34, 35, 36, 37] (by decide +kernel) (by decide +kernel)
set_option maxRecDepth 20000 in
theorem gX1_part_X1_withEnd : GoodIn wsX1_part (wsV RX1 34 RX1 yX1_withEnd wsX1_withEnd) := goodIn_app (goodIn_of _ (by decide +kernel)) ggX1_part_X1_withEnd
theorem dX1_part_0 : decode cX1_part 0 = .ok (.iload_n 1, 1) := by decide +kernel
theorem dX1_part_1 : decode cX1_part 1 = .ok (.ifCond .lt 8, 3) := by decide +kernel
theorem dX1_part_4 : decode cX1_part 4 = .ok (.iload_n 1, 1) := by decide +kernel
theorem dX1_part_5 : decode cX1_part 5 = .ok (.iconst 3, 1) := by decide +kernel
theorem dX1_part_6 : decode cX1_part 6 = .ok (.if_icmp .le 5, 3) := by decide +kernel
theorem dX1_part_9 : decode cX1_part 9 = .ok (.aconst_null, 1) := by decide +kernel
theorem dX1_part_10 : decode cX1_part 10 = .ok (.areturn, 1) := by decide +kernel
theorem dX1_part_11 : decode cX1_part 11 = .ok (.iload_n 1, 1) := by decide +kernel
theorem dX1_part_12 : decode cX1_part 12 = .ok (.iconst 2, 1) := by decide +kernel
theorem dX1_part_13 : decode cX1_part 13 = .ok (.if_icmp .eq 8, 3) := by decide +kernel
theorem dX1_part_16 : decode cX1_part 16 = .ok (.iload_n 1, 1) := by decide +kernel
theorem dX1_part_17 : decode cX1_part 17 = .ok (.iconst 3, 1) := by decide +kernel
theorem dX1_part_18 : decode cX1_part 18 = .ok (.if_icmp .ne 7, 3) := by decide +kernel
theorem dX1_part_21 : decode cX1_part 21 = .ok (.iconst 1, 1) := by decide +kernel
theorem dX1_part_22 : decode cX1_part 22 = .ok (.goto 4, 3) := by decide +kernel
theorem dX1_part_25 : decode cX1_part 25 = .ok (.iconst 0, 1) := by decide +kernel
theorem dX1_part_26 : decode cX1_part 26 = .ok (.istore 7, 2) := by decide +kernel
theorem dX1_part_28 : decode cX1_part 28 = .ok (.iload_n 1, 1) := by decide +kernel
theorem dX1_part_29 : decode cX1_part 29 = .ok (.iconst 1, 1) := by decide +kernel
theorem dX1_part_30 : decode cX1_part 30 = .ok (.if_icmp .eq 8, 3) := by decide +kernel
theorem dX1_part_33 : decode cX1_part 33 = .ok (.iload_n 1, 1) := by decide +kernel
theorem dX1_part_34 : decode cX1_part 34 = .ok (.iconst 3, 1) := by decide +kernel
theorem dX1_part_35 : decode cX1_part 35 = .ok (.if_icmp .ne 7, 3) := by decide +kernel
theorem dX1_part_38 : decode cX1_part 38 = .ok (.iconst 1, 1) := by decide +kernel
theorem dX1_part_39 : decode cX1_part 39 = .ok (.goto 4, 3) := by decide +kernel
theorem dX1_part_42 : decode cX1_part 42 = .ok (.iconst 0, 1) := by decide +kernel
theorem dX1_part_43 : decode cX1_part 43 = .ok (.istore 8, 2) := by decide +kernel
theorem dX1_part_45 : decode cX1_part 45 = .ok (.iload 7, 2) := by decide +kernel
theorem dX1_part_47 : decode cX1_part 47 = .ok (.ifCond .eq 13, 3) := by decide +kernel
theorem dX1_part_50 : decode cX1_part 50 = .ok (.aload_n 0, 1) := by decide +kernel
theorem dX1_part_51 : decode cX1_part 51 = .ok (.iload_n 2, 1) := by decide +kernel
theorem dX1_part_52 : decode cX1_part 52 = .ok (.i2l, 1) := by decide +kernel
theorem dX1_part_53 : decode cX1_part 53 = .ok (.iload_n 3, 1) := by decide +kernel
theorem dX1_part_54 : decode cX1_part 54 = .ok (.invokevirtual 30, 3) := by decide +kernel
theorem dX1_part_57 : decode cX1_part 57 = .ok (.ifCond .eq 20, 3) := by decide +kernel
theorem dX1_part_60 : decode cX1_part 60 = .ok (.iload 8, 2) := by decide +kernel
theorem dX1_part_62 : decode cX1_part 62 = .ok (.ifCond .eq 17, 3) := by decide +kernel
theorem dX1_part_65 : decode cX1_part 65 = .ok (.aload_n 0, 1) := by decide +kernel
theorem dX1_part_66 : decode cX1_part 66 = .ok (.iload 4, 2) := by decide +kernel
theorem dX1_part_68 : decode cX1_part 68 = .ok (.i2l, 1) := by decide +kernel
theorem dX1_part_69 : decode cX1_part 69 = .ok (.iload 5, 2) := by decide +kernel
theorem dX1_part_71 : decode cX1_part 71 = .ok (.invokevirtual 30, 3) := by decide +kernel
theorem dX1_part_74 : decode cX1_part 74 = .ok (.ifCond .ne 5, 3) := by decide +kernel
theorem dX1_part_77 : decode cX1_part 77 = .ok (.aconst_null, 1) := by decide +kernel
theorem dX1_part_78 : decode cX1_part 78 = .ok (.areturn, 1) := by decide +kernel
theorem dX1_part_79 : decode cX1_part 79 = .ok (.iload 7, 2) := by decide +kernel
theorem dX1_part_81 : decode cX1_part 81 = .ok (.ifCond .eq 30, 3) := by decide +kernel
theorem dX1_part_84 : decode cX1_part 84 = .ok (.iload 8, 2) := by decide +kernel
theorem dX1_part_86 : decode cX1_part 86 = .ok (.ifCond .eq 25, 3) := by decide +kernel
theorem dX1_part_89 : decode cX1_part 89 = .ok (.iload 6, 2) := by decide +kernel
theorem dX1_part_91 : decode cX1_part 91 = .ok (.ifCond .eq 12, 3) := by decide +kernel
theorem dX1_part_94 : decode cX1_part 94 = .ok (.iload_n 2, 1) := by decide +kernel
theorem dX1_part_95 : decode cX1_part 95 = .ok (.iload 4, 2) := by decide +kernel
theorem dX1_part_97 : decode cX1_part 97 = .ok (.if_icmp .ge 14, 3) := by decide +kernel
theorem dX1_part_100 : decode cX1_part 100 = .ok (.goto 9, 3) := by decide +kernel
theorem dX1_part_103 : decode cX1_part 103 = .ok (.iload_n 2, 1) := by decide +kernel
theorem dX1_part_104 : decode cX1_part 104 = .ok (.iload 4, 2) := by decide +kernel
theorem dX1_part_106 : decode cX1_part 106 = .ok (.if_icmp .le 5, 3) := by decide +kernel
theorem dX1_part_109 : decode cX1_part 109 = .ok (.aconst_null, 1) := by decide +kernel
theorem dX1_part_110 : decode cX1_part 110 = .ok (.areturn, 1) := by decide +kernel
theorem dX1_part_111 : decode cX1_part 111 = .ok (.iload 7, 2) := by decide +kernel
theorem dX1_part_113 : decode cX1_part 113 = .ok (.ifCond .eq 15, 3) := by decide +kernel
theorem dX1_part_116 : decode cX1_part 116 = .ok (.aload_n 0, 1) := by decide +kernel
theorem dX1_part_117 : decode cX1_part 117 = .ok (.iload 6, 2) := by decide +kernel
theorem dX1_part_119 : decode cX1_part 119 = .ok (.iload_n 2, 1) := by decide +kernel
theorem dX1_part_120 : decode cX1_part 120 = .ok (.i2l, 1) := by decide +kernel
theorem dX1_part_121 : decode cX1_part 121 = .ok (.iload_n 3, 1) := by decide +kernel
theorem dX1_part_122 : decode cX1_part 122 = .ok (.invokevirtual 34, 3) := by decide +kernel
theorem dX1_part_125 : decode cX1_part 125 = .ok (.goto 4, 3) := by decide +kernel
theorem dX1_part_128 : decode cX1_part 128 = .ok (.aload_n 0, 1) := by decide +kernel
theorem dX1_part_129 : decode cX1_part 129 = .ok (.astore 9, 2) := by decide +kernel
theorem dX1_part_131 : decode cX1_part 131 = .ok (.iload 8, 2) := by decide +kernel
theorem dX1_part_133 : decode cX1_part 133 = .ok (.ifCond .eq 26, 3) := by decide +kernel
theorem dX1_part_136 : decode cX1_part 136 = .ok (.aload 9, 2) := by decide +kernel
theorem dX1_part_138 : decode cX1_part 138 = .ok (.iload 6, 2) := by decide +kernel
theorem dX1_part_140 : decode cX1_part 140 = .ok (.ifCond .ne 7, 3) := by decide +kernel
theorem dX1_part_143 : decode cX1_part 143 = .ok (.iconst 1, 1) := by decide +kernel
theorem dX1_part_144 : decode cX1_part 144 = .ok (.goto 4, 3) := by decide +kernel
theorem dX1_part_147 : decode cX1_part 147 = .ok (.iconst 0, 1) := by decide +kernel
theorem dX1_part_148 : decode cX1_part 148 = .ok (.iload 4, 2) := by decide +kernel
theorem dX1_part_150 : decode cX1_part 150 = .ok (.i2l, 1) := by decide +kernel
theorem dX1_part_151 : decode cX1_part 151 = .ok (.iload 5, 2) := by decide +kernel
theorem dX1_part_153 : decode cX1_part 153 = .ok (.invokevirtual 34, 3) := by decide +kernel
theorem dX1_part_156 : decode cX1_part 156 = .ok (.goto 5, 3) := by decide +kernel
theorem dX1_part_159 : decode cX1_part 159 = .ok (.aload 9, 2) := by decide +kernel
theorem dX1_part_161 : decode cX1_part 161 = .ok (.areturn, 1) := by decide +kernel
set_option maxRecDepth 20000 in
theorem ggX1_mayEndAt_X1_holds : GoodIn wsX1_mayEndAt wsX1_holds := goodIn_r _ [7, 8, 9, 10, 6, 11, 12, 1, 13, 14, 15, 16, 17, 2, 18, 19, 20, 21] (by decide +kernel) (by decide +kernel)
set_option maxRecDepth 20000 in
theorem gX1_mayEndAt_X1_holds : GoodIn wsX1_mayEndAt (wsV RX1 38 RX1 yX1_holds wsX1_holds) := goodIn_app (goodIn_of _ (by decide +kernel)) ggX1_mayEndAt_X1_holds
theorem dX1_mayEndAt_0 : decode cX1_mayEndAt 0 = .ok (.iload_n 3, 1) := by decide +kernel
theorem dX1_mayEndAt_1 : decode cX1_mayEndAt 1 = .ok (.ifCond .eq 11, 3) := by decide +kernel
theorem dX1_mayEndAt_4 : decode cX1_mayEndAt 4 = .ok (.aload_n 0, 1) := by decide +kernel
theorem dX1_mayEndAt_5 : decode cX1_mayEndAt 5 = .ok (.lload_n 1, 1) := by decide +kernel
theorem dX1_mayEndAt_6 : decode cX1_mayEndAt 6 = .ok (.invokevirtual 38, 3) := by decide +kernel
theorem dX1_mayEndAt_9 : decode cX1_mayEndAt 9 = .ok (.goto 26, 3) := by decide +kernel
theorem dX1_mayEndAt_12 : decode cX1_mayEndAt 12 = .ok (.lload_n 1, 1) := by decide +kernel
theorem dX1_mayEndAt_13 : decode cX1_mayEndAt 13 = .ok (.aload_n 0, 1) := by decide +kernel
theorem dX1_mayEndAt_14 : decode cX1_mayEndAt 14 = .ok (.getfield 7, 3) := by decide +kernel
theorem dX1_mayEndAt_17 : decode cX1_mayEndAt 17 = .ok (.lcmp, 1) := by decide +kernel
theorem dX1_mayEndAt_18 : decode cX1_mayEndAt 18 = .ok (.ifCond .lt 16, 3) := by decide +kernel
theorem dX1_mayEndAt_21 : decode cX1_mayEndAt 21 = .ok (.lload_n 1, 1) := by decide +kernel
theorem dX1_mayEndAt_22 : decode cX1_mayEndAt 22 = .ok (.aload_n 0, 1) := by decide +kernel
theorem dX1_mayEndAt_23 : decode cX1_mayEndAt 23 = .ok (.getfield 17, 3) := by decide +kernel
theorem dX1_mayEndAt_26 : decode cX1_mayEndAt 26 = .ok (.lcmp, 1) := by decide +kernel
theorem dX1_mayEndAt_27 : decode cX1_mayEndAt 27 = .ok (.ifCond .gt 7, 3) := by decide +kernel
theorem dX1_mayEndAt_30 : decode cX1_mayEndAt 30 = .ok (.iconst 1, 1) := by decide +kernel
theorem dX1_mayEndAt_31 : decode cX1_mayEndAt 31 = .ok (.goto 4, 3) := by decide +kernel
theorem dX1_mayEndAt_34 : decode cX1_mayEndAt 34 = .ok (.iconst 0, 1) := by decide +kernel
theorem dX1_mayEndAt_35 : decode cX1_mayEndAt 35 = .ok (.ireturn, 1) := by decide +kernel
set_option maxRecDepth 20000 in
theorem ggX1_withEnd_X1_init : GoodIn wsX1_withEnd wsX1_init := goodIn_r _ [10, 11, 12, 13, 4, 5, 6, 7, 14, 15, 16, 17] (by decide +kernel) (by decide +kernel)
set_option maxRecDepth 20000 in
theorem gX1_withEnd_X1_init : GoodIn wsX1_withEnd (wsX1_init) := ggX1_withEnd_X1_init
theorem dX1_withEnd_0 : decode cX1_withEnd 0 = .ok (.iload_n 1, 1) := by decide +kernel
theorem dX1_withEnd_1 : decode cX1_withEnd 1 = .ok (.ifCond .eq 24, 3) := by decide +kernel
theorem dX1_withEnd_4 : decode cX1_withEnd 4 = .ok (.new 8, 3) := by decide +kernel
theorem dX1_withEnd_7 : decode cX1_withEnd 7 = .ok (.dup, 1) := by decide +kernel
theorem dX1_withEnd_8 : decode cX1_withEnd 8 = .ok (.aload_n 0, 1) := by decide +kernel
theorem dX1_withEnd_9 : decode cX1_withEnd 9 = .ok (.getfield 7, 3) := by decide +kernel
theorem dX1_withEnd_12 : decode cX1_withEnd 12 = .ok (.aload_n 0, 1) := by decide +kernel
theorem dX1_withEnd_13 : decode cX1_withEnd 13 = .ok (.getfield 13, 3) := by decide +kernel
theorem dX1_withEnd_16 : decode cX1_withEnd 16 = .ok (.lload_n 2, 1) := by decide +kernel
theorem dX1_withEnd_17 : decode cX1_withEnd 17 = .ok (.iload 4, 2) := by decide +kernel
theorem dX1_withEnd_19 : decode cX1_withEnd 19 = .ok (.invokespecial 42, 3) := by decide +kernel
theorem dX1_withEnd_22 : decode cX1_withEnd 22 = .ok (.goto 21, 3) := by decide +kernel
theorem dX1_withEnd_25 : decode cX1_withEnd 25 = .ok (.new 8, 3) := by decide +kernel
theorem dX1_withEnd_28 : decode cX1_withEnd 28 = .ok (.dup, 1) := by decide +kernel
theorem dX1_withEnd_29 : decode cX1_withEnd 29 = .ok (.lload_n 2, 1) := by decide +kernel
theorem dX1_withEnd_30 : decode cX1_withEnd 30 = .ok (.iload 4, 2) := by decide +kernel
theorem dX1_withEnd_32 : decode cX1_withEnd 32 = .ok (.aload_n 0, 1) := by decide +kernel
theorem dX1_withEnd_33 : decode cX1_withEnd 33 = .ok (.getfield 17, 3) := by decide +kernel
theorem dX1_withEnd_36 : decode cX1_withEnd 36 = .ok (.aload_n 0, 1) := by decide +kernel
theorem dX1_withEnd_37 : decode cX1_withEnd 37 = .ok (.getfield 20, 3) := by decide +kernel
theorem dX1_withEnd_40 : decode cX1_withEnd 40 = .ok (.invokespecial 42, 3) := by decide +kernel
theorem dX1_withEnd_43 : decode cX1_withEnd 43 = .ok (.areturn, 1) := by decide +kernel
set_option maxRecDepth 20000 in
theorem ggX2_init_X0_init : GoodIn wsX2_init wsX0_init := goodIn_r _ [17, 18, 2, 3, 19, 20, 21, 22, 31, 32, 33] (by decide +kernel) (by decide +kernel)
set_option maxRecDepth 20000 in
theorem gX2_init_X0_init_n11 : GoodIn wsX2_init (wsX0_init) := ggX2_init_X0_init
set_option maxRecDepth 20000 in
theorem ggX2_init_X1_init : GoodIn wsX2_init wsX1_init := goodIn_r _ [25, 26, 2, 3, 27, 28, 29, 30, 38, 39, 40, 41] (by decide +kernel) (by decide +kernel)
set_option maxRecDepth 20000 in
theorem gX2_init_X1_init : GoodIn wsX2_init (wsX1_init) := ggX2_init_X1_init
theorem dX2_init_0 : decode cX2_init 0 = .ok (.aload_n 0, 1) := by decide +kernel
theorem dX2_init_1 : decode cX2_init 1 = .ok (.invokespecial 3, 3) := by decide +kernel
theorem dX2_init_4 : decode cX2_init 4 = .ok (.aload_n 0, 1) := by decide +kernel
theorem dX2_init_5 : decode cX2_init 5 = .ok (.new 9, 3) := by decide +kernel
theorem dX2_init_8 : decode cX2_init 8 = .ok (.dup, 1) := by decide +kernel
theorem dX2_init_9 : decode cX2_init 9 = .ok (.invokespecial 11, 3) := by decide +kernel
theorem dX2_init_12 : decode cX2_init 12 = .ok (.putfield 12, 3) := by decide +kernel
theorem dX2_init_15 : decode cX2_init 15 = .ok (.aload_n 0, 1) := by decide +kernel
theorem dX2_init_16 : decode cX2_init 16 = .ok (.new 16, 3) := by decide +kernel
theorem dX2_init_19 : decode cX2_init 19 = .ok (.dup, 1) := by decide +kernel
theorem dX2_init_20 : decode cX2_init 20 = .ok (.ldc2_w 18, 3) := by decide +kernel
theorem dX2_init_23 : decode cX2_init 23 = .ok (.iconst 0, 1) := by decide +kernel
theorem dX2_init_24 : decode cX2_init 24 = .ok (.ldc2_w 20, 3) := by decide +kernel
theorem dX2_init_27 : decode cX2_init 27 = .ok (.iconst 0, 1) := by decide +kernel
theorem dX2_init_28 : decode cX2_init 28 = .ok (.invokespecial 22, 3) := by decide +kernel
theorem dX2_init_31 : decode cX2_init 31 = .ok (.putfield 25, 3) := by decide +kernel
theorem dX2_init_34 : decode cX2_init 34 = .ok (.aload_n 0, 1) := by decide +kernel
theorem dX2_init_35 : decode cX2_init 35 = .ok (.aload_n 0, 1) := by decide +kernel
theorem dX2_init_36 : decode cX2_init 36 = .ok (.getfield 25, 3) := by decide +kernel
theorem dX2_init_39 : decode cX2_init 39 = .ok (.putfield 29, 3) := by decide +kernel
theorem dX2_init_42 : decode cX2_init 42 = .ok (.aload_n 0, 1) := by decide +kernel
theorem dX2_init_43 : decode cX2_init 43 = .ok (.iconst 0, 1) := by decide +kernel
theorem dX2_init_44 : decode cX2_init 44 = .ok (.putfield 32, 3) := by decide +kernel
theorem dX2_init_47 : decode cX2_init 47 = .ok (.return_, 1) := by decide +kernel
set_option maxRecDepth 20000 in
theorem ggX2_put_X0_store : GoodIn wsX2_put wsX0_store := goodIn_r _ [6, 7, 8, 9, 10, 11, 5, 12, 13, 14, 15, 16, 17, 18, 19, 20, 21, 22, 27, 28, 29] (by decide +kernel) (by decide +kernel)
set_option maxRecDepth 20000 in
theorem gX2_put_X0_store : GoodIn wsX2_put (wsV RX2 36 RX0 yX0_store wsX0_store) := goodIn_app (goodIn_of _ (by decide +kernel)) ggX2_put_X0_store
theorem dX2_put_0 : decode cX2_put 0 = .ok (.aload_n 0, 1) := by decide +kernel
theorem dX2_put_1 : decode cX2_put 1 = .ok (.getfield 12, 3) := by decide +kernel
theorem dX2_put_4 : decode cX2_put 4 = .ok (.iload_n 1, 1) := by decide +kernel
theorem dX2_put_5 : decode cX2_put 5 = .ok (.iload_n 2, 1) := by decide +kernel
theorem dX2_put_6 : decode cX2_put 6 = .ok (.invokevirtual 36, 3) := by decide +kernel
theorem dX2_put_9 : decode cX2_put 9 = .ok (.lreturn, 1) := by decide +kernel
set_option maxRecDepth 20000 in
theorem ggX2_add_X0_valueOf : GoodIn wsX2_add wsX0_valueOf := goodIn_r _ [7, 8, 9, 10, 11, 12, 6, 13, 14, 15, 16, 17, 18, 19, 32, 33, 34] (by decide +kernel) (by decide +kernel)
set_option maxRecDepth 20000 in
theorem gX2_add_X0_valueOf : GoodIn wsX2_add (wsV RX2 40 RX0 yX0_valueOf wsX0_valueOf) := goodIn_app (goodIn_of _ (by decide +kernel)) ggX2_add_X0_valueOf
set_option maxRecDepth 20000 in
theorem ggX2_add_X0_store : GoodIn wsX2_add wsX0_store := goodIn_r _ [23, 9, 8, 10, 11, 12, 6, 13, 14, 15, 16, 17, 18, 19, 24, 25, 26, 27, 32, 33, 34] (by decide +kernel) (by decide +kernel)
set_option maxRecDepth 20000 in
theorem gX2_add_X0_store : GoodIn wsX2_add (wsV RX2 36 RX0 yX0_store wsX0_store) := goodIn_app (goodIn_of _ (by decide +kernel)) ggX2_add_X0_store
theorem dX2_add_0 : decode cX2_add 0 = .ok (.aload_n 0, 1) := by decide +kernel
theorem dX2_add_1 : decode cX2_add 1 = .ok (.getfield 12, 3) := by decide +kernel
theorem dX2_add_4 : decode cX2_add 4 = .ok (.iload_n 1, 1) := by decide +kernel
theorem dX2_add_5 : decode cX2_add 5 = .ok (.invokevirtual 40, 3) := by decide +kernel
theorem dX2_add_8 : decode cX2_add 8 = .ok (.lstore_n 3, 1) := by decide +kernel
theorem dX2_add_9 : decode cX2_add 9 = .ok (.lload_n 3, 1) := by decide +kernel
theorem dX2_add_10 : decode cX2_add 10 = .ok (.ldc2_w 44, 3) := by decide +kernel
theorem dX2_add_13 : decode cX2_add 13 = .ok (.lcmp, 1) := by decide +kernel
theorem dX2_add_14 : decode cX2_add 14 = .ok (.ifCond .ne 15, 3) := by decide +kernel
theorem dX2_add_17 : decode cX2_add 17 = .ok (.aload_n 0, 1) := by decide +kernel
theorem dX2_add_18 : decode cX2_add 18 = .ok (.getfield 12, 3) := by decide +kernel
theorem dX2_add_21 : decode cX2_add 21 = .ok (.iload_n 1, 1) := by decide +kernel
theorem dX2_add_22 : decode cX2_add 22 = .ok (.iload_n 2, 1) := by decide +kernel
theorem dX2_add_23 : decode cX2_add 23 = .ok (.invokevirtual 36, 3) := by decide +kernel
theorem dX2_add_26 : decode cX2_add 26 = .ok (.goto 4, 3) := by decide +kernel
theorem dX2_add_29 : decode cX2_add 29 = .ok (.lload_n 3, 1) := by decide +kernel
theorem dX2_add_30 : decode cX2_add 30 = .ok (.lreturn, 1) := by decide +kernel
set_option maxRecDepth 20000 in
theorem ggX2_get_X0_valueOf : GoodIn wsX2_get wsX0_valueOf := goodIn_r _ [6, 7, 8, 9, 10, 11, 5, 12, 13, 14, 15, 16, 17, 18, 23, 24, 25] (by decide +kernel) (by decide +kernel)
set_option maxRecDepth 20000 in
theorem gX2_get_X0_valueOf : GoodIn wsX2_get (wsV RX2 40 RX0 yX0_valueOf wsX0_valueOf) := goodIn_app (goodIn_of _ (by decide +kernel)) ggX2_get_X0_valueOf
theorem dX2_get_0 : decode cX2_get 0 = .ok (.aload_n 0, 1) := by decide +kernel
theorem dX2_get_1 : decode cX2_get 1 = .ok (.getfield 12, 3) := by decide +kernel
theorem dX2_get_4 : decode cX2_get 4 = .ok (.iload_n 1, 1) := by decide +kernel
theorem dX2_get_5 : decode cX2_get 5 = .ok (.invokevirtual 40, 3) := by decide +kernel
theorem dX2_get_8 : decode cX2_get 8 = .ok (.lreturn, 1) := by decide +kernel
set_option maxRecDepth 20000 in
theorem ggX2_remove_X0_drop : GoodIn wsX2_remove wsX0_drop := goodIn_r _ [6, 7, 8, 9, 10, 11, 5, 12, 13, 14, 15, 16, 17, 18, 19, 20, 21, 22, 23, 24, 25, 26, 27, 28, 29, 30, 35, 36, 37] (by decide +kernel) (by decide +kernel)
set_option maxRecDepth 20000 in
theorem gX2_remove_X0_drop : GoodIn wsX2_remove (wsV RX2 46 RX0 yX0_drop wsX0_drop) := goodIn_app (goodIn_of _ (by decide +kernel)) ggX2_remove_X0_drop
theorem dX2_remove_0 : decode cX2_remove 0 = .ok (.aload_n 0, 1) := by decide +kernel
theorem dX2_remove_1 : decode cX2_remove 1 = .ok (.getfield 12, 3) := by decide +kernel
theorem dX2_remove_4 : decode cX2_remove 4 = .ok (.iload_n 1, 1) := by decide +kernel
theorem dX2_remove_5 : decode cX2_remove 5 = .ok (.invokevirtual 46, 3) := by decide +kernel
theorem dX2_remove_8 : decode cX2_remove 8 = .ok (.lreturn, 1) := by decide +kernel
set_option maxRecDepth 20000 in
theorem ggX2_has_X0_valueOf : GoodIn wsX2_has wsX0_valueOf := goodIn_r _ [7, 8, 9, 10, 11, 12, 6, 13, 14, 15, 16, 17, 18, 19, 28, 29, 30] (by decide +kernel) (by decide +kernel)
set_option maxRecDepth 20000 in
theorem gX2_has_X0_valueOf : GoodIn wsX2_has (wsV RX2 40 RX0 yX0_valueOf wsX0_valueOf) := goodIn_app (goodIn_of _ (by decide +kernel)) ggX2_has_X0_valueOf
set_option maxRecDepth 20000 in
theorem ggX2_has_X0_holdsValue : GoodIn wsX2_has wsX0_holdsValue := goodIn_r _ [23, 14, 8, 28, 29, 30] (by decide +kernel) (by decide +kernel)
set_option maxRecDepth 20000 in
theorem gX2_has_X0_holdsValue : GoodIn wsX2_has (wsV RX2 49 RX0 yX0_holdsValue wsX0_holdsValue) := goodIn_app (goodIn_of _ (by decide +kernel)) ggX2_has_X0_holdsValue
theorem dX2_has_0 : decode cX2_has 0 = .ok (.iload_n 1, 1) := by decide +kernel
theorem dX2_has_1 : decode cX2_has 1 = .ok (.lookupswitch 57 #[(0, 27), (1, 48)], 27) := by decide +kernel
theorem dX2_has_28 : decode cX2_has 28 = .ok (.aload_n 0, 1) := by decide +kernel
theorem dX2_has_29 : decode cX2_has 29 = .ok (.getfield 12, 3) := by decide +kernel
theorem dX2_has_32 : decode cX2_has 32 = .ok (.iload_n 2, 1) := by decide +kernel
theorem dX2_has_33 : decode cX2_has 33 = .ok (.invokevirtual 40, 3) := by decide +kernel
theorem dX2_has_36 : decode cX2_has 36 = .ok (.ldc2_w 44, 3) := by decide +kernel
theorem dX2_has_39 : decode cX2_has 39 = .ok (.lcmp, 1) := by decide +kernel
theorem dX2_has_40 : decode cX2_has 40 = .ok (.ifCond .eq 7, 3) := by decide +kernel
theorem dX2_has_43 : decode cX2_has 43 = .ok (.iconst 1, 1) := by decide +kernel
theorem dX2_has_44 : decode cX2_has 44 = .ok (.goto 4, 3) := by decide +kernel
theorem dX2_has_47 : decode cX2_has 47 = .ok (.iconst 0, 1) := by decide +kernel
theorem dX2_has_48 : decode cX2_has 48 = .ok (.ireturn, 1) := by decide +kernel
theorem dX2_has_49 : decode cX2_has 49 = .ok (.aload_n 0, 1) := by decide +kernel
theorem dX2_has_50 : decode cX2_has 50 = .ok (.getfield 12, 3) := by decide +kernel
theorem dX2_has_53 : decode cX2_has 53 = .ok (.iload_n 2, 1) := by decide +kernel
theorem dX2_has_54 : decode cX2_has 54 = .ok (.invokevirtual 49, 3) := by decide +kernel
theorem dX2_has_57 : decode cX2_has 57 = .ok (.ireturn, 1) := by decide +kernel
theorem dX2_has_58 : decode cX2_has 58 = .ok (.iconst 0, 1) := by decide +kernel
theorem dX2_has_59 : decode cX2_has 59 = .ok (.ireturn, 1) := by decide +kernel
set_option maxRecDepth 20000 in
theorem ggX2_near_X0_count : GoodIn wsX2_near wsX0_count := goodIn_r _ [6, 7, 39, 40, 41] (by decide +kernel) (by decide +kernel)
set_option maxRecDepth 20000 in
theorem gX2_near_X0_count : GoodIn wsX2_near (wsV RX2 53 RX0 yX0_count wsX0_count) := goodIn_app (goodIn_of _ (by decide +kernel)) ggX2_near_X0_count
set_option maxRecDepth 20000 in
theorem ggX2_near_X2_keyNear : GoodIn wsX2_near wsX2_keyNear := goodIn_r _ [12, 1, 13, 14, 15, 16, 17, 18, 19, 20, 21, 22, 23, 5, 24, 7, 25, 26, 27, 28, 11, 29, 30, 31, 32, 33, 34, 35, 36, 37, 38, 39, 40, 41] (by decide +kernel) (by decide +kernel)
set_option maxRecDepth 20000 in
theorem gX2_near_X2_keyNear : GoodIn wsX2_near (wsV RX2 57 RX2 yX2_keyNear wsX2_keyNear) := goodIn_app (goodIn_of _ (by decide +kernel)) ggX2_near_X2_keyNear
theorem dX2_near_0 : decode cX2_near 0 = .ok (.aload_n 0, 1) := by decide +kernel
theorem dX2_near_1 : decode cX2_near 1 = .ok (.iload_n 1, 1) := by decide +kernel
theorem dX2_near_2 : decode cX2_near 2 = .ok (.iload_n 2, 1) := by decide +kernel
theorem dX2_near_3 : decode cX2_near 3 = .ok (.iconst 0, 1) := by decide +kernel
theorem dX2_near_4 : decode cX2_near 4 = .ok (.aload_n 0, 1) := by decide +kernel
theorem dX2_near_5 : decode cX2_near 5 = .ok (.getfield 12, 3) := by decide +kernel
theorem dX2_near_8 : decode cX2_near 8 = .ok (.invokevirtual 53, 3) := by decide +kernel
theorem dX2_near_11 : decode cX2_near 11 = .ok (.invokevirtual 57, 3) := by decide +kernel
theorem dX2_near_14 : decode cX2_near 14 = .ok (.lreturn, 1) := by decide +kernel
set_option maxRecDepth 20000 in
theorem ggX2_poll_X0_count : GoodIn wsX2_poll wsX0_count := goodIn_r _ [6, 7, 41, 42, 43] (by decide +kernel) (by decide +kernel)
set_option maxRecDepth 20000 in
theorem gX2_poll_X0_count : GoodIn wsX2_poll (wsV RX2 53 RX0 yX0_count wsX0_count) := goodIn_app (goodIn_of _ (by decide +kernel)) ggX2_poll_X0_count
set_option maxRecDepth 20000 in
theorem ggX2_poll_X2_pollWithin : GoodIn wsX2_poll wsX2_pollWithin := goodIn_r _ [12, 13, 1, 14, 15, 16, 11, 17, 18, 19, 20, 5, 21, 7, 22, 23, 24, 25, 26, 27, 28, 29, 30, 31, 32, 33, 34, 35, 36, 37, 38, 39, 40, 41, 42, 43] (by decide +kernel) (by decide +kernel)
set_option maxRecDepth 20000 in
theorem gX2_poll_X2_pollWithin : GoodIn wsX2_poll (wsV RX2 61 RX2 yX2_pollWithin wsX2_pollWithin) := goodIn_app (goodIn_of _ (by decide +kernel)) ggX2_poll_X2_pollWithin
theorem dX2_poll_0 : decode cX2_poll 0 = .ok (.aload_n 0, 1) := by decide +kernel
theorem dX2_poll_1 : decode cX2_poll 1 = .ok (.iload_n 1, 1) := by decide +kernel
theorem dX2_poll_2 : decode cX2_poll 2 = .ok (.iconst 0, 1) := by decide +kernel
theorem dX2_poll_3 : decode cX2_poll 3 = .ok (.aload_n 0, 1) := by decide +kernel
theorem dX2_poll_4 : decode cX2_poll 4 = .ok (.getfield 12, 3) := by decide +kernel
theorem dX2_poll_7 : decode cX2_poll 7 = .ok (.invokevirtual 53, 3) := by decide +kernel
theorem dX2_poll_10 : decode cX2_poll 10 = .ok (.invokevirtual 61, 3) := by decide +kernel
theorem dX2_poll_13 : decode cX2_poll 13 = .ok (.lreturn, 1) := by decide +kernel
set_option maxRecDepth 20000 in
theorem ggX2_size_X0_count : GoodIn wsX2_size wsX0_count := goodIn_r _ [6, 7, 12, 13, 14] (by decide +kernel) (by decide +kernel)
set_option maxRecDepth 20000 in
theorem gX2_size_X0_count : GoodIn wsX2_size (wsV RX2 53 RX0 yX0_count wsX0_count) := goodIn_app (goodIn_of _ (by decide +kernel)) ggX2_size_X0_count
theorem dX2_size_0 : decode cX2_size 0 = .ok (.aload_n 0, 1) := by decide +kernel
theorem dX2_size_1 : decode cX2_size 1 = .ok (.getfield 12, 3) := by decide +kernel
theorem dX2_size_4 : decode cX2_size 4 = .ok (.invokevirtual 53, 3) := by decide +kernel
theorem dX2_size_7 : decode cX2_size 7 = .ok (.ireturn, 1) := by decide +kernel
set_option maxRecDepth 20000 in
theorem ggX2_clear_X0_count : GoodIn wsX2_clear wsX0_count := goodIn_r _ [6, 7, 26, 27, 28] (by decide +kernel) (by decide +kernel)
set_option maxRecDepth 20000 in
theorem gX2_clear_X0_count : GoodIn wsX2_clear (wsV RX2 53 RX0 yX0_count wsX0_count) := goodIn_app (goodIn_of _ (by decide +kernel)) ggX2_clear_X0_count
set_option maxRecDepth 20000 in
theorem ggX2_clear_X0_dropPlaces : GoodIn wsX2_clear wsX0_dropPlaces := goodIn_r _ [11, 12, 13, 14, 5, 15, 7, 16, 17, 18, 19, 20, 21, 26, 27, 28] (by decide +kernel) (by decide +kernel)
set_option maxRecDepth 20000 in
theorem gX2_clear_X0_dropPlaces : GoodIn wsX2_clear (wsV RX2 65 RX0 yX0_dropPlaces wsX0_dropPlaces) := goodIn_app (goodIn_of _ (by decide +kernel)) ggX2_clear_X0_dropPlaces
theorem dX2_clear_0 : decode cX2_clear 0 = .ok (.aload_n 0, 1) := by decide +kernel
theorem dX2_clear_1 : decode cX2_clear 1 = .ok (.getfield 12, 3) := by decide +kernel
theorem dX2_clear_4 : decode cX2_clear 4 = .ok (.iconst 0, 1) := by decide +kernel
theorem dX2_clear_5 : decode cX2_clear 5 = .ok (.aload_n 0, 1) := by decide +kernel
theorem dX2_clear_6 : decode cX2_clear 6 = .ok (.getfield 12, 3) := by decide +kernel
theorem dX2_clear_9 : decode cX2_clear 9 = .ok (.invokevirtual 53, 3) := by decide +kernel
theorem dX2_clear_12 : decode cX2_clear 12 = .ok (.invokevirtual 65, 3) := by decide +kernel
theorem dX2_clear_15 : decode cX2_clear 15 = .ok (.ireturn, 1) := by decide +kernel
set_option maxRecDepth 20000 in
theorem ggX2_look_X1_part : GoodIn wsX2_look wsX1_part := goodIn_r _ [8, 9, 10, 11, 7, 12, 13, 14, 15, 16, 17, 18, 19, 20, 21, 22, 23, 24, 25, 26, 27, 28, 29, 30, 31, 32, 33, 34, 35, 36, 37, 38, 39, 40, 45, 46, 47, 48] (by decide +kernel) (by decide +kernel)
set_option maxRecDepth 20000 in
theorem gX2_look_X1_part : GoodIn wsX2_look (wsV RX2 69 RX1 yX1_part wsX1_part) := goodIn_app (goodIn_of _ (by decide +kernel)) ggX2_look_X1_part
theorem dX2_look_0 : decode cX2_look 0 = .ok (.aload_n 0, 1) := by decide +kernel
theorem dX2_look_1 : decode cX2_look 1 = .ok (.getfield 25, 3) := by decide +kernel
theorem dX2_look_4 : decode cX2_look 4 = .ok (.iload_n 1, 1) := by decide +kernel
theorem dX2_look_5 : decode cX2_look 5 = .ok (.iload_n 2, 1) := by decide +kernel
theorem dX2_look_6 : decode cX2_look 6 = .ok (.iload_n 3, 1) := by decide +kernel
theorem dX2_look_7 : decode cX2_look 7 = .ok (.iload 4, 2) := by decide +kernel
theorem dX2_look_9 : decode cX2_look 9 = .ok (.iload 5, 2) := by decide +kernel
theorem dX2_look_11 : decode cX2_look 11 = .ok (.iconst 0, 1) := by decide +kernel
theorem dX2_look_12 : decode cX2_look 12 = .ok (.invokevirtual 69, 3) := by decide +kernel
theorem dX2_look_15 : decode cX2_look 15 = .ok (.astore 6, 2) := by decide +kernel
theorem dX2_look_17 : decode cX2_look 17 = .ok (.aload 6, 2) := by decide +kernel
theorem dX2_look_19 : decode cX2_look 19 = .ok (.ifnonnull 5, 3) := by decide +kernel
theorem dX2_look_22 : decode cX2_look 22 = .ok (.iconst 1, 1) := by decide +kernel
theorem dX2_look_23 : decode cX2_look 23 = .ok (.ireturn, 1) := by decide +kernel
theorem dX2_look_24 : decode cX2_look 24 = .ok (.aload_n 0, 1) := by decide +kernel
theorem dX2_look_25 : decode cX2_look 25 = .ok (.aload 6, 2) := by decide +kernel
theorem dX2_look_27 : decode cX2_look 27 = .ok (.putfield 29, 3) := by decide +kernel
theorem dX2_look_30 : decode cX2_look 30 = .ok (.aload_n 0, 1) := by decide +kernel
theorem dX2_look_31 : decode cX2_look 31 = .ok (.iconst 0, 1) := by decide +kernel
theorem dX2_look_32 : decode cX2_look 32 = .ok (.putfield 32, 3) := by decide +kernel
theorem dX2_look_35 : decode cX2_look 35 = .ok (.iconst 0, 1) := by decide +kernel
theorem dX2_look_36 : decode cX2_look 36 = .ok (.ireturn, 1) := by decide +kernel
set_option maxRecDepth 20000 in
theorem ggX2_narrow_X1_part : GoodIn wsX2_narrow wsX1_part := goodIn_r _ [7, 8, 9, 10, 6, 11, 12, 13, 14, 15, 16, 17, 18, 19, 20, 21, 22, 23, 24, 25, 26, 27, 28, 29, 30, 31, 32, 33, 34, 35, 36, 37, 38, 39, 44, 45, 46, 47] (by decide +kernel) (by decide +kernel)
set_option maxRecDepth 20000 in
theorem gX2_narrow_X1_part : GoodIn wsX2_narrow (wsV RX2 69 RX1 yX1_part wsX1_part) := goodIn_app (goodIn_of _ (by decide +kernel)) ggX2_narrow_X1_part
theorem dX2_narrow_0 : decode cX2_narrow 0 = .ok (.aload_n 0, 1) := by decide +kernel
theorem dX2_narrow_1 : decode cX2_narrow 1 = .ok (.getfield 29, 3) := by decide +kernel
theorem dX2_narrow_4 : decode cX2_narrow 4 = .ok (.iload_n 1, 1) := by decide +kernel
theorem dX2_narrow_5 : decode cX2_narrow 5 = .ok (.iload_n 2, 1) := by decide +kernel
theorem dX2_narrow_6 : decode cX2_narrow 6 = .ok (.iload_n 3, 1) := by decide +kernel
theorem dX2_narrow_7 : decode cX2_narrow 7 = .ok (.iload 4, 2) := by decide +kernel
theorem dX2_narrow_9 : decode cX2_narrow 9 = .ok (.iload 5, 2) := by decide +kernel
theorem dX2_narrow_11 : decode cX2_narrow 11 = .ok (.aload_n 0, 1) := by decide +kernel
theorem dX2_narrow_12 : decode cX2_narrow 12 = .ok (.getfield 32, 3) := by decide +kernel
theorem dX2_narrow_15 : decode cX2_narrow 15 = .ok (.invokevirtual 69, 3) := by decide +kernel
theorem dX2_narrow_18 : decode cX2_narrow 18 = .ok (.astore 6, 2) := by decide +kernel
theorem dX2_narrow_20 : decode cX2_narrow 20 = .ok (.aload 6, 2) := by decide +kernel
theorem dX2_narrow_22 : decode cX2_narrow 22 = .ok (.ifnonnull 5, 3) := by decide +kernel
theorem dX2_narrow_25 : decode cX2_narrow 25 = .ok (.iconst 1, 1) := by decide +kernel
theorem dX2_narrow_26 : decode cX2_narrow 26 = .ok (.ireturn, 1) := by decide +kernel
theorem dX2_narrow_27 : decode cX2_narrow 27 = .ok (.aload_n 0, 1) := by decide +kernel
theorem dX2_narrow_28 : decode cX2_narrow 28 = .ok (.aload 6, 2) := by decide +kernel
theorem dX2_narrow_30 : decode cX2_narrow 30 = .ok (.putfield 29, 3) := by decide +kernel
theorem dX2_narrow_33 : decode cX2_narrow 33 = .ok (.iconst 0, 1) := by decide +kernel
theorem dX2_narrow_34 : decode cX2_narrow 34 = .ok (.ireturn, 1) := by decide +kernel
set_option maxRecDepth 20000 in
theorem ggX2_turn_X2_viewSize : GoodIn wsX2_turn wsX2_viewSize := goodIn_r _ [6, 7, 8, 9, 5, 10, 11, 12, 13, 14, 15, 16, 17, 18, 19, 20, 21, 22, 23, 24, 25, 26, 27, 28, 29, 30, 31, 32, 33, 34, 35, 36, 37, 38, 39, 40, 41, 42, 43, 44, 45, 46, 47, 48, 49, 50, 51] (by decide +kernel) (by decide +kernel)
set_option maxRecDepth 20000 in
theorem gX2_turn_X2_viewSize : GoodIn wsX2_turn (wsV RX2 73 RX2 yX2_viewSize wsX2_viewSize) := goodIn_app (goodIn_of _ (by decide +kernel)) ggX2_turn_X2_viewSize
theorem dX2_turn_0 : decode cX2_turn 0 = .ok (.aload_n 0, 1) := by decide +kernel
theorem dX2_turn_1 : decode cX2_turn 1 = .ok (.aload_n 0, 1) := by decide +kernel
theorem dX2_turn_2 : decode cX2_turn 2 = .ok (.getfield 32, 3) := by decide +kernel
theorem dX2_turn_5 : decode cX2_turn 5 = .ok (.ifCond .ne 7, 3) := by decide +kernel
theorem dX2_turn_8 : decode cX2_turn 8 = .ok (.iconst 1, 1) := by decide +kernel
theorem dX2_turn_9 : decode cX2_turn 9 = .ok (.goto 4, 3) := by decide +kernel
theorem dX2_turn_12 : decode cX2_turn 12 = .ok (.iconst 0, 1) := by decide +kernel
theorem dX2_turn_13 : decode cX2_turn 13 = .ok (.putfield 32, 3) := by decide +kernel
theorem dX2_turn_16 : decode cX2_turn 16 = .ok (.aload_n 0, 1) := by decide +kernel
theorem dX2_turn_17 : decode cX2_turn 17 = .ok (.invokevirtual 73, 3) := by decide +kernel
theorem dX2_turn_20 : decode cX2_turn 20 = .ok (.ireturn, 1) := by decide +kernel
set_option maxRecDepth 20000 in
theorem ggX2_viewSize_X2_viewEnd : GoodIn wsX2_viewSize wsX2_viewEnd := goodIn_r _ [5, 6, 7, 8, 9, 10, 11, 12, 13, 14, 4, 15, 16, 17, 18, 19, 20, 21, 22, 23, 24, 25, 26, 27, 28, 29, 30, 31, 32, 33, 34, 35, 36, 37, 38, 39, 40, 41, 42, 43, 44, 45, 46] (by decide +kernel) (by decide +kernel)
set_option maxRecDepth 20000 in
theorem gX2_viewSize_X2_viewEnd : GoodIn wsX2_viewSize (wsV RX2 76 RX2 yX2_viewEnd wsX2_viewEnd) := goodIn_app (goodIn_of _ (by decide +kernel)) ggX2_viewSize_X2_viewEnd
set_option maxRecDepth 20000 in
theorem ggX2_viewSize_X2_viewBegin : GoodIn wsX2_viewSize wsX2_viewBegin := goodIn_r _ [15, 6, 7, 16, 17, 18, 19, 20, 21, 22, 23, 24, 25, 26, 27, 28, 29, 36, 37, 38, 39, 40, 41, 42, 43, 44, 45, 46] (by decide +kernel) (by decide +kernel)
set_option maxRecDepth 20000 in
theorem gX2_viewSize_X2_viewBegin : GoodIn wsX2_viewSize (wsV RX2 79 RX2 yX2_viewBegin wsX2_viewBegin) := goodIn_app (goodIn_of _ (by decide +kernel)) ggX2_viewSize_X2_viewBegin
theorem dX2_viewSize_0 : decode cX2_viewSize 0 = .ok (.aload_n 0, 1) := by decide +kernel
theorem dX2_viewSize_1 : decode cX2_viewSize 1 = .ok (.invokevirtual 76, 3) := by decide +kernel
theorem dX2_viewSize_4 : decode cX2_viewSize 4 = .ok (.aload_n 0, 1) := by decide +kernel
theorem dX2_viewSize_5 : decode cX2_viewSize 5 = .ok (.invokevirtual 79, 3) := by decide +kernel
theorem dX2_viewSize_8 : decode cX2_viewSize 8 = .ok (.isub, 1) := by decide +kernel
theorem dX2_viewSize_9 : decode cX2_viewSize 9 = .ok (.ireturn, 1) := by decide +kernel
set_option maxRecDepth 20000 in
theorem ggX2_viewPut_X1_holds : GoodIn wsX2_viewPut wsX1_holds := goodIn_r _ [8, 9, 10, 11, 7, 12, 13, 14, 15, 16, 17, 18, 19, 20, 46, 47, 48, 49] (by decide +kernel) (by decide +kernel)
set_option maxRecDepth 20000 in
theorem gX2_viewPut_X1_holds : GoodIn wsX2_viewPut (wsV RX2 82 RX1 yX1_holds wsX1_holds) := goodIn_app (goodIn_of _ (by decide +kernel)) ggX2_viewPut_X1_holds
set_option maxRecDepth 20000 in
theorem ggX2_viewPut_X0_store : GoodIn wsX2_viewPut wsX0_store := goodIn_r _ [25, 26, 27, 28, 29, 30, 24, 31, 32, 33, 34, 35, 36, 37, 38, 39, 40, 41, 50, 51, 52] (by decide +kernel) (by decide +kernel)
set_option maxRecDepth 20000 in
theorem gX2_viewPut_X0_store : GoodIn wsX2_viewPut (wsV RX2 36 RX0 yX0_store wsX0_store) := goodIn_app (goodIn_of _ (by decide +kernel)) ggX2_viewPut_X0_store
theorem dX2_viewPut_0 : decode cX2_viewPut 0 = .ok (.aload_n 0, 1) := by decide +kernel
theorem dX2_viewPut_1 : decode cX2_viewPut 1 = .ok (.getfield 29, 3) := by decide +kernel
theorem dX2_viewPut_4 : decode cX2_viewPut 4 = .ok (.iload_n 1, 1) := by decide +kernel
theorem dX2_viewPut_5 : decode cX2_viewPut 5 = .ok (.i2l, 1) := by decide +kernel
theorem dX2_viewPut_6 : decode cX2_viewPut 6 = .ok (.invokevirtual 82, 3) := by decide +kernel
theorem dX2_viewPut_9 : decode cX2_viewPut 9 = .ok (.ifCond .eq 15, 3) := by decide +kernel
theorem dX2_viewPut_12 : decode cX2_viewPut 12 = .ok (.aload_n 0, 1) := by decide +kernel
theorem dX2_viewPut_13 : decode cX2_viewPut 13 = .ok (.getfield 12, 3) := by decide +kernel
theorem dX2_viewPut_16 : decode cX2_viewPut 16 = .ok (.iload_n 1, 1) := by decide +kernel
theorem dX2_viewPut_17 : decode cX2_viewPut 17 = .ok (.iload_n 2, 1) := by decide +kernel
theorem dX2_viewPut_18 : decode cX2_viewPut 18 = .ok (.invokevirtual 36, 3) := by decide +kernel
theorem dX2_viewPut_21 : decode cX2_viewPut 21 = .ok (.goto 6, 3) := by decide +kernel
theorem dX2_viewPut_24 : decode cX2_viewPut 24 = .ok (.ldc2_w 86, 3) := by decide +kernel
theorem dX2_viewPut_27 : decode cX2_viewPut 27 = .ok (.lreturn, 1) := by decide +kernel
set_option maxRecDepth 20000 in
theorem ggX2_viewGet_X1_holds : GoodIn wsX2_viewGet wsX1_holds := goodIn_r _ [8, 9, 10, 11, 7, 12, 13, 14, 15, 16, 17, 18, 19, 20, 42, 43, 44, 45] (by decide +kernel) (by decide +kernel)
set_option maxRecDepth 20000 in
theorem gX2_viewGet_X1_holds : GoodIn wsX2_viewGet (wsV RX2 82 RX1 yX1_holds wsX1_holds) := goodIn_app (goodIn_of _ (by decide +kernel)) ggX2_viewGet_X1_holds
set_option maxRecDepth 20000 in
theorem ggX2_viewGet_X0_valueOf : GoodIn wsX2_viewGet wsX0_valueOf := goodIn_r _ [25, 26, 27, 28, 29, 30, 24, 31, 32, 33, 34, 35, 36, 37, 46, 47, 48] (by decide +kernel) (by decide +kernel)
set_option maxRecDepth 20000 in
theorem gX2_viewGet_X0_valueOf : GoodIn wsX2_viewGet (wsV RX2 40 RX0 yX0_valueOf wsX0_valueOf) := goodIn_app (goodIn_of _ (by decide +kernel)) ggX2_viewGet_X0_valueOf
theorem dX2_viewGet_0 : decode cX2_viewGet 0 = .ok (.aload_n 0, 1) := by decide +kernel
theorem dX2_viewGet_1 : decode cX2_viewGet 1 = .ok (.getfield 29, 3) := by decide +kernel
theorem dX2_viewGet_4 : decode cX2_viewGet 4 = .ok (.iload_n 1, 1) := by decide +kernel
theorem dX2_viewGet_5 : decode cX2_viewGet 5 = .ok (.i2l, 1) := by decide +kernel
theorem dX2_viewGet_6 : decode cX2_viewGet 6 = .ok (.invokevirtual 82, 3) := by decide +kernel
theorem dX2_viewGet_9 : decode cX2_viewGet 9 = .ok (.ifCond .eq 14, 3) := by decide +kernel
theorem dX2_viewGet_12 : decode cX2_viewGet 12 = .ok (.aload_n 0, 1) := by decide +kernel
theorem dX2_viewGet_13 : decode cX2_viewGet 13 = .ok (.getfield 12, 3) := by decide +kernel
theorem dX2_viewGet_16 : decode cX2_viewGet 16 = .ok (.iload_n 1, 1) := by decide +kernel
theorem dX2_viewGet_17 : decode cX2_viewGet 17 = .ok (.invokevirtual 40, 3) := by decide +kernel
theorem dX2_viewGet_20 : decode cX2_viewGet 20 = .ok (.goto 6, 3) := by decide +kernel
theorem dX2_viewGet_23 : decode cX2_viewGet 23 = .ok (.ldc2_w 44, 3) := by decide +kernel
theorem dX2_viewGet_26 : decode cX2_viewGet 26 = .ok (.lreturn, 1) := by decide +kernel
set_option maxRecDepth 20000 in
theorem ggX2_viewRemove_X1_holds : GoodIn wsX2_viewRemove wsX1_holds := goodIn_r _ [8, 9, 10, 11, 7, 12, 13, 14, 15, 16, 17, 18, 19, 20, 54, 55, 56, 57] (by decide +kernel) (by decide +kernel)
set_option maxRecDepth 20000 in
theorem gX2_viewRemove_X1_holds : GoodIn wsX2_viewRemove (wsV RX2 82 RX1 yX1_holds wsX1_holds) := goodIn_app (goodIn_of _ (by decide +kernel)) ggX2_viewRemove_X1_holds
set_option maxRecDepth 20000 in
theorem ggX2_viewRemove_X0_drop : GoodIn wsX2_viewRemove wsX0_drop := goodIn_r _ [25, 26, 27, 28, 29, 30, 24, 31, 32, 33, 34, 35, 36, 37, 38, 39, 40, 41, 42, 43, 44, 45, 46, 47, 48, 49, 58, 59, 60] (by decide +kernel) (by decide +kernel)
set_option maxRecDepth 20000 in
theorem gX2_viewRemove_X0_drop : GoodIn wsX2_viewRemove (wsV RX2 46 RX0 yX0_drop wsX0_drop) := goodIn_app (goodIn_of _ (by decide +kernel)) ggX2_viewRemove_X0_drop
theorem dX2_viewRemove_0 : decode cX2_viewRemove 0 = .ok (.aload_n 0, 1) := by decide +kernel
theorem dX2_viewRemove_1 : decode cX2_viewRemove 1 = .ok (.getfield 29, 3) := by decide +kernel
theorem dX2_viewRemove_4 : decode cX2_viewRemove 4 = .ok (.iload_n 1, 1) := by decide +kernel
theorem dX2_viewRemove_5 : decode cX2_viewRemove 5 = .ok (.i2l, 1) := by decide +kernel
theorem dX2_viewRemove_6 : decode cX2_viewRemove 6 = .ok (.invokevirtual 82, 3) := by decide +kernel
theorem dX2_viewRemove_9 : decode cX2_viewRemove 9 = .ok (.ifCond .eq 14, 3) := by decide +kernel
theorem dX2_viewRemove_12 : decode cX2_viewRemove 12 = .ok (.aload_n 0, 1) := by decide +kernel
theorem dX2_viewRemove_13 : decode cX2_viewRemove 13 = .ok (.getfield 12, 3) := by decide +kernel
theorem dX2_viewRemove_16 : decode cX2_viewRemove 16 = .ok (.iload_n 1, 1) := by decide +kernel
theorem dX2_viewRemove_17 : decode cX2_viewRemove 17 = .ok (.invokevirtual 46, 3) := by decide +kernel
theorem dX2_viewRemove_20 : decode cX2_viewRemove 20 = .ok (.goto 6, 3) := by decide +kernel
theorem dX2_viewRemove_23 : decode cX2_viewRemove 23 = .ok (.ldc2_w 44, 3) := by decide +kernel
theorem dX2_viewRemove_26 : decode cX2_viewRemove 26 = .ok (.lreturn, 1) := by decide +kernel
set_option maxRecDepth 20000 in
theorem ggX2_viewNear_X2_mirrored : GoodIn wsX2_viewNear wsX2_mirrored := goodIn_r _ [5] (by decide +kernel) (by decide +kernel)
set_option maxRecDepth 20000 in
theorem gX2_viewNear_X2_mirrored : GoodIn wsX2_viewNear (va_wsS RX2 88 yX2_mirrored wsX2_mirrored) := goodIn_app (goodIn_of _ (by decide +kernel)) ggX2_viewNear_X2_mirrored
set_option maxRecDepth 20000 in
theorem ggX2_viewNear_X2_viewBegin : GoodIn wsX2_viewNear wsX2_viewBegin := goodIn_r _ [9, 10, 11, 12, 13, 14, 15, 16, 17, 18, 19, 20, 21, 22, 23, 24, 25, 57, 58, 59, 60, 61, 62, 63, 64, 65, 66, 67] (by decide +kernel) (by decide +kernel)
set_option maxRecDepth 20000 in
theorem gX2_viewNear_X2_viewBegin : GoodIn wsX2_viewNear (wsV RX2 79 RX2 yX2_viewBegin wsX2_viewBegin) := goodIn_app (goodIn_of _ (by decide +kernel)) ggX2_viewNear_X2_viewBegin
set_option maxRecDepth 20000 in
theorem ggX2_viewNear_X2_viewEnd : GoodIn wsX2_viewNear wsX2_viewEnd := goodIn_r _ [29, 10, 11, 30, 31, 32, 33, 6, 7, 8, 4, 9, 12, 13, 14, 15, 16, 17, 18, 19, 20, 21, 22, 23, 24, 25, 34, 35, 36, 37, 38, 39, 57, 58, 59, 60, 61, 62, 63, 64, 65, 66, 67] (by decide +kernel) (by decide +kernel)
set_option maxRecDepth 20000 in
theorem gX2_viewNear_X2_viewEnd : GoodIn wsX2_viewNear (wsV RX2 76 RX2 yX2_viewEnd wsX2_viewEnd) := goodIn_app (goodIn_of _ (by decide +kernel)) ggX2_viewNear_X2_viewEnd
set_option maxRecDepth 20000 in
theorem ggX2_viewNear_X2_keyNear : GoodIn wsX2_viewNear wsX2_keyNear := goodIn_r _ [43, 10, 44, 45, 32, 46, 30, 31, 33, 47, 19, 20, 21, 22, 23, 24, 25, 48, 49, 50, 4, 51, 52, 53, 54, 55, 56, 57, 58, 59, 60, 65, 66, 67] (by decide +kernel) (by decide +kernel)
set_option maxRecDepth 20000 in
theorem gX2_viewNear_X2_keyNear : GoodIn wsX2_viewNear (wsV RX2 57 RX2 yX2_keyNear wsX2_keyNear) := goodIn_app (goodIn_of _ (by decide +kernel)) ggX2_viewNear_X2_keyNear
theorem dX2_viewNear_0 : decode cX2_viewNear 0 = .ok (.aload_n 0, 1) := by decide +kernel
theorem dX2_viewNear_1 : decode cX2_viewNear 1 = .ok (.aload_n 0, 1) := by decide +kernel
theorem dX2_viewNear_2 : decode cX2_viewNear 2 = .ok (.getfield 32, 3) := by decide +kernel
theorem dX2_viewNear_5 : decode cX2_viewNear 5 = .ok (.ifCond .eq 10, 3) := by decide +kernel
theorem dX2_viewNear_8 : decode cX2_viewNear 8 = .ok (.iload_n 1, 1) := by decide +kernel
theorem dX2_viewNear_9 : decode cX2_viewNear 9 = .ok (.invokestatic 88, 3) := by decide +kernel
theorem dX2_viewNear_12 : decode cX2_viewNear 12 = .ok (.goto 4, 3) := by decide +kernel
theorem dX2_viewNear_15 : decode cX2_viewNear 15 = .ok (.iload_n 1, 1) := by decide +kernel
theorem dX2_viewNear_16 : decode cX2_viewNear 16 = .ok (.iload_n 2, 1) := by decide +kernel
theorem dX2_viewNear_17 : decode cX2_viewNear 17 = .ok (.aload_n 0, 1) := by decide +kernel
theorem dX2_viewNear_18 : decode cX2_viewNear 18 = .ok (.invokevirtual 79, 3) := by decide +kernel
theorem dX2_viewNear_21 : decode cX2_viewNear 21 = .ok (.aload_n 0, 1) := by decide +kernel
theorem dX2_viewNear_22 : decode cX2_viewNear 22 = .ok (.invokevirtual 76, 3) := by decide +kernel
theorem dX2_viewNear_25 : decode cX2_viewNear 25 = .ok (.invokevirtual 57, 3) := by decide +kernel
theorem dX2_viewNear_28 : decode cX2_viewNear 28 = .ok (.lreturn, 1) := by decide +kernel
set_option maxRecDepth 20000 in
theorem ggX2_viewPoll_X2_viewBegin : GoodIn wsX2_viewPoll wsX2_viewBegin := goodIn_r _ [6, 7, 8, 9, 10, 11, 12, 13, 14, 15, 16, 17, 18, 19, 20, 21, 22, 64, 65, 66, 67, 68, 69, 70, 71, 72, 73, 74] (by decide +kernel) (by decide +kernel)
set_option maxRecDepth 20000 in
theorem gX2_viewPoll_X2_viewBegin : GoodIn wsX2_viewPoll (wsV RX2 79 RX2 yX2_viewBegin wsX2_viewBegin) := goodIn_app (goodIn_of _ (by decide +kernel)) ggX2_viewPoll_X2_viewBegin
set_option maxRecDepth 20000 in
theorem ggX2_viewPoll_X2_viewEnd : GoodIn wsX2_viewPoll wsX2_viewEnd := goodIn_r _ [26, 7, 8, 27, 28, 29, 30, 2, 3, 4, 5, 6, 9, 10, 11, 12, 13, 14, 15, 16, 17, 18, 19, 20, 21, 22, 31, 32, 33, 34, 35, 36, 64, 65, 66, 67, 68, 69, 70, 71, 72, 73, 74] (by decide +kernel) (by decide +kernel)
set_option maxRecDepth 20000 in
theorem gX2_viewPoll_X2_viewEnd : GoodIn wsX2_viewPoll (wsV RX2 76 RX2 yX2_viewEnd wsX2_viewEnd) := goodIn_app (goodIn_of _ (by decide +kernel)) ggX2_viewPoll_X2_viewEnd
set_option maxRecDepth 20000 in
theorem ggX2_viewPoll_X2_pollWithin : GoodIn wsX2_viewPoll wsX2_pollWithin := goodIn_r _ [40, 41, 7, 42, 43, 44, 5, 45, 46, 47, 48, 19, 49, 21, 22, 50, 51, 52, 53, 54, 55, 56, 57, 58, 59, 60, 61, 62, 63, 64, 65, 66, 67, 72, 73, 74] (by decide +kernel) (by decide +kernel)
set_option maxRecDepth 20000 in
theorem gX2_viewPoll_X2_pollWithin : GoodIn wsX2_viewPoll (wsV RX2 61 RX2 yX2_pollWithin wsX2_pollWithin) := goodIn_app (goodIn_of _ (by decide +kernel)) ggX2_viewPoll_X2_pollWithin
theorem dX2_viewPoll_0 : decode cX2_viewPoll 0 = .ok (.aload_n 0, 1) := by decide +kernel
theorem dX2_viewPoll_1 : decode cX2_viewPoll 1 = .ok (.iload_n 1, 1) := by decide +kernel
theorem dX2_viewPoll_2 : decode cX2_viewPoll 2 = .ok (.aload_n 0, 1) := by decide +kernel
theorem dX2_viewPoll_3 : decode cX2_viewPoll 3 = .ok (.getfield 32, 3) := by decide +kernel
theorem dX2_viewPoll_6 : decode cX2_viewPoll 6 = .ok (.if_icmp .eq 7, 3) := by decide +kernel
theorem dX2_viewPoll_9 : decode cX2_viewPoll 9 = .ok (.iconst 1, 1) := by decide +kernel
theorem dX2_viewPoll_10 : decode cX2_viewPoll 10 = .ok (.goto 4, 3) := by decide +kernel
theorem dX2_viewPoll_13 : decode cX2_viewPoll 13 = .ok (.iconst 0, 1) := by decide +kernel
theorem dX2_viewPoll_14 : decode cX2_viewPoll 14 = .ok (.aload_n 0, 1) := by decide +kernel
theorem dX2_viewPoll_15 : decode cX2_viewPoll 15 = .ok (.invokevirtual 79, 3) := by decide +kernel
theorem dX2_viewPoll_18 : decode cX2_viewPoll 18 = .ok (.aload_n 0, 1) := by decide +kernel
theorem dX2_viewPoll_19 : decode cX2_viewPoll 19 = .ok (.invokevirtual 76, 3) := by decide +kernel
theorem dX2_viewPoll_22 : decode cX2_viewPoll 22 = .ok (.invokevirtual 61, 3) := by decide +kernel
theorem dX2_viewPoll_25 : decode cX2_viewPoll 25 = .ok (.lreturn, 1) := by decide +kernel
set_option maxRecDepth 20000 in
theorem ggX2_viewKey_X2_viewBegin : GoodIn wsX2_viewKey wsX2_viewBegin := goodIn_r _ [8, 2, 9, 10, 11, 12, 13, 14, 15, 16, 17, 18, 19, 20, 21, 22, 23, 43, 44, 45, 46, 47, 48, 49, 50, 51, 52, 53] (by decide +kernel) (by decide +kernel)
set_option maxRecDepth 20000 in
theorem gX2_viewKey_X2_viewBegin : GoodIn wsX2_viewKey (wsV RX2 79 RX2 yX2_viewBegin wsX2_viewBegin) := goodIn_app (goodIn_of _ (by decide +kernel)) ggX2_viewKey_X2_viewBegin
set_option maxRecDepth 20000 in
theorem ggX2_viewKey_X2_viewEnd : GoodIn wsX2_viewKey wsX2_viewEnd := goodIn_r _ [27, 2, 9, 28, 29, 30, 31, 4, 5, 6, 7, 8, 10, 11, 12, 13, 14, 15, 16, 17, 18, 19, 20, 21, 22, 23, 32, 33, 34, 35, 36, 37, 43, 44, 45, 46, 47, 48, 49, 50, 51, 52, 53] (by decide +kernel) (by decide +kernel)
set_option maxRecDepth 20000 in
theorem gX2_viewKey_X2_viewEnd : GoodIn wsX2_viewKey (wsV RX2 76 RX2 yX2_viewEnd wsX2_viewEnd) := goodIn_app (goodIn_of _ (by decide +kernel)) ggX2_viewKey_X2_viewEnd
set_option maxRecDepth 20000 in
theorem ggX2_viewKey_X0_keyAt : GoodIn wsX2_viewKey wsX0_keyAt := goodIn_r _ [41, 22, 23, 42, 51, 52, 53] (by decide +kernel) (by decide +kernel)
set_option maxRecDepth 20000 in
theorem gX2_viewKey_X0_keyAt : GoodIn wsX2_viewKey (wsV RX2 92 RX0 yX0_keyAt wsX0_keyAt) := goodIn_app (goodIn_of _ (by decide +kernel)) ggX2_viewKey_X0_keyAt
theorem dX2_viewKey_0 : decode cX2_viewKey 0 = .ok (.aload_n 0, 1) := by decide +kernel
theorem dX2_viewKey_1 : decode cX2_viewKey 1 = .ok (.invokevirtual 79, 3) := by decide +kernel
theorem dX2_viewKey_4 : decode cX2_viewKey 4 = .ok (.istore_n 2, 1) := by decide +kernel
theorem dX2_viewKey_5 : decode cX2_viewKey 5 = .ok (.aload_n 0, 1) := by decide +kernel
theorem dX2_viewKey_6 : decode cX2_viewKey 6 = .ok (.invokevirtual 76, 3) := by decide +kernel
theorem dX2_viewKey_9 : decode cX2_viewKey 9 = .ok (.istore_n 3, 1) := by decide +kernel
theorem dX2_viewKey_10 : decode cX2_viewKey 10 = .ok (.iload_n 1, 1) := by decide +kernel
theorem dX2_viewKey_11 : decode cX2_viewKey 11 = .ok (.ifCond .lt 10, 3) := by decide +kernel
theorem dX2_viewKey_14 : decode cX2_viewKey 14 = .ok (.iload_n 1, 1) := by decide +kernel
theorem dX2_viewKey_15 : decode cX2_viewKey 15 = .ok (.iload_n 3, 1) := by decide +kernel
theorem dX2_viewKey_16 : decode cX2_viewKey 16 = .ok (.iload_n 2, 1) := by decide +kernel
theorem dX2_viewKey_17 : decode cX2_viewKey 17 = .ok (.isub, 1) := by decide +kernel
theorem dX2_viewKey_18 : decode cX2_viewKey 18 = .ok (.if_icmp .lt 7, 3) := by decide +kernel
theorem dX2_viewKey_21 : decode cX2_viewKey 21 = .ok (.ldc2_w 44, 3) := by decide +kernel
theorem dX2_viewKey_24 : decode cX2_viewKey 24 = .ok (.lreturn, 1) := by decide +kernel
theorem dX2_viewKey_25 : decode cX2_viewKey 25 = .ok (.aload_n 0, 1) := by decide +kernel
theorem dX2_viewKey_26 : decode cX2_viewKey 26 = .ok (.getfield 12, 3) := by decide +kernel
theorem dX2_viewKey_29 : decode cX2_viewKey 29 = .ok (.aload_n 0, 1) := by decide +kernel
theorem dX2_viewKey_30 : decode cX2_viewKey 30 = .ok (.getfield 32, 3) := by decide +kernel
theorem dX2_viewKey_33 : decode cX2_viewKey 33 = .ok (.ifCond .eq 11, 3) := by decide +kernel
theorem dX2_viewKey_36 : decode cX2_viewKey 36 = .ok (.iload_n 3, 1) := by decide +kernel
theorem dX2_viewKey_37 : decode cX2_viewKey 37 = .ok (.iconst 1, 1) := by decide +kernel
theorem dX2_viewKey_38 : decode cX2_viewKey 38 = .ok (.isub, 1) := by decide +kernel
theorem dX2_viewKey_39 : decode cX2_viewKey 39 = .ok (.iload_n 1, 1) := by decide +kernel
theorem dX2_viewKey_40 : decode cX2_viewKey 40 = .ok (.isub, 1) := by decide +kernel
theorem dX2_viewKey_41 : decode cX2_viewKey 41 = .ok (.goto 6, 3) := by decide +kernel
theorem dX2_viewKey_44 : decode cX2_viewKey 44 = .ok (.iload_n 2, 1) := by decide +kernel
theorem dX2_viewKey_45 : decode cX2_viewKey 45 = .ok (.iload_n 1, 1) := by decide +kernel
theorem dX2_viewKey_46 : decode cX2_viewKey 46 = .ok (.iadd, 1) := by decide +kernel
theorem dX2_viewKey_47 : decode cX2_viewKey 47 = .ok (.invokevirtual 92, 3) := by decide +kernel
theorem dX2_viewKey_50 : decode cX2_viewKey 50 = .ok (.lreturn, 1) := by decide +kernel
set_option maxRecDepth 20000 in
theorem ggX2_walk_X2_viewBegin : GoodIn wsX2_walk wsX2_viewBegin := goodIn_r _ [7, 2, 8, 9, 10, 11, 12, 13, 14, 15, 16, 17, 18, 19, 20, 21, 22, 42, 43, 44, 45, 46, 47, 48, 49, 50, 51, 52] (by decide +kernel) (by decide +kernel)
set_option maxRecDepth 20000 in
theorem gX2_walk_X2_viewBegin : GoodIn wsX2_walk (wsV RX2 79 RX2 yX2_viewBegin wsX2_viewBegin) := goodIn_app (goodIn_of _ (by decide +kernel)) ggX2_walk_X2_viewBegin
set_option maxRecDepth 20000 in
theorem ggX2_walk_X2_viewEnd : GoodIn wsX2_walk wsX2_viewEnd := goodIn_r _ [26, 2, 8, 27, 28, 29, 30, 3, 4, 5, 6, 7, 9, 10, 11, 12, 13, 14, 15, 16, 17, 18, 19, 20, 21, 22, 31, 32, 33, 34, 35, 36, 42, 43, 44, 45, 46, 47, 48, 49, 50, 51, 52] (by decide +kernel) (by decide +kernel)
set_option maxRecDepth 20000 in
theorem gX2_walk_X2_viewEnd : GoodIn wsX2_walk (wsV RX2 76 RX2 yX2_viewEnd wsX2_viewEnd) := goodIn_app (goodIn_of _ (by decide +kernel)) ggX2_walk_X2_viewEnd
set_option maxRecDepth 20000 in
theorem ggX2_walk_X0_keyAt : GoodIn wsX2_walk wsX0_keyAt := goodIn_r _ [40, 21, 22, 41, 50, 51, 52] (by decide +kernel) (by decide +kernel)
set_option maxRecDepth 20000 in
theorem gX2_walk_X0_keyAt : GoodIn wsX2_walk (wsV RX2 92 RX0 yX0_keyAt wsX0_keyAt) := goodIn_app (goodIn_of _ (by decide +kernel)) ggX2_walk_X0_keyAt
theorem dX2_walk_0 : decode cX2_walk 0 = .ok (.aload_n 0, 1) := by decide +kernel
theorem dX2_walk_1 : decode cX2_walk 1 = .ok (.invokevirtual 79, 3) := by decide +kernel
theorem dX2_walk_4 : decode cX2_walk 4 = .ok (.istore_n 1, 1) := by decide +kernel
theorem dX2_walk_5 : decode cX2_walk 5 = .ok (.aload_n 0, 1) := by decide +kernel
theorem dX2_walk_6 : decode cX2_walk 6 = .ok (.invokevirtual 76, 3) := by decide +kernel
theorem dX2_walk_9 : decode cX2_walk 9 = .ok (.istore_n 2, 1) := by decide +kernel
theorem dX2_walk_10 : decode cX2_walk 10 = .ok (.lconst 0, 1) := by decide +kernel
theorem dX2_walk_11 : decode cX2_walk 11 = .ok (.lstore_n 3, 1) := by decide +kernel
theorem dX2_walk_12 : decode cX2_walk 12 = .ok (.iload_n 1, 1) := by decide +kernel
theorem dX2_walk_13 : decode cX2_walk 13 = .ok (.istore 5, 2) := by decide +kernel
theorem dX2_walk_15 : decode cX2_walk 15 = .ok (.iload 5, 2) := by decide +kernel
theorem dX2_walk_17 : decode cX2_walk 17 = .ok (.iload_n 2, 1) := by decide +kernel
theorem dX2_walk_18 : decode cX2_walk 18 = .ok (.if_icmp .ge 48, 3) := by decide +kernel
theorem dX2_walk_21 : decode cX2_walk 21 = .ok (.aload_n 0, 1) := by decide +kernel
theorem dX2_walk_22 : decode cX2_walk 22 = .ok (.getfield 32, 3) := by decide +kernel
theorem dX2_walk_25 : decode cX2_walk 25 = .ok (.ifCond .eq 11, 3) := by decide +kernel
theorem dX2_walk_28 : decode cX2_walk 28 = .ok (.iload_n 2, 1) := by decide +kernel
theorem dX2_walk_29 : decode cX2_walk 29 = .ok (.iload 5, 2) := by decide +kernel
theorem dX2_walk_31 : decode cX2_walk 31 = .ok (.isub, 1) := by decide +kernel
theorem dX2_walk_32 : decode cX2_walk 32 = .ok (.i2l, 1) := by decide +kernel
theorem dX2_walk_33 : decode cX2_walk 33 = .ok (.goto 10, 3) := by decide +kernel
theorem dX2_walk_36 : decode cX2_walk 36 = .ok (.iload 5, 2) := by decide +kernel
theorem dX2_walk_38 : decode cX2_walk 38 = .ok (.iload_n 1, 1) := by decide +kernel
theorem dX2_walk_39 : decode cX2_walk 39 = .ok (.isub, 1) := by decide +kernel
theorem dX2_walk_40 : decode cX2_walk 40 = .ok (.iconst 1, 1) := by decide +kernel
theorem dX2_walk_41 : decode cX2_walk 41 = .ok (.iadd, 1) := by decide +kernel
theorem dX2_walk_42 : decode cX2_walk 42 = .ok (.i2l, 1) := by decide +kernel
theorem dX2_walk_43 : decode cX2_walk 43 = .ok (.lstore 6, 2) := by decide +kernel
theorem dX2_walk_45 : decode cX2_walk 45 = .ok (.lload_n 3, 1) := by decide +kernel
theorem dX2_walk_46 : decode cX2_walk 46 = .ok (.aload_n 0, 1) := by decide +kernel
theorem dX2_walk_47 : decode cX2_walk 47 = .ok (.getfield 12, 3) := by decide +kernel
theorem dX2_walk_50 : decode cX2_walk 50 = .ok (.iload 5, 2) := by decide +kernel
theorem dX2_walk_52 : decode cX2_walk 52 = .ok (.invokevirtual 92, 3) := by decide +kernel
theorem dX2_walk_55 : decode cX2_walk 55 = .ok (.lload 6, 2) := by decide +kernel
theorem dX2_walk_57 : decode cX2_walk 57 = .ok (.lmul, 1) := by decide +kernel
theorem dX2_walk_58 : decode cX2_walk 58 = .ok (.ladd, 1) := by decide +kernel
theorem dX2_walk_59 : decode cX2_walk 59 = .ok (.lstore_n 3, 1) := by decide +kernel
theorem dX2_walk_60 : decode cX2_walk 60 = .ok (.iinc 5 1, 3) := by decide +kernel
theorem dX2_walk_63 : decode cX2_walk 63 = .ok (.goto (-48), 3) := by decide +kernel
theorem dX2_walk_66 : decode cX2_walk 66 = .ok (.lload_n 3, 1) := by decide +kernel
theorem dX2_walk_67 : decode cX2_walk 67 = .ok (.lreturn, 1) := by decide +kernel
set_option maxRecDepth 20000 in
theorem ggX2_sweep_X2_viewBegin : GoodIn wsX2_sweep wsX2_viewBegin := goodIn_r _ [6, 1, 7, 8, 9, 10, 11, 12, 13, 14, 15, 16, 17, 18, 19, 20, 21, 45, 46, 47, 48, 49, 50, 51, 52, 53, 54, 55] (by decide +kernel) (by decide +kernel)
set_option maxRecDepth 20000 in
theorem gX2_sweep_X2_viewBegin : GoodIn wsX2_sweep (wsV RX2 79 RX2 yX2_viewBegin wsX2_viewBegin) := goodIn_app (goodIn_of _ (by decide +kernel)) ggX2_sweep_X2_viewBegin
set_option maxRecDepth 20000 in
theorem ggX2_sweep_X2_viewEnd : GoodIn wsX2_sweep wsX2_viewEnd := goodIn_r _ [25, 1, 7, 26, 27, 28, 29, 2, 3, 4, 5, 6, 8, 9, 10, 11, 12, 13, 14, 15, 16, 17, 18, 19, 20, 21, 30, 31, 32, 33, 34, 35, 45, 46, 47, 48, 49, 50, 51, 52, 53, 54, 55] (by decide +kernel) (by decide +kernel)
set_option maxRecDepth 20000 in
theorem gX2_sweep_X2_viewEnd : GoodIn wsX2_sweep (wsV RX2 76 RX2 yX2_viewEnd wsX2_viewEnd) := goodIn_app (goodIn_of _ (by decide +kernel)) ggX2_sweep_X2_viewEnd
set_option maxRecDepth 20000 in
theorem ggX2_sweep_X0_dropLeaving : GoodIn wsX2_sweep wsX0_dropLeaving := goodIn_r _ [39, 20, 21, 40, 41, 42, 43, 44, 53, 54, 55] (by decide +kernel) (by decide +kernel)
set_option maxRecDepth 20000 in
theorem gX2_sweep_X0_dropLeaving : GoodIn wsX2_sweep (wsV RX2 95 RX0 yX0_dropLeaving wsX0_dropLeaving) := goodIn_app (goodIn_of _ (by decide +kernel)) ggX2_sweep_X0_dropLeaving
theorem dX2_sweep_0 : decode cX2_sweep 0 = .ok (.aload_n 0, 1) := by decide +kernel
theorem dX2_sweep_1 : decode cX2_sweep 1 = .ok (.getfield 12, 3) := by decide +kernel
theorem dX2_sweep_4 : decode cX2_sweep 4 = .ok (.iload_n 1, 1) := by decide +kernel
theorem dX2_sweep_5 : decode cX2_sweep 5 = .ok (.iload_n 2, 1) := by decide +kernel
theorem dX2_sweep_6 : decode cX2_sweep 6 = .ok (.aload_n 0, 1) := by decide +kernel
theorem dX2_sweep_7 : decode cX2_sweep 7 = .ok (.invokevirtual 79, 3) := by decide +kernel
theorem dX2_sweep_10 : decode cX2_sweep 10 = .ok (.aload_n 0, 1) := by decide +kernel
theorem dX2_sweep_11 : decode cX2_sweep 11 = .ok (.invokevirtual 76, 3) := by decide +kernel
theorem dX2_sweep_14 : decode cX2_sweep 14 = .ok (.invokevirtual 95, 3) := by decide +kernel
theorem dX2_sweep_17 : decode cX2_sweep 17 = .ok (.ireturn, 1) := by decide +kernel
set_option maxRecDepth 20000 in
theorem ggX2_viewClear_X2_viewBegin : GoodIn wsX2_viewClear wsX2_viewBegin := goodIn_r _ [6, 1, 7, 8, 9, 10, 11, 12, 13, 14, 15, 16, 17, 18, 19, 20, 21, 49, 50, 51, 52, 53, 54, 55, 56, 57, 58, 59] (by decide +kernel) (by decide +kernel)
set_option maxRecDepth 20000 in
theorem gX2_viewClear_X2_viewBegin : GoodIn wsX2_viewClear (wsV RX2 79 RX2 yX2_viewBegin wsX2_viewBegin) := goodIn_app (goodIn_of _ (by decide +kernel)) ggX2_viewClear_X2_viewBegin
set_option maxRecDepth 20000 in
theorem ggX2_viewClear_X2_viewEnd : GoodIn wsX2_viewClear wsX2_viewEnd := goodIn_r _ [25, 1, 7, 26, 27, 28, 29, 2, 3, 4, 5, 6, 8, 9, 10, 11, 12, 13, 14, 15, 16, 17, 18, 19, 20, 21, 30, 31, 32, 33, 34, 35, 49, 50, 51, 52, 53, 54, 55, 56, 57, 58, 59] (by decide +kernel) (by decide +kernel)
set_option maxRecDepth 20000 in
theorem gX2_viewClear_X2_viewEnd : GoodIn wsX2_viewClear (wsV RX2 76 RX2 yX2_viewEnd wsX2_viewEnd) := goodIn_app (goodIn_of _ (by decide +kernel)) ggX2_viewClear_X2_viewEnd
set_option maxRecDepth 20000 in
theorem ggX2_viewClear_X0_dropPlaces : GoodIn wsX2_viewClear wsX0_dropPlaces := goodIn_r _ [39, 40, 41, 42, 18, 43, 20, 21, 44, 45, 46, 47, 48, 57, 58, 59] (by decide +kernel) (by decide +kernel)
end
section
set_option maxRecDepth 20000 in
theorem gX2_viewClear_X0_dropPlaces : GoodIn wsX2_viewClear (wsV RX2 65 RX0 yX0_dropPlaces wsX0_dropPlaces) := goodIn_app (goodIn_of _ (by decide +kernel)) ggX2_viewClear_X0_dropPlaces
theorem dX2_viewClear_0 : decode cX2_viewClear 0 = .ok (.aload_n 0, 1) := by decide +kernel
theorem dX2_viewClear_1 : decode cX2_viewClear 1 = .ok (.getfield 12, 3) := by decide +kernel
theorem dX2_viewClear_4 : decode cX2_viewClear 4 = .ok (.aload_n 0, 1) := by decide +kernel
theorem dX2_viewClear_5 : decode cX2_viewClear 5 = .ok (.invokevirtual 79, 3) := by decide +kernel
theorem dX2_viewClear_8 : decode cX2_viewClear 8 = .ok (.aload_n 0, 1) := by decide +kernel
theorem dX2_viewClear_9 : decode cX2_viewClear 9 = .ok (.invokevirtual 76, 3) := by decide +kernel
theorem dX2_viewClear_12 : decode cX2_viewClear 12 = .ok (.invokevirtual 65, 3) := by decide +kernel
theorem dX2_viewClear_15 : decode cX2_viewClear 15 = .ok (.ireturn, 1) := by decide +kernel
set_option maxRecDepth 20000 in
theorem ggX2_again_X0_count : GoodIn wsX2_again wsX0_count := goodIn_r _ [9, 10, 15, 16, 17] (by decide +kernel) (by decide +kernel)
set_option maxRecDepth 20000 in
theorem gX2_again_X0_count : GoodIn wsX2_again (wsV RX2 53 RX0 yX0_count wsX0_count) := goodIn_app (goodIn_of _ (by decide +kernel)) ggX2_again_X0_count
theorem dX2_again_0 : decode cX2_again 0 = .ok (.aload_n 0, 1) := by decide +kernel
theorem dX2_again_1 : decode cX2_again 1 = .ok (.getfield 12, 3) := by decide +kernel
theorem dX2_again_4 : decode cX2_again 4 = .ok (.invokevirtual 53, 3) := by decide +kernel
theorem dX2_again_7 : decode cX2_again 7 = .ok (.bipush 100, 2) := by decide +kernel
theorem dX2_again_9 : decode cX2_again 9 = .ok (.if_icmp .le 5, 3) := by decide +kernel
theorem dX2_again_12 : decode cX2_again 12 = .ok (.iconst (-1), 1) := by decide +kernel
theorem dX2_again_13 : decode cX2_again 13 = .ok (.ireturn, 1) := by decide +kernel
theorem dX2_again_14 : decode cX2_again 14 = .ok (.aload_n 0, 1) := by decide +kernel
theorem dX2_again_15 : decode cX2_again 15 = .ok (.aload_n 0, 1) := by decide +kernel
theorem dX2_again_16 : decode cX2_again 16 = .ok (.getfield 25, 3) := by decide +kernel
theorem dX2_again_19 : decode cX2_again 19 = .ok (.putfield 29, 3) := by decide +kernel
theorem dX2_again_22 : decode cX2_again 22 = .ok (.aload_n 0, 1) := by decide +kernel
theorem dX2_again_23 : decode cX2_again 23 = .ok (.iconst 0, 1) := by decide +kernel
theorem dX2_again_24 : decode cX2_again 24 = .ok (.putfield 32, 3) := by decide +kernel
theorem dX2_again_27 : decode cX2_again 27 = .ok (.aload_n 0, 1) := by decide +kernel
theorem dX2_again_28 : decode cX2_again 28 = .ok (.getfield 12, 3) := by decide +kernel
theorem dX2_again_31 : decode cX2_again 31 = .ok (.invokevirtual 53, 3) := by decide +kernel
theorem dX2_again_34 : decode cX2_again 34 = .ok (.ireturn, 1) := by decide +kernel
set_option maxRecDepth 20000 in
theorem ggX2_viewBegin_X1_start : GoodIn wsX2_viewBegin wsX1_start := goodIn_r _ [7, 8, 9, 21, 22, 23, 24] (by decide +kernel) (by decide +kernel)
set_option maxRecDepth 20000 in
theorem gX2_viewBegin_X1_start : GoodIn wsX2_viewBegin (wsV RX2 99 RX1 yX1_start wsX1_start) := goodIn_app (goodIn_of _ (by decide +kernel)) ggX2_viewBegin_X1_start
set_option maxRecDepth 20000 in
theorem ggX2_viewBegin_X0_placeOf : GoodIn wsX2_viewBegin wsX0_placeOf := goodIn_r _ [14, 15, 16, 25, 26, 27] (by decide +kernel) (by decide +kernel)
set_option maxRecDepth 20000 in
theorem gX2_viewBegin_X0_placeOf : GoodIn wsX2_viewBegin (wsV RX2 103 RX0 yX0_placeOf wsX0_placeOf) := goodIn_app (goodIn_of _ (by decide +kernel)) ggX2_viewBegin_X0_placeOf
theorem dX2_viewBegin_0 : decode cX2_viewBegin 0 = .ok (.aload_n 0, 1) := by decide +kernel
theorem dX2_viewBegin_1 : decode cX2_viewBegin 1 = .ok (.getfield 12, 3) := by decide +kernel
theorem dX2_viewBegin_4 : decode cX2_viewBegin 4 = .ok (.aload_n 0, 1) := by decide +kernel
theorem dX2_viewBegin_5 : decode cX2_viewBegin 5 = .ok (.getfield 29, 3) := by decide +kernel
theorem dX2_viewBegin_8 : decode cX2_viewBegin 8 = .ok (.invokevirtual 99, 3) := by decide +kernel
theorem dX2_viewBegin_11 : decode cX2_viewBegin 11 = .ok (.invokevirtual 103, 3) := by decide +kernel
theorem dX2_viewBegin_14 : decode cX2_viewBegin 14 = .ok (.ireturn, 1) := by decide +kernel
set_option maxRecDepth 20000 in
theorem ggX2_viewEnd_X2_viewBegin : GoodIn wsX2_viewEnd wsX2_viewBegin := goodIn_r _ [11, 1, 2, 12, 13, 14, 15, 16, 17, 18, 19, 20, 21, 22, 23, 24, 25, 32, 33, 34, 35, 36, 37, 38, 39, 40, 41, 42] (by decide +kernel) (by decide +kernel)
set_option maxRecDepth 20000 in
theorem gX2_viewEnd_X2_viewBegin : GoodIn wsX2_viewEnd (wsV RX2 79 RX2 yX2_viewBegin wsX2_viewBegin) := goodIn_app (goodIn_of _ (by decide +kernel)) ggX2_viewEnd_X2_viewBegin
set_option maxRecDepth 20000 in
theorem ggX2_viewEnd_X1_stop : GoodIn wsX2_viewEnd wsX1_stop := goodIn_r _ [29, 30, 31, 36, 37, 38, 39] (by decide +kernel) (by decide +kernel)
set_option maxRecDepth 20000 in
theorem gX2_viewEnd_X1_stop : GoodIn wsX2_viewEnd (wsV RX2 107 RX1 yX1_stop wsX1_stop) := goodIn_app (goodIn_of _ (by decide +kernel)) ggX2_viewEnd_X1_stop
set_option maxRecDepth 20000 in
theorem ggX2_viewEnd_X0_placeOf : GoodIn wsX2_viewEnd wsX0_placeOf := goodIn_r _ [23, 24, 25, 40, 41, 42] (by decide +kernel) (by decide +kernel)
set_option maxRecDepth 20000 in
theorem gX2_viewEnd_X0_placeOf : GoodIn wsX2_viewEnd (wsV RX2 103 RX0 yX0_placeOf wsX0_placeOf) := goodIn_app (goodIn_of _ (by decide +kernel)) ggX2_viewEnd_X0_placeOf
theorem dX2_viewEnd_0 : decode cX2_viewEnd 0 = .ok (.aload_n 0, 1) := by decide +kernel
theorem dX2_viewEnd_1 : decode cX2_viewEnd 1 = .ok (.invokevirtual 79, 3) := by decide +kernel
theorem dX2_viewEnd_4 : decode cX2_viewEnd 4 = .ok (.aload_n 0, 1) := by decide +kernel
theorem dX2_viewEnd_5 : decode cX2_viewEnd 5 = .ok (.getfield 12, 3) := by decide +kernel
theorem dX2_viewEnd_8 : decode cX2_viewEnd 8 = .ok (.aload_n 0, 1) := by decide +kernel
theorem dX2_viewEnd_9 : decode cX2_viewEnd 9 = .ok (.getfield 29, 3) := by decide +kernel
theorem dX2_viewEnd_12 : decode cX2_viewEnd 12 = .ok (.invokevirtual 107, 3) := by decide +kernel
theorem dX2_viewEnd_15 : decode cX2_viewEnd 15 = .ok (.invokevirtual 103, 3) := by decide +kernel
theorem dX2_viewEnd_18 : decode cX2_viewEnd 18 = .ok (.invokestatic 110, 3) := by decide +kernel
theorem dX2_viewEnd_21 : decode cX2_viewEnd 21 = .ok (.ireturn, 1) := by decide +kernel
theorem dX2_mirrored_0 : decode cX2_mirrored 0 = .ok (.iload_n 0, 1) := by decide +kernel
theorem dX2_mirrored_1 : decode cX2_mirrored 1 = .ok (.tableswitch 51 0 5 #[39, 41, 43, 45, 47, 49], 39) := by decide +kernel
theorem dX2_mirrored_40 : decode cX2_mirrored 40 = .ok (.iconst 1, 1) := by decide +kernel
theorem dX2_mirrored_41 : decode cX2_mirrored 41 = .ok (.ireturn, 1) := by decide +kernel
theorem dX2_mirrored_42 : decode cX2_mirrored 42 = .ok (.iconst 0, 1) := by decide +kernel
theorem dX2_mirrored_43 : decode cX2_mirrored 43 = .ok (.ireturn, 1) := by decide +kernel
theorem dX2_mirrored_44 : decode cX2_mirrored 44 = .ok (.iconst 3, 1) := by decide +kernel
theorem dX2_mirrored_45 : decode cX2_mirrored 45 = .ok (.ireturn, 1) := by decide +kernel
theorem dX2_mirrored_46 : decode cX2_mirrored 46 = .ok (.iconst 2, 1) := by decide +kernel
theorem dX2_mirrored_47 : decode cX2_mirrored 47 = .ok (.ireturn, 1) := by decide +kernel
theorem dX2_mirrored_48 : decode cX2_mirrored 48 = .ok (.iconst 5, 1) := by decide +kernel
theorem dX2_mirrored_49 : decode cX2_mirrored 49 = .ok (.ireturn, 1) := by decide +kernel
theorem dX2_mirrored_50 : decode cX2_mirrored 50 = .ok (.iconst 4, 1) := by decide +kernel
theorem dX2_mirrored_51 : decode cX2_mirrored 51 = .ok (.ireturn, 1) := by decide +kernel
theorem dX2_mirrored_52 : decode cX2_mirrored 52 = .ok (.iload_n 0, 1) := by decide +kernel
theorem dX2_mirrored_53 : decode cX2_mirrored 53 = .ok (.ireturn, 1) := by decide +kernel
set_option maxRecDepth 20000 in
theorem ggX2_keyNear_X0_placeOf : GoodIn wsX2_keyNear wsX0_placeOf := goodIn_r _ [14, 15, 16, 31, 32, 33] (by decide +kernel) (by decide +kernel)
set_option maxRecDepth 20000 in
theorem gX2_keyNear_X0_placeOf : GoodIn wsX2_keyNear (wsV RX2 103 RX0 yX0_placeOf wsX0_placeOf) := goodIn_app (goodIn_of _ (by decide +kernel)) ggX2_keyNear_X0_placeOf
set_option maxRecDepth 20000 in
theorem ggX2_keyNear_X2_keyWithin : GoodIn wsX2_keyNear wsX2_keyWithin := goodIn_r _ [21, 1, 9, 22, 23, 24, 13, 25, 15, 16, 26, 27, 28, 29, 30, 31, 32, 33] (by decide +kernel) (by decide +kernel)
set_option maxRecDepth 20000 in
theorem gX2_keyNear_X2_keyWithin : GoodIn wsX2_keyNear (wsV RX2 118 RX2 yX2_keyWithin wsX2_keyWithin) := goodIn_app (goodIn_of _ (by decide +kernel)) ggX2_keyNear_X2_keyWithin
theorem dX2_keyNear_0 : decode cX2_keyNear 0 = .ok (.aload_n 0, 1) := by decide +kernel
theorem dX2_keyNear_1 : decode cX2_keyNear 1 = .ok (.getfield 12, 3) := by decide +kernel
theorem dX2_keyNear_4 : decode cX2_keyNear 4 = .ok (.iload_n 2, 1) := by decide +kernel
theorem dX2_keyNear_5 : decode cX2_keyNear 5 = .ok (.i2l, 1) := by decide +kernel
theorem dX2_keyNear_6 : decode cX2_keyNear 6 = .ok (.invokevirtual 103, 3) := by decide +kernel
theorem dX2_keyNear_9 : decode cX2_keyNear 9 = .ok (.istore 5, 2) := by decide +kernel
theorem dX2_keyNear_11 : decode cX2_keyNear 11 = .ok (.aload_n 0, 1) := by decide +kernel
theorem dX2_keyNear_12 : decode cX2_keyNear 12 = .ok (.getfield 12, 3) := by decide +kernel
theorem dX2_keyNear_15 : decode cX2_keyNear 15 = .ok (.iload_n 2, 1) := by decide +kernel
theorem dX2_keyNear_16 : decode cX2_keyNear 16 = .ok (.i2l, 1) := by decide +kernel
theorem dX2_keyNear_17 : decode cX2_keyNear 17 = .ok (.lconst 1, 1) := by decide +kernel
theorem dX2_keyNear_18 : decode cX2_keyNear 18 = .ok (.ladd, 1) := by decide +kernel
theorem dX2_keyNear_19 : decode cX2_keyNear 19 = .ok (.invokevirtual 103, 3) := by decide +kernel
theorem dX2_keyNear_22 : decode cX2_keyNear 22 = .ok (.istore 6, 2) := by decide +kernel
theorem dX2_keyNear_24 : decode cX2_keyNear 24 = .ok (.iload_n 1, 1) := by decide +kernel
theorem dX2_keyNear_25 : decode cX2_keyNear 25 = .ok (.tableswitch 122 0 5 #[39, 56, 70, 87, 101, 110], 39) := by decide +kernel
theorem dX2_keyNear_64 : decode cX2_keyNear 64 = .ok (.aload_n 0, 1) := by decide +kernel
theorem dX2_keyNear_65 : decode cX2_keyNear 65 = .ok (.iload 6, 2) := by decide +kernel
theorem dX2_keyNear_67 : decode cX2_keyNear 67 = .ok (.iload 4, 2) := by decide +kernel
theorem dX2_keyNear_69 : decode cX2_keyNear 69 = .ok (.invokestatic 115, 3) := by decide +kernel
theorem dX2_keyNear_72 : decode cX2_keyNear 72 = .ok (.iconst 1, 1) := by decide +kernel
theorem dX2_keyNear_73 : decode cX2_keyNear 73 = .ok (.isub, 1) := by decide +kernel
theorem dX2_keyNear_74 : decode cX2_keyNear 74 = .ok (.iload_n 3, 1) := by decide +kernel
theorem dX2_keyNear_75 : decode cX2_keyNear 75 = .ok (.iload 4, 2) := by decide +kernel
theorem dX2_keyNear_77 : decode cX2_keyNear 77 = .ok (.invokevirtual 118, 3) := by decide +kernel
theorem dX2_keyNear_80 : decode cX2_keyNear 80 = .ok (.lreturn, 1) := by decide +kernel
theorem dX2_keyNear_81 : decode cX2_keyNear 81 = .ok (.aload_n 0, 1) := by decide +kernel
theorem dX2_keyNear_82 : decode cX2_keyNear 82 = .ok (.iload 5, 2) := by decide +kernel
theorem dX2_keyNear_84 : decode cX2_keyNear 84 = .ok (.iload_n 3, 1) := by decide +kernel
theorem dX2_keyNear_85 : decode cX2_keyNear 85 = .ok (.invokestatic 110, 3) := by decide +kernel
theorem dX2_keyNear_88 : decode cX2_keyNear 88 = .ok (.iload_n 3, 1) := by decide +kernel
theorem dX2_keyNear_89 : decode cX2_keyNear 89 = .ok (.iload 4, 2) := by decide +kernel
theorem dX2_keyNear_91 : decode cX2_keyNear 91 = .ok (.invokevirtual 118, 3) := by decide +kernel
theorem dX2_keyNear_94 : decode cX2_keyNear 94 = .ok (.lreturn, 1) := by decide +kernel
theorem dX2_keyNear_95 : decode cX2_keyNear 95 = .ok (.aload_n 0, 1) := by decide +kernel
theorem dX2_keyNear_96 : decode cX2_keyNear 96 = .ok (.iload 5, 2) := by decide +kernel
theorem dX2_keyNear_98 : decode cX2_keyNear 98 = .ok (.iload 4, 2) := by decide +kernel
theorem dX2_keyNear_100 : decode cX2_keyNear 100 = .ok (.invokestatic 115, 3) := by decide +kernel
theorem dX2_keyNear_103 : decode cX2_keyNear 103 = .ok (.iconst 1, 1) := by decide +kernel
theorem dX2_keyNear_104 : decode cX2_keyNear 104 = .ok (.isub, 1) := by decide +kernel
theorem dX2_keyNear_105 : decode cX2_keyNear 105 = .ok (.iload_n 3, 1) := by decide +kernel
theorem dX2_keyNear_106 : decode cX2_keyNear 106 = .ok (.iload 4, 2) := by decide +kernel
theorem dX2_keyNear_108 : decode cX2_keyNear 108 = .ok (.invokevirtual 118, 3) := by decide +kernel
theorem dX2_keyNear_111 : decode cX2_keyNear 111 = .ok (.lreturn, 1) := by decide +kernel
theorem dX2_keyNear_112 : decode cX2_keyNear 112 = .ok (.aload_n 0, 1) := by decide +kernel
theorem dX2_keyNear_113 : decode cX2_keyNear 113 = .ok (.iload 6, 2) := by decide +kernel
theorem dX2_keyNear_115 : decode cX2_keyNear 115 = .ok (.iload_n 3, 1) := by decide +kernel
theorem dX2_keyNear_116 : decode cX2_keyNear 116 = .ok (.invokestatic 110, 3) := by decide +kernel
theorem dX2_keyNear_119 : decode cX2_keyNear 119 = .ok (.iload_n 3, 1) := by decide +kernel
theorem dX2_keyNear_120 : decode cX2_keyNear 120 = .ok (.iload 4, 2) := by decide +kernel
theorem dX2_keyNear_122 : decode cX2_keyNear 122 = .ok (.invokevirtual 118, 3) := by decide +kernel
theorem dX2_keyNear_125 : decode cX2_keyNear 125 = .ok (.lreturn, 1) := by decide +kernel
theorem dX2_keyNear_126 : decode cX2_keyNear 126 = .ok (.aload_n 0, 1) := by decide +kernel
theorem dX2_keyNear_127 : decode cX2_keyNear 127 = .ok (.iload_n 3, 1) := by decide +kernel
theorem dX2_keyNear_128 : decode cX2_keyNear 128 = .ok (.iload_n 3, 1) := by decide +kernel
theorem dX2_keyNear_129 : decode cX2_keyNear 129 = .ok (.iload 4, 2) := by decide +kernel
theorem dX2_keyNear_131 : decode cX2_keyNear 131 = .ok (.invokevirtual 118, 3) := by decide +kernel
theorem dX2_keyNear_134 : decode cX2_keyNear 134 = .ok (.lreturn, 1) := by decide +kernel
theorem dX2_keyNear_135 : decode cX2_keyNear 135 = .ok (.aload_n 0, 1) := by decide +kernel
theorem dX2_keyNear_136 : decode cX2_keyNear 136 = .ok (.iload 4, 2) := by decide +kernel
theorem dX2_keyNear_138 : decode cX2_keyNear 138 = .ok (.iconst 1, 1) := by decide +kernel
theorem dX2_keyNear_139 : decode cX2_keyNear 139 = .ok (.isub, 1) := by decide +kernel
theorem dX2_keyNear_140 : decode cX2_keyNear 140 = .ok (.iload_n 3, 1) := by decide +kernel
theorem dX2_keyNear_141 : decode cX2_keyNear 141 = .ok (.iload 4, 2) := by decide +kernel
theorem dX2_keyNear_143 : decode cX2_keyNear 143 = .ok (.invokevirtual 118, 3) := by decide +kernel
theorem dX2_keyNear_146 : decode cX2_keyNear 146 = .ok (.lreturn, 1) := by decide +kernel
theorem dX2_keyNear_147 : decode cX2_keyNear 147 = .ok (.ldc2_w 44, 3) := by decide +kernel
theorem dX2_keyNear_150 : decode cX2_keyNear 150 = .ok (.lreturn, 1) := by decide +kernel
set_option maxRecDepth 20000 in
theorem ggX2_keyWithin_X0_keyAt : GoodIn wsX2_keyWithin wsX0_keyAt := goodIn_r _ [7, 8, 9, 10, 15, 16, 17] (by decide +kernel) (by decide +kernel)
set_option maxRecDepth 20000 in
theorem gX2_keyWithin_X0_keyAt : GoodIn wsX2_keyWithin (wsV RX2 92 RX0 yX0_keyAt wsX0_keyAt) := goodIn_app (goodIn_of _ (by decide +kernel)) ggX2_keyWithin_X0_keyAt
theorem dX2_keyWithin_0 : decode cX2_keyWithin 0 = .ok (.iload_n 1, 1) := by decide +kernel
theorem dX2_keyWithin_1 : decode cX2_keyWithin 1 = .ok (.iload_n 2, 1) := by decide +kernel
theorem dX2_keyWithin_2 : decode cX2_keyWithin 2 = .ok (.if_icmp .lt 19, 3) := by decide +kernel
theorem dX2_keyWithin_5 : decode cX2_keyWithin 5 = .ok (.iload_n 1, 1) := by decide +kernel
theorem dX2_keyWithin_6 : decode cX2_keyWithin 6 = .ok (.iload_n 3, 1) := by decide +kernel
theorem dX2_keyWithin_7 : decode cX2_keyWithin 7 = .ok (.if_icmp .ge 14, 3) := by decide +kernel
theorem dX2_keyWithin_10 : decode cX2_keyWithin 10 = .ok (.aload_n 0, 1) := by decide +kernel
theorem dX2_keyWithin_11 : decode cX2_keyWithin 11 = .ok (.getfield 12, 3) := by decide +kernel
theorem dX2_keyWithin_14 : decode cX2_keyWithin 14 = .ok (.iload_n 1, 1) := by decide +kernel
theorem dX2_keyWithin_15 : decode cX2_keyWithin 15 = .ok (.invokevirtual 92, 3) := by decide +kernel
theorem dX2_keyWithin_18 : decode cX2_keyWithin 18 = .ok (.goto 6, 3) := by decide +kernel
theorem dX2_keyWithin_21 : decode cX2_keyWithin 21 = .ok (.ldc2_w 44, 3) := by decide +kernel
theorem dX2_keyWithin_24 : decode cX2_keyWithin 24 = .ok (.lreturn, 1) := by decide +kernel
set_option maxRecDepth 20000 in
theorem ggX2_pollWithin_X2_keyWithin : GoodIn wsX2_pollWithin wsX2_keyWithin := goodIn_r _ [7, 2, 1, 8, 9, 10, 11, 12, 13, 14, 15, 29, 30, 31, 32, 33, 34, 35] (by decide +kernel) (by decide +kernel)
set_option maxRecDepth 20000 in
theorem gX2_pollWithin_X2_keyWithin : GoodIn wsX2_pollWithin (wsV RX2 118 RX2 yX2_keyWithin wsX2_keyWithin) := goodIn_app (goodIn_of _ (by decide +kernel)) ggX2_pollWithin_X2_keyWithin
set_option maxRecDepth 20000 in
theorem ggX2_pollWithin_X0_dropPlaces : GoodIn wsX2_pollWithin wsX0_dropPlaces := goodIn_r _ [19, 20, 21, 22, 11, 23, 13, 14, 24, 25, 26, 27, 28, 33, 34, 35] (by decide +kernel) (by decide +kernel)
set_option maxRecDepth 20000 in
theorem gX2_pollWithin_X0_dropPlaces : GoodIn wsX2_pollWithin (wsV RX2 65 RX0 yX0_dropPlaces wsX0_dropPlaces) := goodIn_app (goodIn_of _ (by decide +kernel)) ggX2_pollWithin_X0_dropPlaces
theorem dX2_pollWithin_0 : decode cX2_pollWithin 0 = .ok (.iload_n 1, 1) := by decide +kernel
theorem dX2_pollWithin_1 : decode cX2_pollWithin 1 = .ok (.ifCond .eq 9, 3) := by decide +kernel
theorem dX2_pollWithin_4 : decode cX2_pollWithin 4 = .ok (.iload_n 3, 1) := by decide +kernel
theorem dX2_pollWithin_5 : decode cX2_pollWithin 5 = .ok (.iconst 1, 1) := by decide +kernel
theorem dX2_pollWithin_6 : decode cX2_pollWithin 6 = .ok (.isub, 1) := by decide +kernel
theorem dX2_pollWithin_7 : decode cX2_pollWithin 7 = .ok (.goto 4, 3) := by decide +kernel
theorem dX2_pollWithin_10 : decode cX2_pollWithin 10 = .ok (.iload_n 2, 1) := by decide +kernel
theorem dX2_pollWithin_11 : decode cX2_pollWithin 11 = .ok (.istore 4, 2) := by decide +kernel
theorem dX2_pollWithin_13 : decode cX2_pollWithin 13 = .ok (.aload_n 0, 1) := by decide +kernel
theorem dX2_pollWithin_14 : decode cX2_pollWithin 14 = .ok (.iload 4, 2) := by decide +kernel
theorem dX2_pollWithin_16 : decode cX2_pollWithin 16 = .ok (.iload_n 2, 1) := by decide +kernel
theorem dX2_pollWithin_17 : decode cX2_pollWithin 17 = .ok (.iload_n 3, 1) := by decide +kernel
theorem dX2_pollWithin_18 : decode cX2_pollWithin 18 = .ok (.invokevirtual 118, 3) := by decide +kernel
theorem dX2_pollWithin_21 : decode cX2_pollWithin 21 = .ok (.lstore 5, 2) := by decide +kernel
theorem dX2_pollWithin_23 : decode cX2_pollWithin 23 = .ok (.lload 5, 2) := by decide +kernel
theorem dX2_pollWithin_25 : decode cX2_pollWithin 25 = .ok (.ldc2_w 44, 3) := by decide +kernel
theorem dX2_pollWithin_28 : decode cX2_pollWithin 28 = .ok (.lcmp, 1) := by decide +kernel
theorem dX2_pollWithin_29 : decode cX2_pollWithin 29 = .ok (.ifCond .eq 17, 3) := by decide +kernel
theorem dX2_pollWithin_32 : decode cX2_pollWithin 32 = .ok (.aload_n 0, 1) := by decide +kernel
theorem dX2_pollWithin_33 : decode cX2_pollWithin 33 = .ok (.getfield 12, 3) := by decide +kernel
theorem dX2_pollWithin_36 : decode cX2_pollWithin 36 = .ok (.iload 4, 2) := by decide +kernel
theorem dX2_pollWithin_38 : decode cX2_pollWithin 38 = .ok (.iload 4, 2) := by decide +kernel
theorem dX2_pollWithin_40 : decode cX2_pollWithin 40 = .ok (.iconst 1, 1) := by decide +kernel
theorem dX2_pollWithin_41 : decode cX2_pollWithin 41 = .ok (.iadd, 1) := by decide +kernel
theorem dX2_pollWithin_42 : decode cX2_pollWithin 42 = .ok (.invokevirtual 65, 3) := by decide +kernel
theorem dX2_pollWithin_45 : decode cX2_pollWithin 45 = .ok (.pop, 1) := by decide +kernel
theorem dX2_pollWithin_46 : decode cX2_pollWithin 46 = .ok (.lload 5, 2) := by decide +kernel
theorem dX2_pollWithin_48 : decode cX2_pollWithin 48 = .ok (.lreturn, 1) := by decide +kernel
theorem dX3_init_0 : decode cX3_init 0 = .ok (.aload_n 0, 1) := by decide +kernel
theorem dX3_init_1 : decode cX3_init 1 = .ok (.invokespecial 3, 3) := by decide +kernel
theorem dX3_init_4 : decode cX3_init 4 = .ok (.aload_n 0, 1) := by decide +kernel
theorem dX3_init_5 : decode cX3_init 5 = .ok (.bipush 64, 2) := by decide +kernel
theorem dX3_init_7 : decode cX3_init 7 = .ok (.newarray .int, 2) := by decide +kernel
theorem dX3_init_9 : decode cX3_init 9 = .ok (.putfield 9, 3) := by decide +kernel
theorem dX3_init_12 : decode cX3_init 12 = .ok (.aload_n 0, 1) := by decide +kernel
theorem dX3_init_13 : decode cX3_init 13 = .ok (.bipush 64, 2) := by decide +kernel
theorem dX3_init_15 : decode cX3_init 15 = .ok (.newarray .int, 2) := by decide +kernel
theorem dX3_init_17 : decode cX3_init 17 = .ok (.putfield 13, 3) := by decide +kernel
theorem dX3_init_20 : decode cX3_init 20 = .ok (.return_, 1) := by decide +kernel
theorem dX3_placeOf_0 : decode cX3_placeOf 0 = .ok (.iconst 0, 1) := by decide +kernel
theorem dX3_placeOf_1 : decode cX3_placeOf 1 = .ok (.istore_n 2, 1) := by decide +kernel
theorem dX3_placeOf_2 : decode cX3_placeOf 2 = .ok (.iload_n 2, 1) := by decide +kernel
theorem dX3_placeOf_3 : decode cX3_placeOf 3 = .ok (.aload_n 0, 1) := by decide +kernel
theorem dX3_placeOf_4 : decode cX3_placeOf 4 = .ok (.getfield 16, 3) := by decide +kernel
theorem dX3_placeOf_7 : decode cX3_placeOf 7 = .ok (.if_icmp .ge 19, 3) := by decide +kernel
theorem dX3_placeOf_10 : decode cX3_placeOf 10 = .ok (.aload_n 0, 1) := by decide +kernel
theorem dX3_placeOf_11 : decode cX3_placeOf 11 = .ok (.getfield 9, 3) := by decide +kernel
theorem dX3_placeOf_14 : decode cX3_placeOf 14 = .ok (.iload_n 2, 1) := by decide +kernel
theorem dX3_placeOf_15 : decode cX3_placeOf 15 = .ok (.iaload, 1) := by decide +kernel
theorem dX3_placeOf_16 : decode cX3_placeOf 16 = .ok (.iload_n 1, 1) := by decide +kernel
theorem dX3_placeOf_17 : decode cX3_placeOf 17 = .ok (.if_icmp .ge 9, 3) := by decide +kernel
theorem dX3_placeOf_20 : decode cX3_placeOf 20 = .ok (.iinc 2 1, 3) := by decide +kernel
theorem dX3_placeOf_23 : decode cX3_placeOf 23 = .ok (.goto (-21), 3) := by decide +kernel
theorem dX3_placeOf_26 : decode cX3_placeOf 26 = .ok (.iload_n 2, 1) := by decide +kernel
theorem dX3_placeOf_27 : decode cX3_placeOf 27 = .ok (.ireturn, 1) := by decide +kernel
theorem dX3_isAt_0 : decode cX3_isAt 0 = .ok (.iload_n 1, 1) := by decide +kernel
theorem dX3_isAt_1 : decode cX3_isAt 1 = .ok (.aload_n 0, 1) := by decide +kernel
theorem dX3_isAt_2 : decode cX3_isAt 2 = .ok (.getfield 16, 3) := by decide +kernel
theorem dX3_isAt_5 : decode cX3_isAt 5 = .ok (.if_icmp .ge 17, 3) := by decide +kernel
theorem dX3_isAt_8 : decode cX3_isAt 8 = .ok (.aload_n 0, 1) := by decide +kernel
theorem dX3_isAt_9 : decode cX3_isAt 9 = .ok (.getfield 9, 3) := by decide +kernel
theorem dX3_isAt_12 : decode cX3_isAt 12 = .ok (.iload_n 1, 1) := by decide +kernel
theorem dX3_isAt_13 : decode cX3_isAt 13 = .ok (.iaload, 1) := by decide +kernel
theorem dX3_isAt_14 : decode cX3_isAt 14 = .ok (.iload_n 2, 1) := by decide +kernel
theorem dX3_isAt_15 : decode cX3_isAt 15 = .ok (.if_icmp .ne 7, 3) := by decide +kernel
theorem dX3_isAt_18 : decode cX3_isAt 18 = .ok (.iconst 1, 1) := by decide +kernel
theorem dX3_isAt_19 : decode cX3_isAt 19 = .ok (.goto 4, 3) := by decide +kernel
theorem dX3_isAt_22 : decode cX3_isAt 22 = .ok (.iconst 0, 1) := by decide +kernel
theorem dX3_isAt_23 : decode cX3_isAt 23 = .ok (.ireturn, 1) := by decide +kernel
set_option maxRecDepth 20000 in
theorem ggX3_insert_J7_copyOf_59c91 : GoodIn wsX3_insert wsJ7_copyOf_59c91 := goodIn_r _ [7, 8, 9, 10, 11, 12, 13, 14, 15, 16, 17, 18, 19, 20, 21, 22] (by decide +kernel) (by decide +kernel)
set_option maxRecDepth 20000 in
theorem gX3_insert_J7_copyOf_59c91 : GoodIn wsX3_insert (va_wsS RX3 20 yJ7_copyOf_59c91 wsJ7_copyOf_59c91) := goodIn_app (goodIn_of _ (by decide +kernel)) ggX3_insert_J7_copyOf_59c91
theorem dX3_insert_0 : decode cX3_insert 0 = .ok (.aload_n 0, 1) := by decide +kernel
theorem dX3_insert_1 : decode cX3_insert 1 = .ok (.getfield 16, 3) := by decide +kernel
theorem dX3_insert_4 : decode cX3_insert 4 = .ok (.aload_n 0, 1) := by decide +kernel
theorem dX3_insert_5 : decode cX3_insert 5 = .ok (.getfield 9, 3) := by decide +kernel
theorem dX3_insert_8 : decode cX3_insert 8 = .ok (.arraylength, 1) := by decide +kernel
theorem dX3_insert_9 : decode cX3_insert 9 = .ok (.if_icmp .ne 37, 3) := by decide +kernel
theorem dX3_insert_12 : decode cX3_insert 12 = .ok (.aload_n 0, 1) := by decide +kernel
theorem dX3_insert_13 : decode cX3_insert 13 = .ok (.aload_n 0, 1) := by decide +kernel
theorem dX3_insert_14 : decode cX3_insert 14 = .ok (.getfield 9, 3) := by decide +kernel
theorem dX3_insert_17 : decode cX3_insert 17 = .ok (.iconst 2, 1) := by decide +kernel
theorem dX3_insert_18 : decode cX3_insert 18 = .ok (.aload_n 0, 1) := by decide +kernel
theorem dX3_insert_19 : decode cX3_insert 19 = .ok (.getfield 16, 3) := by decide +kernel
theorem dX3_insert_22 : decode cX3_insert 22 = .ok (.imul, 1) := by decide +kernel
theorem dX3_insert_23 : decode cX3_insert 23 = .ok (.invokestatic 20, 3) := by decide +kernel
theorem dX3_insert_26 : decode cX3_insert 26 = .ok (.putfield 9, 3) := by decide +kernel
theorem dX3_insert_29 : decode cX3_insert 29 = .ok (.aload_n 0, 1) := by decide +kernel
theorem dX3_insert_30 : decode cX3_insert 30 = .ok (.aload_n 0, 1) := by decide +kernel
theorem dX3_insert_31 : decode cX3_insert 31 = .ok (.getfield 13, 3) := by decide +kernel
theorem dX3_insert_34 : decode cX3_insert 34 = .ok (.iconst 2, 1) := by decide +kernel
theorem dX3_insert_35 : decode cX3_insert 35 = .ok (.aload_n 0, 1) := by decide +kernel
theorem dX3_insert_36 : decode cX3_insert 36 = .ok (.getfield 16, 3) := by decide +kernel
theorem dX3_insert_39 : decode cX3_insert 39 = .ok (.imul, 1) := by decide +kernel
theorem dX3_insert_40 : decode cX3_insert 40 = .ok (.invokestatic 20, 3) := by decide +kernel
theorem dX3_insert_43 : decode cX3_insert 43 = .ok (.putfield 13, 3) := by decide +kernel
theorem dX3_insert_46 : decode cX3_insert 46 = .ok (.aload_n 0, 1) := by decide +kernel
theorem dX3_insert_47 : decode cX3_insert 47 = .ok (.getfield 16, 3) := by decide +kernel
theorem dX3_insert_50 : decode cX3_insert 50 = .ok (.istore 4, 2) := by decide +kernel
theorem dX3_insert_52 : decode cX3_insert 52 = .ok (.iload 4, 2) := by decide +kernel
theorem dX3_insert_54 : decode cX3_insert 54 = .ok (.iload_n 1, 1) := by decide +kernel
theorem dX3_insert_55 : decode cX3_insert 55 = .ok (.if_icmp .le 41, 3) := by decide +kernel
theorem dX3_insert_58 : decode cX3_insert 58 = .ok (.aload_n 0, 1) := by decide +kernel
theorem dX3_insert_59 : decode cX3_insert 59 = .ok (.getfield 9, 3) := by decide +kernel
theorem dX3_insert_62 : decode cX3_insert 62 = .ok (.iload 4, 2) := by decide +kernel
theorem dX3_insert_64 : decode cX3_insert 64 = .ok (.aload_n 0, 1) := by decide +kernel
theorem dX3_insert_65 : decode cX3_insert 65 = .ok (.getfield 9, 3) := by decide +kernel
theorem dX3_insert_68 : decode cX3_insert 68 = .ok (.iload 4, 2) := by decide +kernel
theorem dX3_insert_70 : decode cX3_insert 70 = .ok (.iconst 1, 1) := by decide +kernel
theorem dX3_insert_71 : decode cX3_insert 71 = .ok (.isub, 1) := by decide +kernel
theorem dX3_insert_72 : decode cX3_insert 72 = .ok (.iaload, 1) := by decide +kernel
theorem dX3_insert_73 : decode cX3_insert 73 = .ok (.iastore, 1) := by decide +kernel
theorem dX3_insert_74 : decode cX3_insert 74 = .ok (.aload_n 0, 1) := by decide +kernel
theorem dX3_insert_75 : decode cX3_insert 75 = .ok (.getfield 13, 3) := by decide +kernel
theorem dX3_insert_78 : decode cX3_insert 78 = .ok (.iload 4, 2) := by decide +kernel
theorem dX3_insert_80 : decode cX3_insert 80 = .ok (.aload_n 0, 1) := by decide +kernel
theorem dX3_insert_81 : decode cX3_insert 81 = .ok (.getfield 13, 3) := by decide +kernel
theorem dX3_insert_84 : decode cX3_insert 84 = .ok (.iload 4, 2) := by decide +kernel
theorem dX3_insert_86 : decode cX3_insert 86 = .ok (.iconst 1, 1) := by decide +kernel
theorem dX3_insert_87 : decode cX3_insert 87 = .ok (.isub, 1) := by decide +kernel
theorem dX3_insert_88 : decode cX3_insert 88 = .ok (.iaload, 1) := by decide +kernel
theorem dX3_insert_89 : decode cX3_insert 89 = .ok (.iastore, 1) := by decide +kernel
theorem dX3_insert_90 : decode cX3_insert 90 = .ok (.iinc 4 (-1), 3) := by decide +kernel
theorem dX3_insert_93 : decode cX3_insert 93 = .ok (.goto (-41), 3) := by decide +kernel
theorem dX3_insert_96 : decode cX3_insert 96 = .ok (.aload_n 0, 1) := by decide +kernel
theorem dX3_insert_97 : decode cX3_insert 97 = .ok (.getfield 9, 3) := by decide +kernel
theorem dX3_insert_100 : decode cX3_insert 100 = .ok (.iload_n 1, 1) := by decide +kernel
theorem dX3_insert_101 : decode cX3_insert 101 = .ok (.iload_n 2, 1) := by decide +kernel
theorem dX3_insert_102 : decode cX3_insert 102 = .ok (.iastore, 1) := by decide +kernel
theorem dX3_insert_103 : decode cX3_insert 103 = .ok (.aload_n 0, 1) := by decide +kernel
theorem dX3_insert_104 : decode cX3_insert 104 = .ok (.getfield 13, 3) := by decide +kernel
theorem dX3_insert_107 : decode cX3_insert 107 = .ok (.iload_n 1, 1) := by decide +kernel
theorem dX3_insert_108 : decode cX3_insert 108 = .ok (.iload_n 3, 1) := by decide +kernel
theorem dX3_insert_109 : decode cX3_insert 109 = .ok (.iastore, 1) := by decide +kernel
theorem dX3_insert_110 : decode cX3_insert 110 = .ok (.aload_n 0, 1) := by decide +kernel
theorem dX3_insert_111 : decode cX3_insert 111 = .ok (.dup, 1) := by decide +kernel
theorem dX3_insert_112 : decode cX3_insert 112 = .ok (.getfield 16, 3) := by decide +kernel
theorem dX3_insert_115 : decode cX3_insert 115 = .ok (.iconst 1, 1) := by decide +kernel
theorem dX3_insert_116 : decode cX3_insert 116 = .ok (.iadd, 1) := by decide +kernel
theorem dX3_insert_117 : decode cX3_insert 117 = .ok (.putfield 16, 3) := by decide +kernel
theorem dX3_insert_120 : decode cX3_insert 120 = .ok (.return_, 1) := by decide +kernel
theorem dX3_delete_0 : decode cX3_delete 0 = .ok (.aload_n 0, 1) := by decide +kernel
theorem dX3_delete_1 : decode cX3_delete 1 = .ok (.dup, 1) := by decide +kernel
theorem dX3_delete_2 : decode cX3_delete 2 = .ok (.getfield 16, 3) := by decide +kernel
theorem dX3_delete_5 : decode cX3_delete 5 = .ok (.iconst 1, 1) := by decide +kernel
theorem dX3_delete_6 : decode cX3_delete 6 = .ok (.isub, 1) := by decide +kernel
theorem dX3_delete_7 : decode cX3_delete 7 = .ok (.putfield 16, 3) := by decide +kernel
theorem dX3_delete_10 : decode cX3_delete 10 = .ok (.iload_n 1, 1) := by decide +kernel
theorem dX3_delete_11 : decode cX3_delete 11 = .ok (.istore_n 2, 1) := by decide +kernel
theorem dX3_delete_12 : decode cX3_delete 12 = .ok (.iload_n 2, 1) := by decide +kernel
theorem dX3_delete_13 : decode cX3_delete 13 = .ok (.aload_n 0, 1) := by decide +kernel
theorem dX3_delete_14 : decode cX3_delete 14 = .ok (.getfield 16, 3) := by decide +kernel
theorem dX3_delete_17 : decode cX3_delete 17 = .ok (.if_icmp .ge 37, 3) := by decide +kernel
theorem dX3_delete_20 : decode cX3_delete 20 = .ok (.aload_n 0, 1) := by decide +kernel
theorem dX3_delete_21 : decode cX3_delete 21 = .ok (.getfield 9, 3) := by decide +kernel
theorem dX3_delete_24 : decode cX3_delete 24 = .ok (.iload_n 2, 1) := by decide +kernel
theorem dX3_delete_25 : decode cX3_delete 25 = .ok (.aload_n 0, 1) := by decide +kernel
theorem dX3_delete_26 : decode cX3_delete 26 = .ok (.getfield 9, 3) := by decide +kernel
theorem dX3_delete_29 : decode cX3_delete 29 = .ok (.iload_n 2, 1) := by decide +kernel
theorem dX3_delete_30 : decode cX3_delete 30 = .ok (.iconst 1, 1) := by decide +kernel
theorem dX3_delete_31 : decode cX3_delete 31 = .ok (.iadd, 1) := by decide +kernel
theorem dX3_delete_32 : decode cX3_delete 32 = .ok (.iaload, 1) := by decide +kernel
theorem dX3_delete_33 : decode cX3_delete 33 = .ok (.iastore, 1) := by decide +kernel
theorem dX3_delete_34 : decode cX3_delete 34 = .ok (.aload_n 0, 1) := by decide +kernel
theorem dX3_delete_35 : decode cX3_delete 35 = .ok (.getfield 13, 3) := by decide +kernel
theorem dX3_delete_38 : decode cX3_delete 38 = .ok (.iload_n 2, 1) := by decide +kernel
theorem dX3_delete_39 : decode cX3_delete 39 = .ok (.aload_n 0, 1) := by decide +kernel
theorem dX3_delete_40 : decode cX3_delete 40 = .ok (.getfield 13, 3) := by decide +kernel
theorem dX3_delete_43 : decode cX3_delete 43 = .ok (.iload_n 2, 1) := by decide +kernel
theorem dX3_delete_44 : decode cX3_delete 44 = .ok (.iconst 1, 1) := by decide +kernel
theorem dX3_delete_45 : decode cX3_delete 45 = .ok (.iadd, 1) := by decide +kernel
theorem dX3_delete_46 : decode cX3_delete 46 = .ok (.iaload, 1) := by decide +kernel
theorem dX3_delete_47 : decode cX3_delete 47 = .ok (.iastore, 1) := by decide +kernel
theorem dX3_delete_48 : decode cX3_delete 48 = .ok (.iinc 2 1, 3) := by decide +kernel
theorem dX3_delete_51 : decode cX3_delete 51 = .ok (.goto (-39), 3) := by decide +kernel
theorem dX3_delete_54 : decode cX3_delete 54 = .ok (.return_, 1) := by decide +kernel
set_option maxRecDepth 20000 in
theorem ggX3_put_X3_placeOf : GoodIn wsX3_put wsX3_placeOf := goodIn_r _ [7, 8, 9, 37, 38, 39, 40, 41, 42, 43, 44, 45, 46] (by decide +kernel) (by decide +kernel)
set_option maxRecDepth 20000 in
theorem gX3_put_X3_placeOf : GoodIn wsX3_put (wsV RX3 26 RX3 yX3_placeOf wsX3_placeOf) := goodIn_app (goodIn_of _ (by decide +kernel)) ggX3_put_X3_placeOf
set_option maxRecDepth 20000 in
theorem ggX3_put_X3_isAt : GoodIn wsX3_put wsX3_isAt := goodIn_r _ [13, 8, 9, 37, 38, 39, 40, 41, 42, 43, 44, 45, 46] (by decide +kernel) (by decide +kernel)
set_option maxRecDepth 20000 in
theorem gX3_put_X3_isAt : GoodIn wsX3_put (wsV RX3 30 RX3 yX3_isAt wsX3_isAt) := goodIn_app (goodIn_of _ (by decide +kernel)) ggX3_put_X3_isAt
set_option maxRecDepth 20000 in
theorem ggX3_put_X3_insert : GoodIn wsX3_put wsX3_insert := goodIn_r _ [17, 8, 9, 2, 18, 19, 20, 21, 22, 23, 24, 25, 26, 27, 28, 29, 30, 31, 32, 33, 34, 35, 36, 37, 38, 39, 40, 41, 42, 43, 44, 45, 46] (by decide +kernel) (by decide +kernel)
set_option maxRecDepth 20000 in
theorem gX3_put_X3_insert : GoodIn wsX3_put (wsV RX3 34 RX3 yX3_insert wsX3_insert) := goodIn_app (goodIn_of _ (by decide +kernel)) ggX3_put_X3_insert
theorem dX3_put_0 : decode cX3_put 0 = .ok (.aload_n 0, 1) := by decide +kernel
theorem dX3_put_1 : decode cX3_put 1 = .ok (.iload_n 1, 1) := by decide +kernel
theorem dX3_put_2 : decode cX3_put 2 = .ok (.invokevirtual 26, 3) := by decide +kernel
theorem dX3_put_5 : decode cX3_put 5 = .ok (.istore_n 3, 1) := by decide +kernel
theorem dX3_put_6 : decode cX3_put 6 = .ok (.aload_n 0, 1) := by decide +kernel
theorem dX3_put_7 : decode cX3_put 7 = .ok (.iload_n 3, 1) := by decide +kernel
theorem dX3_put_8 : decode cX3_put 8 = .ok (.iload_n 1, 1) := by decide +kernel
theorem dX3_put_9 : decode cX3_put 9 = .ok (.invokevirtual 30, 3) := by decide +kernel
theorem dX3_put_12 : decode cX3_put 12 = .ok (.ifCond .ne 14, 3) := by decide +kernel
theorem dX3_put_15 : decode cX3_put 15 = .ok (.aload_n 0, 1) := by decide +kernel
theorem dX3_put_16 : decode cX3_put 16 = .ok (.iload_n 3, 1) := by decide +kernel
theorem dX3_put_17 : decode cX3_put 17 = .ok (.iload_n 1, 1) := by decide +kernel
theorem dX3_put_18 : decode cX3_put 18 = .ok (.iload_n 2, 1) := by decide +kernel
theorem dX3_put_19 : decode cX3_put 19 = .ok (.invokevirtual 34, 3) := by decide +kernel
theorem dX3_put_22 : decode cX3_put 22 = .ok (.ldc2_w 38, 3) := by decide +kernel
theorem dX3_put_25 : decode cX3_put 25 = .ok (.lreturn, 1) := by decide +kernel
theorem dX3_put_26 : decode cX3_put 26 = .ok (.aload_n 0, 1) := by decide +kernel
theorem dX3_put_27 : decode cX3_put 27 = .ok (.getfield 13, 3) := by decide +kernel
theorem dX3_put_30 : decode cX3_put 30 = .ok (.iload_n 3, 1) := by decide +kernel
theorem dX3_put_31 : decode cX3_put 31 = .ok (.iaload, 1) := by decide +kernel
theorem dX3_put_32 : decode cX3_put 32 = .ok (.istore 4, 2) := by decide +kernel
theorem dX3_put_34 : decode cX3_put 34 = .ok (.aload_n 0, 1) := by decide +kernel
theorem dX3_put_35 : decode cX3_put 35 = .ok (.getfield 13, 3) := by decide +kernel
theorem dX3_put_38 : decode cX3_put 38 = .ok (.iload_n 3, 1) := by decide +kernel
theorem dX3_put_39 : decode cX3_put 39 = .ok (.iload_n 2, 1) := by decide +kernel
theorem dX3_put_40 : decode cX3_put 40 = .ok (.iastore, 1) := by decide +kernel
theorem dX3_put_41 : decode cX3_put 41 = .ok (.iload 4, 2) := by decide +kernel
theorem dX3_put_43 : decode cX3_put 43 = .ok (.i2l, 1) := by decide +kernel
theorem dX3_put_44 : decode cX3_put 44 = .ok (.lreturn, 1) := by decide +kernel
set_option maxRecDepth 20000 in
theorem ggX3_add_X3_placeOf : GoodIn wsX3_add wsX3_placeOf := goodIn_r _ [7, 8, 9, 37, 38, 39, 40, 41, 42, 43, 44, 45, 46] (by decide +kernel) (by decide +kernel)
set_option maxRecDepth 20000 in
theorem gX3_add_X3_placeOf : GoodIn wsX3_add (wsV RX3 26 RX3 yX3_placeOf wsX3_placeOf) := goodIn_app (goodIn_of _ (by decide +kernel)) ggX3_add_X3_placeOf
set_option maxRecDepth 20000 in
theorem ggX3_add_X3_isAt : GoodIn wsX3_add wsX3_isAt := goodIn_r _ [13, 8, 9, 37, 38, 39, 40, 41, 42, 43, 44, 45, 46] (by decide +kernel) (by decide +kernel)
set_option maxRecDepth 20000 in
theorem gX3_add_X3_isAt : GoodIn wsX3_add (wsV RX3 30 RX3 yX3_isAt wsX3_isAt) := goodIn_app (goodIn_of _ (by decide +kernel)) ggX3_add_X3_isAt
set_option maxRecDepth 20000 in
theorem ggX3_add_X3_insert : GoodIn wsX3_add wsX3_insert := goodIn_r _ [17, 8, 9, 1, 18, 19, 20, 21, 22, 23, 24, 25, 26, 27, 28, 29, 30, 31, 32, 33, 34, 35, 36, 37, 38, 39, 40, 41, 42, 43, 44, 45, 46] (by decide +kernel) (by decide +kernel)
set_option maxRecDepth 20000 in
theorem gX3_add_X3_insert : GoodIn wsX3_add (wsV RX3 34 RX3 yX3_insert wsX3_insert) := goodIn_app (goodIn_of _ (by decide +kernel)) ggX3_add_X3_insert
theorem dX3_add_0 : decode cX3_add 0 = .ok (.aload_n 0, 1) := by decide +kernel
theorem dX3_add_1 : decode cX3_add 1 = .ok (.iload_n 1, 1) := by decide +kernel
theorem dX3_add_2 : decode cX3_add 2 = .ok (.invokevirtual 26, 3) := by decide +kernel
theorem dX3_add_5 : decode cX3_add 5 = .ok (.istore_n 3, 1) := by decide +kernel
theorem dX3_add_6 : decode cX3_add 6 = .ok (.aload_n 0, 1) := by decide +kernel
theorem dX3_add_7 : decode cX3_add 7 = .ok (.iload_n 3, 1) := by decide +kernel
theorem dX3_add_8 : decode cX3_add 8 = .ok (.iload_n 1, 1) := by decide +kernel
theorem dX3_add_9 : decode cX3_add 9 = .ok (.invokevirtual 30, 3) := by decide +kernel
theorem dX3_add_12 : decode cX3_add 12 = .ok (.ifCond .eq 11, 3) := by decide +kernel
theorem dX3_add_15 : decode cX3_add 15 = .ok (.aload_n 0, 1) := by decide +kernel
theorem dX3_add_16 : decode cX3_add 16 = .ok (.getfield 13, 3) := by decide +kernel
theorem dX3_add_19 : decode cX3_add 19 = .ok (.iload_n 3, 1) := by decide +kernel
theorem dX3_add_20 : decode cX3_add 20 = .ok (.iaload, 1) := by decide +kernel
theorem dX3_add_21 : decode cX3_add 21 = .ok (.i2l, 1) := by decide +kernel
theorem dX3_add_22 : decode cX3_add 22 = .ok (.lreturn, 1) := by decide +kernel
theorem dX3_add_23 : decode cX3_add 23 = .ok (.aload_n 0, 1) := by decide +kernel
theorem dX3_add_24 : decode cX3_add 24 = .ok (.iload_n 3, 1) := by decide +kernel
theorem dX3_add_25 : decode cX3_add 25 = .ok (.iload_n 1, 1) := by decide +kernel
theorem dX3_add_26 : decode cX3_add 26 = .ok (.iload_n 2, 1) := by decide +kernel
theorem dX3_add_27 : decode cX3_add 27 = .ok (.invokevirtual 34, 3) := by decide +kernel
theorem dX3_add_30 : decode cX3_add 30 = .ok (.ldc2_w 38, 3) := by decide +kernel
theorem dX3_add_33 : decode cX3_add 33 = .ok (.lreturn, 1) := by decide +kernel
set_option maxRecDepth 20000 in
theorem ggX3_get_X3_placeOf : GoodIn wsX3_get wsX3_placeOf := goodIn_r _ [7, 8, 9, 14, 15, 16, 17, 18, 19, 20, 21, 22, 23] (by decide +kernel) (by decide +kernel)
set_option maxRecDepth 20000 in
theorem gX3_get_X3_placeOf : GoodIn wsX3_get (wsV RX3 26 RX3 yX3_placeOf wsX3_placeOf) := goodIn_app (goodIn_of _ (by decide +kernel)) ggX3_get_X3_placeOf
set_option maxRecDepth 20000 in
theorem ggX3_get_X3_isAt : GoodIn wsX3_get wsX3_isAt := goodIn_r _ [13, 8, 9, 14, 15, 16, 17, 18, 19, 20, 21, 22, 23] (by decide +kernel) (by decide +kernel)
set_option maxRecDepth 20000 in
theorem gX3_get_X3_isAt : GoodIn wsX3_get (wsV RX3 30 RX3 yX3_isAt wsX3_isAt) := goodIn_app (goodIn_of _ (by decide +kernel)) ggX3_get_X3_isAt
theorem dX3_get_0 : decode cX3_get 0 = .ok (.aload_n 0, 1) := by decide +kernel
theorem dX3_get_1 : decode cX3_get 1 = .ok (.iload_n 1, 1) := by decide +kernel
theorem dX3_get_2 : decode cX3_get 2 = .ok (.invokevirtual 26, 3) := by decide +kernel
theorem dX3_get_5 : decode cX3_get 5 = .ok (.istore_n 2, 1) := by decide +kernel
theorem dX3_get_6 : decode cX3_get 6 = .ok (.aload_n 0, 1) := by decide +kernel
theorem dX3_get_7 : decode cX3_get 7 = .ok (.iload_n 2, 1) := by decide +kernel
theorem dX3_get_8 : decode cX3_get 8 = .ok (.iload_n 1, 1) := by decide +kernel
theorem dX3_get_9 : decode cX3_get 9 = .ok (.invokevirtual 30, 3) := by decide +kernel
theorem dX3_get_12 : decode cX3_get 12 = .ok (.ifCond .eq 13, 3) := by decide +kernel
theorem dX3_get_15 : decode cX3_get 15 = .ok (.aload_n 0, 1) := by decide +kernel
theorem dX3_get_16 : decode cX3_get 16 = .ok (.getfield 13, 3) := by decide +kernel
theorem dX3_get_19 : decode cX3_get 19 = .ok (.iload_n 2, 1) := by decide +kernel
theorem dX3_get_20 : decode cX3_get 20 = .ok (.iaload, 1) := by decide +kernel
theorem dX3_get_21 : decode cX3_get 21 = .ok (.i2l, 1) := by decide +kernel
theorem dX3_get_22 : decode cX3_get 22 = .ok (.goto 6, 3) := by decide +kernel
theorem dX3_get_25 : decode cX3_get 25 = .ok (.ldc2_w 38, 3) := by decide +kernel
theorem dX3_get_28 : decode cX3_get 28 = .ok (.lreturn, 1) := by decide +kernel
set_option maxRecDepth 20000 in
theorem ggX3_remove_X3_placeOf : GoodIn wsX3_remove wsX3_placeOf := goodIn_r _ [7, 8, 9, 18, 19, 20, 21, 22, 23, 24, 25, 26, 27] (by decide +kernel) (by decide +kernel)
set_option maxRecDepth 20000 in
theorem gX3_remove_X3_placeOf : GoodIn wsX3_remove (wsV RX3 26 RX3 yX3_placeOf wsX3_placeOf) := goodIn_app (goodIn_of _ (by decide +kernel)) ggX3_remove_X3_placeOf
set_option maxRecDepth 20000 in
theorem ggX3_remove_X3_isAt : GoodIn wsX3_remove wsX3_isAt := goodIn_r _ [13, 8, 9, 18, 19, 20, 21, 22, 23, 24, 25, 26, 27] (by decide +kernel) (by decide +kernel)
set_option maxRecDepth 20000 in
theorem gX3_remove_X3_isAt : GoodIn wsX3_remove (wsV RX3 30 RX3 yX3_isAt wsX3_isAt) := goodIn_app (goodIn_of _ (by decide +kernel)) ggX3_remove_X3_isAt
set_option maxRecDepth 20000 in
theorem ggX3_remove_X3_delete : GoodIn wsX3_remove wsX3_delete := goodIn_r _ [17, 8, 9, 2, 18, 19, 20, 21, 22, 23, 24, 25, 26, 27] (by decide +kernel) (by decide +kernel)
set_option maxRecDepth 20000 in
theorem gX3_remove_X3_delete : GoodIn wsX3_remove (wsV RX3 40 RX3 yX3_delete wsX3_delete) := goodIn_app (goodIn_of _ (by decide +kernel)) ggX3_remove_X3_delete
theorem dX3_remove_0 : decode cX3_remove 0 = .ok (.aload_n 0, 1) := by decide +kernel
theorem dX3_remove_1 : decode cX3_remove 1 = .ok (.iload_n 1, 1) := by decide +kernel
theorem dX3_remove_2 : decode cX3_remove 2 = .ok (.invokevirtual 26, 3) := by decide +kernel
theorem dX3_remove_5 : decode cX3_remove 5 = .ok (.istore_n 2, 1) := by decide +kernel
theorem dX3_remove_6 : decode cX3_remove 6 = .ok (.aload_n 0, 1) := by decide +kernel
theorem dX3_remove_7 : decode cX3_remove 7 = .ok (.iload_n 2, 1) := by decide +kernel
theorem dX3_remove_8 : decode cX3_remove 8 = .ok (.iload_n 1, 1) := by decide +kernel
theorem dX3_remove_9 : decode cX3_remove 9 = .ok (.invokevirtual 30, 3) := by decide +kernel
theorem dX3_remove_12 : decode cX3_remove 12 = .ok (.ifCond .ne 7, 3) := by decide +kernel
theorem dX3_remove_15 : decode cX3_remove 15 = .ok (.ldc2_w 38, 3) := by decide +kernel
theorem dX3_remove_18 : decode cX3_remove 18 = .ok (.lreturn, 1) := by decide +kernel
theorem dX3_remove_19 : decode cX3_remove 19 = .ok (.aload_n 0, 1) := by decide +kernel
theorem dX3_remove_20 : decode cX3_remove 20 = .ok (.getfield 13, 3) := by decide +kernel
theorem dX3_remove_23 : decode cX3_remove 23 = .ok (.iload_n 2, 1) := by decide +kernel
theorem dX3_remove_24 : decode cX3_remove 24 = .ok (.iaload, 1) := by decide +kernel
theorem dX3_remove_25 : decode cX3_remove 25 = .ok (.istore_n 3, 1) := by decide +kernel
theorem dX3_remove_26 : decode cX3_remove 26 = .ok (.aload_n 0, 1) := by decide +kernel
theorem dX3_remove_27 : decode cX3_remove 27 = .ok (.iload_n 2, 1) := by decide +kernel
theorem dX3_remove_28 : decode cX3_remove 28 = .ok (.invokevirtual 40, 3) := by decide +kernel
theorem dX3_remove_31 : decode cX3_remove 31 = .ok (.iload_n 3, 1) := by decide +kernel
theorem dX3_remove_32 : decode cX3_remove 32 = .ok (.i2l, 1) := by decide +kernel
theorem dX3_remove_33 : decode cX3_remove 33 = .ok (.lreturn, 1) := by decide +kernel
theorem dX3_has_0 : decode cX3_has 0 = .ok (.iload_n 1, 1) := by decide +kernel
theorem dX3_has_1 : decode cX3_has 1 = .ok (.ifCond .eq 10, 3) := by decide +kernel
theorem dX3_has_4 : decode cX3_has 4 = .ok (.iload_n 1, 1) := by decide +kernel
theorem dX3_has_5 : decode cX3_has 5 = .ok (.iconst 1, 1) := by decide +kernel
theorem dX3_has_6 : decode cX3_has 6 = .ok (.if_icmp .eq 5, 3) := by decide +kernel
theorem dX3_has_9 : decode cX3_has 9 = .ok (.iconst 0, 1) := by decide +kernel
theorem dX3_has_10 : decode cX3_has 10 = .ok (.ireturn, 1) := by decide +kernel
theorem dX3_has_11 : decode cX3_has 11 = .ok (.iconst 0, 1) := by decide +kernel
theorem dX3_has_12 : decode cX3_has 12 = .ok (.istore_n 3, 1) := by decide +kernel
theorem dX3_has_13 : decode cX3_has 13 = .ok (.iload_n 3, 1) := by decide +kernel
theorem dX3_has_14 : decode cX3_has 14 = .ok (.aload_n 0, 1) := by decide +kernel
theorem dX3_has_15 : decode cX3_has 15 = .ok (.getfield 16, 3) := by decide +kernel
theorem dX3_has_18 : decode cX3_has 18 = .ok (.if_icmp .ge 34, 3) := by decide +kernel
theorem dX3_has_21 : decode cX3_has 21 = .ok (.iload_n 1, 1) := by decide +kernel
theorem dX3_has_22 : decode cX3_has 22 = .ok (.ifCond .ne 12, 3) := by decide +kernel
theorem dX3_has_25 : decode cX3_has 25 = .ok (.aload_n 0, 1) := by decide +kernel
theorem dX3_has_26 : decode cX3_has 26 = .ok (.getfield 9, 3) := by decide +kernel
theorem dX3_has_29 : decode cX3_has 29 = .ok (.iload_n 3, 1) := by decide +kernel
theorem dX3_has_30 : decode cX3_has 30 = .ok (.iaload, 1) := by decide +kernel
theorem dX3_has_31 : decode cX3_has 31 = .ok (.goto 9, 3) := by decide +kernel
theorem dX3_has_34 : decode cX3_has 34 = .ok (.aload_n 0, 1) := by decide +kernel
theorem dX3_has_35 : decode cX3_has 35 = .ok (.getfield 13, 3) := by decide +kernel
theorem dX3_has_38 : decode cX3_has 38 = .ok (.iload_n 3, 1) := by decide +kernel
theorem dX3_has_39 : decode cX3_has 39 = .ok (.iaload, 1) := by decide +kernel
theorem dX3_has_40 : decode cX3_has 40 = .ok (.iload_n 2, 1) := by decide +kernel
theorem dX3_has_41 : decode cX3_has 41 = .ok (.if_icmp .ne 5, 3) := by decide +kernel
theorem dX3_has_44 : decode cX3_has 44 = .ok (.iconst 1, 1) := by decide +kernel
theorem dX3_has_45 : decode cX3_has 45 = .ok (.ireturn, 1) := by decide +kernel
theorem dX3_has_46 : decode cX3_has 46 = .ok (.iinc 3 1, 3) := by decide +kernel
theorem dX3_has_49 : decode cX3_has 49 = .ok (.goto (-36), 3) := by decide +kernel
theorem dX3_has_52 : decode cX3_has 52 = .ok (.iconst 0, 1) := by decide +kernel
theorem dX3_has_53 : decode cX3_has 53 = .ok (.ireturn, 1) := by decide +kernel
theorem dX3_keyAt_0 : decode cX3_keyAt 0 = .ok (.iload_n 1, 1) := by decide +kernel
theorem dX3_keyAt_1 : decode cX3_keyAt 1 = .ok (.iload_n 2, 1) := by decide +kernel
theorem dX3_keyAt_2 : decode cX3_keyAt 2 = .ok (.if_icmp .lt 18, 3) := by decide +kernel
theorem dX3_keyAt_5 : decode cX3_keyAt 5 = .ok (.iload_n 1, 1) := by decide +kernel
theorem dX3_keyAt_6 : decode cX3_keyAt 6 = .ok (.iload_n 3, 1) := by decide +kernel
theorem dX3_keyAt_7 : decode cX3_keyAt 7 = .ok (.if_icmp .ge 13, 3) := by decide +kernel
theorem dX3_keyAt_10 : decode cX3_keyAt 10 = .ok (.aload_n 0, 1) := by decide +kernel
theorem dX3_keyAt_11 : decode cX3_keyAt 11 = .ok (.getfield 9, 3) := by decide +kernel
theorem dX3_keyAt_14 : decode cX3_keyAt 14 = .ok (.iload_n 1, 1) := by decide +kernel
theorem dX3_keyAt_15 : decode cX3_keyAt 15 = .ok (.iaload, 1) := by decide +kernel
theorem dX3_keyAt_16 : decode cX3_keyAt 16 = .ok (.i2l, 1) := by decide +kernel
theorem dX3_keyAt_17 : decode cX3_keyAt 17 = .ok (.goto 6, 3) := by decide +kernel
theorem dX3_keyAt_20 : decode cX3_keyAt 20 = .ok (.ldc2_w 38, 3) := by decide +kernel
theorem dX3_keyAt_23 : decode cX3_keyAt 23 = .ok (.lreturn, 1) := by decide +kernel
set_option maxRecDepth 20000 in
theorem ggX3_near_X3_keyAt : GoodIn wsX3_near wsX3_keyAt := goodIn_r _ [7, 1, 2, 8, 9, 10, 11, 12, 13, 14, 15, 16, 17] (by decide +kernel) (by decide +kernel)
set_option maxRecDepth 20000 in
theorem gX3_near_X3_keyAt : GoodIn wsX3_near (wsV RX3 44 RX3 yX3_keyAt wsX3_keyAt) := goodIn_app (goodIn_of _ (by decide +kernel)) ggX3_near_X3_keyAt
theorem dX3_near_0 : decode cX3_near 0 = .ok (.iload_n 3, 1) := by decide +kernel
theorem dX3_near_1 : decode cX3_near 1 = .ok (.istore 5, 2) := by decide +kernel
theorem dX3_near_3 : decode cX3_near 3 = .ok (.iload_n 3, 1) := by decide +kernel
theorem dX3_near_4 : decode cX3_near 4 = .ok (.istore 6, 2) := by decide +kernel
theorem dX3_near_6 : decode cX3_near 6 = .ok (.iload_n 3, 1) := by decide +kernel
theorem dX3_near_7 : decode cX3_near 7 = .ok (.istore 7, 2) := by decide +kernel
theorem dX3_near_9 : decode cX3_near 9 = .ok (.iload 7, 2) := by decide +kernel
theorem dX3_near_11 : decode cX3_near 11 = .ok (.iload 4, 2) := by decide +kernel
theorem dX3_near_13 : decode cX3_near 13 = .ok (.if_icmp .ge 43, 3) := by decide +kernel
theorem dX3_near_16 : decode cX3_near 16 = .ok (.aload_n 0, 1) := by decide +kernel
theorem dX3_near_17 : decode cX3_near 17 = .ok (.getfield 9, 3) := by decide +kernel
theorem dX3_near_20 : decode cX3_near 20 = .ok (.iload 7, 2) := by decide +kernel
theorem dX3_near_22 : decode cX3_near 22 = .ok (.iaload, 1) := by decide +kernel
theorem dX3_near_23 : decode cX3_near 23 = .ok (.iload_n 2, 1) := by decide +kernel
theorem dX3_near_24 : decode cX3_near 24 = .ok (.if_icmp .ge 9, 3) := by decide +kernel
theorem dX3_near_27 : decode cX3_near 27 = .ok (.iload 7, 2) := by decide +kernel
theorem dX3_near_29 : decode cX3_near 29 = .ok (.iconst 1, 1) := by decide +kernel
theorem dX3_near_30 : decode cX3_near 30 = .ok (.iadd, 1) := by decide +kernel
theorem dX3_near_31 : decode cX3_near 31 = .ok (.istore 5, 2) := by decide +kernel
theorem dX3_near_33 : decode cX3_near 33 = .ok (.aload_n 0, 1) := by decide +kernel
theorem dX3_near_34 : decode cX3_near 34 = .ok (.getfield 9, 3) := by decide +kernel
theorem dX3_near_37 : decode cX3_near 37 = .ok (.iload 7, 2) := by decide +kernel
theorem dX3_near_39 : decode cX3_near 39 = .ok (.iaload, 1) := by decide +kernel
theorem dX3_near_40 : decode cX3_near 40 = .ok (.iload_n 2, 1) := by decide +kernel
theorem dX3_near_41 : decode cX3_near 41 = .ok (.if_icmp .gt 9, 3) := by decide +kernel
theorem dX3_near_44 : decode cX3_near 44 = .ok (.iload 7, 2) := by decide +kernel
theorem dX3_near_46 : decode cX3_near 46 = .ok (.iconst 1, 1) := by decide +kernel
theorem dX3_near_47 : decode cX3_near 47 = .ok (.iadd, 1) := by decide +kernel
theorem dX3_near_48 : decode cX3_near 48 = .ok (.istore 6, 2) := by decide +kernel
theorem dX3_near_50 : decode cX3_near 50 = .ok (.iinc 7 1, 3) := by decide +kernel
theorem dX3_near_53 : decode cX3_near 53 = .ok (.goto (-44), 3) := by decide +kernel
theorem dX3_near_56 : decode cX3_near 56 = .ok (.iload_n 1, 1) := by decide +kernel
theorem dX3_near_57 : decode cX3_near 57 = .ok (.tableswitch 104 0 5 #[39, 51, 61, 73, 83, 92], 39) := by decide +kernel
theorem dX3_near_96 : decode cX3_near 96 = .ok (.aload_n 0, 1) := by decide +kernel
theorem dX3_near_97 : decode cX3_near 97 = .ok (.iload 6, 2) := by decide +kernel
theorem dX3_near_99 : decode cX3_near 99 = .ok (.iconst 1, 1) := by decide +kernel
theorem dX3_near_100 : decode cX3_near 100 = .ok (.isub, 1) := by decide +kernel
theorem dX3_near_101 : decode cX3_near 101 = .ok (.iload_n 3, 1) := by decide +kernel
theorem dX3_near_102 : decode cX3_near 102 = .ok (.iload 4, 2) := by decide +kernel
theorem dX3_near_104 : decode cX3_near 104 = .ok (.invokevirtual 44, 3) := by decide +kernel
theorem dX3_near_107 : decode cX3_near 107 = .ok (.lreturn, 1) := by decide +kernel
theorem dX3_near_108 : decode cX3_near 108 = .ok (.aload_n 0, 1) := by decide +kernel
theorem dX3_near_109 : decode cX3_near 109 = .ok (.iload 5, 2) := by decide +kernel
theorem dX3_near_111 : decode cX3_near 111 = .ok (.iload_n 3, 1) := by decide +kernel
theorem dX3_near_112 : decode cX3_near 112 = .ok (.iload 4, 2) := by decide +kernel
theorem dX3_near_114 : decode cX3_near 114 = .ok (.invokevirtual 44, 3) := by decide +kernel
theorem dX3_near_117 : decode cX3_near 117 = .ok (.lreturn, 1) := by decide +kernel
theorem dX3_near_118 : decode cX3_near 118 = .ok (.aload_n 0, 1) := by decide +kernel
theorem dX3_near_119 : decode cX3_near 119 = .ok (.iload 5, 2) := by decide +kernel
theorem dX3_near_121 : decode cX3_near 121 = .ok (.iconst 1, 1) := by decide +kernel
theorem dX3_near_122 : decode cX3_near 122 = .ok (.isub, 1) := by decide +kernel
theorem dX3_near_123 : decode cX3_near 123 = .ok (.iload_n 3, 1) := by decide +kernel
theorem dX3_near_124 : decode cX3_near 124 = .ok (.iload 4, 2) := by decide +kernel
theorem dX3_near_126 : decode cX3_near 126 = .ok (.invokevirtual 44, 3) := by decide +kernel
theorem dX3_near_129 : decode cX3_near 129 = .ok (.lreturn, 1) := by decide +kernel
theorem dX3_near_130 : decode cX3_near 130 = .ok (.aload_n 0, 1) := by decide +kernel
theorem dX3_near_131 : decode cX3_near 131 = .ok (.iload 6, 2) := by decide +kernel
theorem dX3_near_133 : decode cX3_near 133 = .ok (.iload_n 3, 1) := by decide +kernel
theorem dX3_near_134 : decode cX3_near 134 = .ok (.iload 4, 2) := by decide +kernel
theorem dX3_near_136 : decode cX3_near 136 = .ok (.invokevirtual 44, 3) := by decide +kernel
theorem dX3_near_139 : decode cX3_near 139 = .ok (.lreturn, 1) := by decide +kernel
theorem dX3_near_140 : decode cX3_near 140 = .ok (.aload_n 0, 1) := by decide +kernel
theorem dX3_near_141 : decode cX3_near 141 = .ok (.iload_n 3, 1) := by decide +kernel
theorem dX3_near_142 : decode cX3_near 142 = .ok (.iload_n 3, 1) := by decide +kernel
theorem dX3_near_143 : decode cX3_near 143 = .ok (.iload 4, 2) := by decide +kernel
theorem dX3_near_145 : decode cX3_near 145 = .ok (.invokevirtual 44, 3) := by decide +kernel
theorem dX3_near_148 : decode cX3_near 148 = .ok (.lreturn, 1) := by decide +kernel
theorem dX3_near_149 : decode cX3_near 149 = .ok (.aload_n 0, 1) := by decide +kernel
theorem dX3_near_150 : decode cX3_near 150 = .ok (.iload 4, 2) := by decide +kernel
theorem dX3_near_152 : decode cX3_near 152 = .ok (.iconst 1, 1) := by decide +kernel
theorem dX3_near_153 : decode cX3_near 153 = .ok (.isub, 1) := by decide +kernel
theorem dX3_near_154 : decode cX3_near 154 = .ok (.iload_n 3, 1) := by decide +kernel
theorem dX3_near_155 : decode cX3_near 155 = .ok (.iload 4, 2) := by decide +kernel
theorem dX3_near_157 : decode cX3_near 157 = .ok (.invokevirtual 44, 3) := by decide +kernel
theorem dX3_near_160 : decode cX3_near 160 = .ok (.lreturn, 1) := by decide +kernel
theorem dX3_near_161 : decode cX3_near 161 = .ok (.ldc2_w 38, 3) := by decide +kernel
theorem dX3_near_164 : decode cX3_near 164 = .ok (.lreturn, 1) := by decide +kernel
set_option maxRecDepth 20000 in
theorem ggX3_near__X3_near : GoodIn wsX3_near_ wsX3_near := goodIn_r _ [6, 7, 8, 9, 10, 11, 5, 12, 13, 14, 15, 16, 17, 18, 19, 20, 21, 22] (by decide +kernel) (by decide +kernel)
set_option maxRecDepth 20000 in
theorem gX3_near__X3_near : GoodIn wsX3_near_ (wsV RX3 48 RX3 yX3_near wsX3_near) := goodIn_app (goodIn_of _ (by decide +kernel)) ggX3_near__X3_near
theorem dX3_near__0 : decode cX3_near_ 0 = .ok (.aload_n 0, 1) := by decide +kernel
theorem dX3_near__1 : decode cX3_near_ 1 = .ok (.iload_n 1, 1) := by decide +kernel
theorem dX3_near__2 : decode cX3_near_ 2 = .ok (.iload_n 2, 1) := by decide +kernel
theorem dX3_near__3 : decode cX3_near_ 3 = .ok (.iconst 0, 1) := by decide +kernel
theorem dX3_near__4 : decode cX3_near_ 4 = .ok (.aload_n 0, 1) := by decide +kernel
theorem dX3_near__5 : decode cX3_near_ 5 = .ok (.getfield 16, 3) := by decide +kernel
theorem dX3_near__8 : decode cX3_near_ 8 = .ok (.invokevirtual 48, 3) := by decide +kernel
theorem dX3_near__11 : decode cX3_near_ 11 = .ok (.lreturn, 1) := by decide +kernel
set_option maxRecDepth 20000 in
theorem ggX3_poll_X3_delete : GoodIn wsX3_poll wsX3_delete := goodIn_r _ [8, 1, 3, 9, 10, 11, 12, 13, 14, 15, 16, 17, 18, 19] (by decide +kernel) (by decide +kernel)
set_option maxRecDepth 20000 in
theorem gX3_poll_X3_delete : GoodIn wsX3_poll (wsV RX3 40 RX3 yX3_delete wsX3_delete) := goodIn_app (goodIn_of _ (by decide +kernel)) ggX3_poll_X3_delete
theorem dX3_poll_0 : decode cX3_poll 0 = .ok (.aload_n 0, 1) := by decide +kernel
theorem dX3_poll_1 : decode cX3_poll 1 = .ok (.getfield 16, 3) := by decide +kernel
theorem dX3_poll_4 : decode cX3_poll 4 = .ok (.ifCond .ne 7, 3) := by decide +kernel
theorem dX3_poll_7 : decode cX3_poll 7 = .ok (.ldc2_w 38, 3) := by decide +kernel
theorem dX3_poll_10 : decode cX3_poll 10 = .ok (.lreturn, 1) := by decide +kernel
theorem dX3_poll_11 : decode cX3_poll 11 = .ok (.iload_n 1, 1) := by decide +kernel
theorem dX3_poll_12 : decode cX3_poll 12 = .ok (.ifCond .eq 12, 3) := by decide +kernel
theorem dX3_poll_15 : decode cX3_poll 15 = .ok (.aload_n 0, 1) := by decide +kernel
theorem dX3_poll_16 : decode cX3_poll 16 = .ok (.getfield 16, 3) := by decide +kernel
theorem dX3_poll_19 : decode cX3_poll 19 = .ok (.iconst 1, 1) := by decide +kernel
theorem dX3_poll_20 : decode cX3_poll 20 = .ok (.isub, 1) := by decide +kernel
theorem dX3_poll_21 : decode cX3_poll 21 = .ok (.goto 4, 3) := by decide +kernel
theorem dX3_poll_24 : decode cX3_poll 24 = .ok (.iconst 0, 1) := by decide +kernel
theorem dX3_poll_25 : decode cX3_poll 25 = .ok (.istore_n 2, 1) := by decide +kernel
theorem dX3_poll_26 : decode cX3_poll 26 = .ok (.aload_n 0, 1) := by decide +kernel
theorem dX3_poll_27 : decode cX3_poll 27 = .ok (.getfield 9, 3) := by decide +kernel
theorem dX3_poll_30 : decode cX3_poll 30 = .ok (.iload_n 2, 1) := by decide +kernel
theorem dX3_poll_31 : decode cX3_poll 31 = .ok (.iaload, 1) := by decide +kernel
theorem dX3_poll_32 : decode cX3_poll 32 = .ok (.istore_n 3, 1) := by decide +kernel
theorem dX3_poll_33 : decode cX3_poll 33 = .ok (.aload_n 0, 1) := by decide +kernel
theorem dX3_poll_34 : decode cX3_poll 34 = .ok (.iload_n 2, 1) := by decide +kernel
theorem dX3_poll_35 : decode cX3_poll 35 = .ok (.invokevirtual 40, 3) := by decide +kernel
theorem dX3_poll_38 : decode cX3_poll 38 = .ok (.iload_n 3, 1) := by decide +kernel
theorem dX3_poll_39 : decode cX3_poll 39 = .ok (.i2l, 1) := by decide +kernel
theorem dX3_poll_40 : decode cX3_poll 40 = .ok (.lreturn, 1) := by decide +kernel
theorem dX3_size_0 : decode cX3_size 0 = .ok (.aload_n 0, 1) := by decide +kernel
theorem dX3_size_1 : decode cX3_size 1 = .ok (.getfield 16, 3) := by decide +kernel
theorem dX3_size_4 : decode cX3_size 4 = .ok (.ireturn, 1) := by decide +kernel
theorem dX3_clear_0 : decode cX3_clear 0 = .ok (.aload_n 0, 1) := by decide +kernel
theorem dX3_clear_1 : decode cX3_clear 1 = .ok (.getfield 16, 3) := by decide +kernel
theorem dX3_clear_4 : decode cX3_clear 4 = .ok (.istore_n 1, 1) := by decide +kernel
theorem dX3_clear_5 : decode cX3_clear 5 = .ok (.aload_n 0, 1) := by decide +kernel
theorem dX3_clear_6 : decode cX3_clear 6 = .ok (.iconst 0, 1) := by decide +kernel
theorem dX3_clear_7 : decode cX3_clear 7 = .ok (.putfield 16, 3) := by decide +kernel
theorem dX3_clear_10 : decode cX3_clear 10 = .ok (.iload_n 1, 1) := by decide +kernel
theorem dX3_clear_11 : decode cX3_clear 11 = .ok (.ireturn, 1) := by decide +kernel
theorem dX3_all_0 : decode cX3_all 0 = .ok (.aload_n 0, 1) := by decide +kernel
theorem dX3_all_1 : decode cX3_all 1 = .ok (.iconst 0, 1) := by decide +kernel
theorem dX3_all_2 : decode cX3_all 2 = .ok (.putfield 52, 3) := by decide +kernel
theorem dX3_all_5 : decode cX3_all 5 = .ok (.aload_n 0, 1) := by decide +kernel
theorem dX3_all_6 : decode cX3_all 6 = .ok (.iconst 0, 1) := by decide +kernel
theorem dX3_all_7 : decode cX3_all 7 = .ok (.putfield 56, 3) := by decide +kernel
theorem dX3_all_10 : decode cX3_all 10 = .ok (.aload_n 0, 1) := by decide +kernel
theorem dX3_all_11 : decode cX3_all 11 = .ok (.iconst 0, 1) := by decide +kernel
theorem dX3_all_12 : decode cX3_all 12 = .ok (.putfield 59, 3) := by decide +kernel
theorem dX3_all_15 : decode cX3_all 15 = .ok (.return_, 1) := by decide +kernel
set_option maxRecDepth 20000 in
theorem ggX3_look_X3_all : GoodIn wsX3_look wsX3_all := goodIn_r _ [5, 6, 7, 8, 21, 22, 23, 24, 25, 26, 27, 28, 29, 30] (by decide +kernel) (by decide +kernel)
set_option maxRecDepth 20000 in
theorem gX3_look_X3_all : GoodIn wsX3_look (wsV RX3 62 RX3 yX3_all wsX3_all) := goodIn_app (goodIn_of _ (by decide +kernel)) ggX3_look_X3_all
set_option maxRecDepth 20000 in
theorem ggX3_look_X3_begin : GoodIn wsX3_look wsX3_begin := goodIn_r _ [12, 6, 13, 14, 21, 22, 23, 24, 25, 26, 27, 28, 29, 30] (by decide +kernel) (by decide +kernel)
set_option maxRecDepth 20000 in
theorem gX3_look_X3_begin : GoodIn wsX3_look (wsV RX3 65 RX3 yX3_begin wsX3_begin) := goodIn_app (goodIn_of _ (by decide +kernel)) ggX3_look_X3_begin
set_option maxRecDepth 20000 in
theorem ggX3_look_X3_end : GoodIn wsX3_look wsX3_end := goodIn_r _ [18, 7, 19, 20, 21, 22, 23, 24, 25, 26, 27, 28, 29, 30] (by decide +kernel) (by decide +kernel)
set_option maxRecDepth 20000 in
theorem gX3_look_X3_end : GoodIn wsX3_look (wsV RX3 69 RX3 yX3_end wsX3_end) := goodIn_app (goodIn_of _ (by decide +kernel)) ggX3_look_X3_end
theorem dX3_look_0 : decode cX3_look 0 = .ok (.iload_n 1, 1) := by decide +kernel
theorem dX3_look_1 : decode cX3_look 1 = .ok (.ifCond .lt 19, 3) := by decide +kernel
theorem dX3_look_4 : decode cX3_look 4 = .ok (.iload_n 1, 1) := by decide +kernel
theorem dX3_look_5 : decode cX3_look 5 = .ok (.iconst 3, 1) := by decide +kernel
theorem dX3_look_6 : decode cX3_look 6 = .ok (.if_icmp .gt 14, 3) := by decide +kernel
theorem dX3_look_9 : decode cX3_look 9 = .ok (.iload_n 1, 1) := by decide +kernel
theorem dX3_look_10 : decode cX3_look 10 = .ok (.iconst 3, 1) := by decide +kernel
theorem dX3_look_11 : decode cX3_look 11 = .ok (.if_icmp .ne 11, 3) := by decide +kernel
theorem dX3_look_14 : decode cX3_look 14 = .ok (.iload_n 2, 1) := by decide +kernel
theorem dX3_look_15 : decode cX3_look 15 = .ok (.iload 4, 2) := by decide +kernel
theorem dX3_look_17 : decode cX3_look 17 = .ok (.if_icmp .le 5, 3) := by decide +kernel
theorem dX3_look_20 : decode cX3_look 20 = .ok (.iconst 1, 1) := by decide +kernel
theorem dX3_look_21 : decode cX3_look 21 = .ok (.ireturn, 1) := by decide +kernel
theorem dX3_look_22 : decode cX3_look 22 = .ok (.aload_n 0, 1) := by decide +kernel
theorem dX3_look_23 : decode cX3_look 23 = .ok (.invokevirtual 62, 3) := by decide +kernel
theorem dX3_look_26 : decode cX3_look 26 = .ok (.iload_n 1, 1) := by decide +kernel
theorem dX3_look_27 : decode cX3_look 27 = .ok (.iconst 1, 1) := by decide +kernel
theorem dX3_look_28 : decode cX3_look 28 = .ok (.if_icmp .le 9, 3) := by decide +kernel
theorem dX3_look_31 : decode cX3_look 31 = .ok (.aload_n 0, 1) := by decide +kernel
theorem dX3_look_32 : decode cX3_look 32 = .ok (.iload_n 2, 1) := by decide +kernel
theorem dX3_look_33 : decode cX3_look 33 = .ok (.iload_n 3, 1) := by decide +kernel
theorem dX3_look_34 : decode cX3_look 34 = .ok (.invokevirtual 65, 3) := by decide +kernel
theorem dX3_look_37 : decode cX3_look 37 = .ok (.iload_n 1, 1) := by decide +kernel
theorem dX3_look_38 : decode cX3_look 38 = .ok (.iconst 1, 1) := by decide +kernel
theorem dX3_look_39 : decode cX3_look 39 = .ok (.iand, 1) := by decide +kernel
theorem dX3_look_40 : decode cX3_look 40 = .ok (.iconst 1, 1) := by decide +kernel
theorem dX3_look_41 : decode cX3_look 41 = .ok (.if_icmp .ne 11, 3) := by decide +kernel
theorem dX3_look_44 : decode cX3_look 44 = .ok (.aload_n 0, 1) := by decide +kernel
theorem dX3_look_45 : decode cX3_look 45 = .ok (.iload 4, 2) := by decide +kernel
theorem dX3_look_47 : decode cX3_look 47 = .ok (.iload 5, 2) := by decide +kernel
theorem dX3_look_49 : decode cX3_look 49 = .ok (.invokevirtual 69, 3) := by decide +kernel
theorem dX3_look_52 : decode cX3_look 52 = .ok (.iconst 0, 1) := by decide +kernel
theorem dX3_look_53 : decode cX3_look 53 = .ok (.ireturn, 1) := by decide +kernel
theorem dX3_begin_0 : decode cX3_begin 0 = .ok (.aload_n 0, 1) := by decide +kernel
theorem dX3_begin_1 : decode cX3_begin 1 = .ok (.iconst 1, 1) := by decide +kernel
theorem dX3_begin_2 : decode cX3_begin 2 = .ok (.putfield 52, 3) := by decide +kernel
theorem dX3_begin_5 : decode cX3_begin 5 = .ok (.aload_n 0, 1) := by decide +kernel
theorem dX3_begin_6 : decode cX3_begin 6 = .ok (.iload_n 1, 1) := by decide +kernel
theorem dX3_begin_7 : decode cX3_begin 7 = .ok (.putfield 72, 3) := by decide +kernel
theorem dX3_begin_10 : decode cX3_begin 10 = .ok (.aload_n 0, 1) := by decide +kernel
theorem dX3_begin_11 : decode cX3_begin 11 = .ok (.iload_n 2, 1) := by decide +kernel
theorem dX3_begin_12 : decode cX3_begin 12 = .ok (.putfield 75, 3) := by decide +kernel
theorem dX3_begin_15 : decode cX3_begin 15 = .ok (.return_, 1) := by decide +kernel
theorem dX3_end_0 : decode cX3_end 0 = .ok (.aload_n 0, 1) := by decide +kernel
theorem dX3_end_1 : decode cX3_end 1 = .ok (.iconst 1, 1) := by decide +kernel
theorem dX3_end_2 : decode cX3_end 2 = .ok (.putfield 56, 3) := by decide +kernel
theorem dX3_end_5 : decode cX3_end 5 = .ok (.aload_n 0, 1) := by decide +kernel
theorem dX3_end_6 : decode cX3_end 6 = .ok (.iload_n 1, 1) := by decide +kernel
theorem dX3_end_7 : decode cX3_end 7 = .ok (.putfield 78, 3) := by decide +kernel
theorem dX3_end_10 : decode cX3_end 10 = .ok (.aload_n 0, 1) := by decide +kernel
theorem dX3_end_11 : decode cX3_end 11 = .ok (.iload_n 2, 1) := by decide +kernel
theorem dX3_end_12 : decode cX3_end 12 = .ok (.putfield 81, 3) := by decide +kernel
theorem dX3_end_15 : decode cX3_end 15 = .ok (.return_, 1) := by decide +kernel
theorem dX3_isIn_0 : decode cX3_isIn 0 = .ok (.aload_n 0, 1) := by decide +kernel
theorem dX3_isIn_1 : decode cX3_isIn 1 = .ok (.getfield 52, 3) := by decide +kernel
theorem dX3_isIn_4 : decode cX3_isIn 4 = .ok (.ifCond .eq 26, 3) := by decide +kernel
theorem dX3_isIn_7 : decode cX3_isIn 7 = .ok (.iload_n 1, 1) := by decide +kernel
theorem dX3_isIn_8 : decode cX3_isIn 8 = .ok (.aload_n 0, 1) := by decide +kernel
theorem dX3_isIn_9 : decode cX3_isIn 9 = .ok (.getfield 72, 3) := by decide +kernel
theorem dX3_isIn_12 : decode cX3_isIn 12 = .ok (.if_icmp .gt 18, 3) := by decide +kernel
theorem dX3_isIn_15 : decode cX3_isIn 15 = .ok (.iload_n 1, 1) := by decide +kernel
theorem dX3_isIn_16 : decode cX3_isIn 16 = .ok (.aload_n 0, 1) := by decide +kernel
theorem dX3_isIn_17 : decode cX3_isIn 17 = .ok (.getfield 72, 3) := by decide +kernel
theorem dX3_isIn_20 : decode cX3_isIn 20 = .ok (.if_icmp .ne 44, 3) := by decide +kernel
theorem dX3_isIn_23 : decode cX3_isIn 23 = .ok (.aload_n 0, 1) := by decide +kernel
theorem dX3_isIn_24 : decode cX3_isIn 24 = .ok (.getfield 75, 3) := by decide +kernel
theorem dX3_isIn_27 : decode cX3_isIn 27 = .ok (.ifCond .eq 37, 3) := by decide +kernel
theorem dX3_isIn_30 : decode cX3_isIn 30 = .ok (.aload_n 0, 1) := by decide +kernel
theorem dX3_isIn_31 : decode cX3_isIn 31 = .ok (.getfield 56, 3) := by decide +kernel
theorem dX3_isIn_34 : decode cX3_isIn 34 = .ok (.ifCond .eq 26, 3) := by decide +kernel
theorem dX3_isIn_37 : decode cX3_isIn 37 = .ok (.iload_n 1, 1) := by decide +kernel
theorem dX3_isIn_38 : decode cX3_isIn 38 = .ok (.aload_n 0, 1) := by decide +kernel
theorem dX3_isIn_39 : decode cX3_isIn 39 = .ok (.getfield 78, 3) := by decide +kernel
theorem dX3_isIn_42 : decode cX3_isIn 42 = .ok (.if_icmp .lt 18, 3) := by decide +kernel
theorem dX3_isIn_45 : decode cX3_isIn 45 = .ok (.iload_n 1, 1) := by decide +kernel
theorem dX3_isIn_46 : decode cX3_isIn 46 = .ok (.aload_n 0, 1) := by decide +kernel
theorem dX3_isIn_47 : decode cX3_isIn 47 = .ok (.getfield 78, 3) := by decide +kernel
theorem dX3_isIn_50 : decode cX3_isIn 50 = .ok (.if_icmp .ne 14, 3) := by decide +kernel
theorem dX3_isIn_53 : decode cX3_isIn 53 = .ok (.aload_n 0, 1) := by decide +kernel
theorem dX3_isIn_54 : decode cX3_isIn 54 = .ok (.getfield 81, 3) := by decide +kernel
theorem dX3_isIn_57 : decode cX3_isIn 57 = .ok (.ifCond .eq 7, 3) := by decide +kernel
theorem dX3_isIn_60 : decode cX3_isIn 60 = .ok (.iconst 1, 1) := by decide +kernel
theorem dX3_isIn_61 : decode cX3_isIn 61 = .ok (.goto 4, 3) := by decide +kernel
theorem dX3_isIn_64 : decode cX3_isIn 64 = .ok (.iconst 0, 1) := by decide +kernel
theorem dX3_isIn_65 : decode cX3_isIn 65 = .ok (.ireturn, 1) := by decide +kernel
set_option maxRecDepth 20000 in
theorem ggX3_mayEnd_X3_isIn : GoodIn wsX3_mayEnd wsX3_isIn := goodIn_r _ [9, 1, 2, 10, 3, 4, 11, 12, 13, 14, 15, 16, 17, 18, 19, 20, 21] (by decide +kernel) (by decide +kernel)
set_option maxRecDepth 20000 in
theorem gX3_mayEnd_X3_isIn : GoodIn wsX3_mayEnd (wsV RX3 84 RX3 yX3_isIn wsX3_isIn) := goodIn_app (goodIn_of _ (by decide +kernel)) ggX3_mayEnd_X3_isIn
theorem dX3_mayEnd_0 : decode cX3_mayEnd 0 = .ok (.iload_n 2, 1) := by decide +kernel
theorem dX3_mayEnd_1 : decode cX3_mayEnd 1 = .ok (.ifCond .eq 11, 3) := by decide +kernel
theorem dX3_mayEnd_4 : decode cX3_mayEnd 4 = .ok (.aload_n 0, 1) := by decide +kernel
theorem dX3_mayEnd_5 : decode cX3_mayEnd 5 = .ok (.iload_n 1, 1) := by decide +kernel
theorem dX3_mayEnd_6 : decode cX3_mayEnd 6 = .ok (.invokevirtual 84, 3) := by decide +kernel
theorem dX3_mayEnd_9 : decode cX3_mayEnd 9 = .ok (.goto 38, 3) := by decide +kernel
theorem dX3_mayEnd_12 : decode cX3_mayEnd 12 = .ok (.aload_n 0, 1) := by decide +kernel
theorem dX3_mayEnd_13 : decode cX3_mayEnd 13 = .ok (.getfield 52, 3) := by decide +kernel
theorem dX3_mayEnd_16 : decode cX3_mayEnd 16 = .ok (.ifCond .eq 11, 3) := by decide +kernel
theorem dX3_mayEnd_19 : decode cX3_mayEnd 19 = .ok (.iload_n 1, 1) := by decide +kernel
theorem dX3_mayEnd_20 : decode cX3_mayEnd 20 = .ok (.aload_n 0, 1) := by decide +kernel
theorem dX3_mayEnd_21 : decode cX3_mayEnd 21 = .ok (.getfield 72, 3) := by decide +kernel
theorem dX3_mayEnd_24 : decode cX3_mayEnd 24 = .ok (.if_icmp .lt 22, 3) := by decide +kernel
theorem dX3_mayEnd_27 : decode cX3_mayEnd 27 = .ok (.aload_n 0, 1) := by decide +kernel
theorem dX3_mayEnd_28 : decode cX3_mayEnd 28 = .ok (.getfield 56, 3) := by decide +kernel
theorem dX3_mayEnd_31 : decode cX3_mayEnd 31 = .ok (.ifCond .eq 11, 3) := by decide +kernel
theorem dX3_mayEnd_34 : decode cX3_mayEnd 34 = .ok (.iload_n 1, 1) := by decide +kernel
theorem dX3_mayEnd_35 : decode cX3_mayEnd 35 = .ok (.aload_n 0, 1) := by decide +kernel
theorem dX3_mayEnd_36 : decode cX3_mayEnd 36 = .ok (.getfield 78, 3) := by decide +kernel
theorem dX3_mayEnd_39 : decode cX3_mayEnd 39 = .ok (.if_icmp .gt 7, 3) := by decide +kernel
theorem dX3_mayEnd_42 : decode cX3_mayEnd 42 = .ok (.iconst 1, 1) := by decide +kernel
theorem dX3_mayEnd_43 : decode cX3_mayEnd 43 = .ok (.goto 4, 3) := by decide +kernel
theorem dX3_mayEnd_46 : decode cX3_mayEnd 46 = .ok (.iconst 0, 1) := by decide +kernel
theorem dX3_mayEnd_47 : decode cX3_mayEnd 47 = .ok (.ireturn, 1) := by decide +kernel
set_option maxRecDepth 20000 in
theorem ggX3_narrow_X3_mayEnd : GoodIn wsX3_narrow wsX3_mayEnd := goodIn_r _ [6, 7, 8, 9, 10, 11, 12, 13, 5, 14, 15, 16, 25, 26, 27, 28, 29, 30, 31, 32, 33, 34] (by decide +kernel) (by decide +kernel)
set_option maxRecDepth 20000 in
theorem gX3_narrow_X3_mayEnd : GoodIn wsX3_narrow (wsV RX3 88 RX3 yX3_mayEnd wsX3_mayEnd) := goodIn_app (goodIn_of _ (by decide +kernel)) ggX3_narrow_X3_mayEnd
set_option maxRecDepth 20000 in
theorem ggX3_narrow_X3_end : GoodIn wsX3_narrow wsX3_end := goodIn_r _ [20, 9, 10, 16, 25, 26, 27, 28, 29, 30, 31, 32, 33, 34] (by decide +kernel) (by decide +kernel)
set_option maxRecDepth 20000 in
theorem gX3_narrow_X3_end : GoodIn wsX3_narrow (wsV RX3 69 RX3 yX3_end wsX3_end) := goodIn_app (goodIn_of _ (by decide +kernel)) ggX3_narrow_X3_end
set_option maxRecDepth 20000 in
theorem ggX3_narrow_X3_begin : GoodIn wsX3_narrow wsX3_begin := goodIn_r _ [24, 7, 8, 15, 25, 26, 27, 28, 29, 30, 31, 32, 33, 34] (by decide +kernel) (by decide +kernel)
set_option maxRecDepth 20000 in
theorem gX3_narrow_X3_begin : GoodIn wsX3_narrow (wsV RX3 65 RX3 yX3_begin wsX3_begin) := goodIn_app (goodIn_of _ (by decide +kernel)) ggX3_narrow_X3_begin
theorem dX3_narrow_0 : decode cX3_narrow 0 = .ok (.iload_n 1, 1) := by decide +kernel
theorem dX3_narrow_1 : decode cX3_narrow 1 = .ok (.ifCond .lt 40, 3) := by decide +kernel
theorem dX3_narrow_4 : decode cX3_narrow 4 = .ok (.iload_n 1, 1) := by decide +kernel
theorem dX3_narrow_5 : decode cX3_narrow 5 = .ok (.iconst 3, 1) := by decide +kernel
theorem dX3_narrow_6 : decode cX3_narrow 6 = .ok (.if_icmp .gt 35, 3) := by decide +kernel
theorem dX3_narrow_9 : decode cX3_narrow 9 = .ok (.iload_n 1, 1) := by decide +kernel
theorem dX3_narrow_10 : decode cX3_narrow 10 = .ok (.iconst 1, 1) := by decide +kernel
theorem dX3_narrow_11 : decode cX3_narrow 11 = .ok (.if_icmp .le 12, 3) := by decide +kernel
theorem dX3_narrow_14 : decode cX3_narrow 14 = .ok (.aload_n 0, 1) := by decide +kernel
theorem dX3_narrow_15 : decode cX3_narrow 15 = .ok (.iload_n 2, 1) := by decide +kernel
theorem dX3_narrow_16 : decode cX3_narrow 16 = .ok (.iload_n 3, 1) := by decide +kernel
theorem dX3_narrow_17 : decode cX3_narrow 17 = .ok (.invokevirtual 88, 3) := by decide +kernel
theorem dX3_narrow_20 : decode cX3_narrow 20 = .ok (.ifCond .eq 21, 3) := by decide +kernel
theorem dX3_narrow_23 : decode cX3_narrow 23 = .ok (.iload_n 1, 1) := by decide +kernel
theorem dX3_narrow_24 : decode cX3_narrow 24 = .ok (.iconst 1, 1) := by decide +kernel
theorem dX3_narrow_25 : decode cX3_narrow 25 = .ok (.iand, 1) := by decide +kernel
theorem dX3_narrow_26 : decode cX3_narrow 26 = .ok (.iconst 1, 1) := by decide +kernel
theorem dX3_narrow_27 : decode cX3_narrow 27 = .ok (.if_icmp .ne 16, 3) := by decide +kernel
theorem dX3_narrow_30 : decode cX3_narrow 30 = .ok (.aload_n 0, 1) := by decide +kernel
theorem dX3_narrow_31 : decode cX3_narrow 31 = .ok (.iload 4, 2) := by decide +kernel
theorem dX3_narrow_33 : decode cX3_narrow 33 = .ok (.iload 5, 2) := by decide +kernel
theorem dX3_narrow_35 : decode cX3_narrow 35 = .ok (.invokevirtual 88, 3) := by decide +kernel
theorem dX3_narrow_38 : decode cX3_narrow 38 = .ok (.ifCond .ne 5, 3) := by decide +kernel
theorem dX3_narrow_41 : decode cX3_narrow 41 = .ok (.iconst 1, 1) := by decide +kernel
theorem dX3_narrow_42 : decode cX3_narrow 42 = .ok (.ireturn, 1) := by decide +kernel
theorem dX3_narrow_43 : decode cX3_narrow 43 = .ok (.iload_n 1, 1) := by decide +kernel
theorem dX3_narrow_44 : decode cX3_narrow 44 = .ok (.iconst 3, 1) := by decide +kernel
theorem dX3_narrow_45 : decode cX3_narrow 45 = .ok (.if_icmp .ne 27, 3) := by decide +kernel
theorem dX3_narrow_48 : decode cX3_narrow 48 = .ok (.aload_n 0, 1) := by decide +kernel
theorem dX3_narrow_49 : decode cX3_narrow 49 = .ok (.getfield 59, 3) := by decide +kernel
theorem dX3_narrow_52 : decode cX3_narrow 52 = .ok (.ifCond .eq 12, 3) := by decide +kernel
theorem dX3_narrow_55 : decode cX3_narrow 55 = .ok (.iload_n 2, 1) := by decide +kernel
theorem dX3_narrow_56 : decode cX3_narrow 56 = .ok (.iload 4, 2) := by decide +kernel
theorem dX3_narrow_58 : decode cX3_narrow 58 = .ok (.if_icmp .ge 14, 3) := by decide +kernel
theorem dX3_narrow_61 : decode cX3_narrow 61 = .ok (.goto 9, 3) := by decide +kernel
theorem dX3_narrow_64 : decode cX3_narrow 64 = .ok (.iload_n 2, 1) := by decide +kernel
theorem dX3_narrow_65 : decode cX3_narrow 65 = .ok (.iload 4, 2) := by decide +kernel
theorem dX3_narrow_67 : decode cX3_narrow 67 = .ok (.if_icmp .le 5, 3) := by decide +kernel
theorem dX3_narrow_70 : decode cX3_narrow 70 = .ok (.iconst 1, 1) := by decide +kernel
theorem dX3_narrow_71 : decode cX3_narrow 71 = .ok (.ireturn, 1) := by decide +kernel
theorem dX3_narrow_72 : decode cX3_narrow 72 = .ok (.iload_n 1, 1) := by decide +kernel
theorem dX3_narrow_73 : decode cX3_narrow 73 = .ok (.iconst 1, 1) := by decide +kernel
theorem dX3_narrow_74 : decode cX3_narrow 74 = .ok (.if_icmp .le 19, 3) := by decide +kernel
theorem dX3_narrow_77 : decode cX3_narrow 77 = .ok (.aload_n 0, 1) := by decide +kernel
theorem dX3_narrow_78 : decode cX3_narrow 78 = .ok (.getfield 59, 3) := by decide +kernel
theorem dX3_narrow_81 : decode cX3_narrow 81 = .ok (.ifCond .eq 12, 3) := by decide +kernel
theorem dX3_narrow_84 : decode cX3_narrow 84 = .ok (.aload_n 0, 1) := by decide +kernel
theorem dX3_narrow_85 : decode cX3_narrow 85 = .ok (.iload_n 2, 1) := by decide +kernel
theorem dX3_narrow_86 : decode cX3_narrow 86 = .ok (.iload_n 3, 1) := by decide +kernel
theorem dX3_narrow_87 : decode cX3_narrow 87 = .ok (.invokevirtual 69, 3) := by decide +kernel
theorem dX3_narrow_90 : decode cX3_narrow 90 = .ok (.goto 14, 3) := by decide +kernel
theorem dX3_narrow_93 : decode cX3_narrow 93 = .ok (.iload_n 1, 1) := by decide +kernel
theorem dX3_narrow_94 : decode cX3_narrow 94 = .ok (.iconst 1, 1) := by decide +kernel
theorem dX3_narrow_95 : decode cX3_narrow 95 = .ok (.if_icmp .le 9, 3) := by decide +kernel
theorem dX3_narrow_98 : decode cX3_narrow 98 = .ok (.aload_n 0, 1) := by decide +kernel
theorem dX3_narrow_99 : decode cX3_narrow 99 = .ok (.iload_n 2, 1) := by decide +kernel
theorem dX3_narrow_100 : decode cX3_narrow 100 = .ok (.iload_n 3, 1) := by decide +kernel
theorem dX3_narrow_101 : decode cX3_narrow 101 = .ok (.invokevirtual 65, 3) := by decide +kernel
theorem dX3_narrow_104 : decode cX3_narrow 104 = .ok (.iload_n 1, 1) := by decide +kernel
theorem dX3_narrow_105 : decode cX3_narrow 105 = .ok (.iconst 1, 1) := by decide +kernel
theorem dX3_narrow_106 : decode cX3_narrow 106 = .ok (.iand, 1) := by decide +kernel
theorem dX3_narrow_107 : decode cX3_narrow 107 = .ok (.iconst 1, 1) := by decide +kernel
theorem dX3_narrow_108 : decode cX3_narrow 108 = .ok (.if_icmp .ne 21, 3) := by decide +kernel
theorem dX3_narrow_111 : decode cX3_narrow 111 = .ok (.aload_n 0, 1) := by decide +kernel
theorem dX3_narrow_112 : decode cX3_narrow 112 = .ok (.getfield 59, 3) := by decide +kernel
theorem dX3_narrow_115 : decode cX3_narrow 115 = .ok (.ifCond .eq 14, 3) := by decide +kernel
theorem dX3_narrow_118 : decode cX3_narrow 118 = .ok (.aload_n 0, 1) := by decide +kernel
theorem dX3_narrow_119 : decode cX3_narrow 119 = .ok (.iload 4, 2) := by decide +kernel
theorem dX3_narrow_121 : decode cX3_narrow 121 = .ok (.iload 5, 2) := by decide +kernel
theorem dX3_narrow_123 : decode cX3_narrow 123 = .ok (.invokevirtual 65, 3) := by decide +kernel
theorem dX3_narrow_126 : decode cX3_narrow 126 = .ok (.goto 18, 3) := by decide +kernel
theorem dX3_narrow_129 : decode cX3_narrow 129 = .ok (.iload_n 1, 1) := by decide +kernel
theorem dX3_narrow_130 : decode cX3_narrow 130 = .ok (.iconst 1, 1) := by decide +kernel
theorem dX3_narrow_131 : decode cX3_narrow 131 = .ok (.iand, 1) := by decide +kernel
theorem dX3_narrow_132 : decode cX3_narrow 132 = .ok (.iconst 1, 1) := by decide +kernel
theorem dX3_narrow_133 : decode cX3_narrow 133 = .ok (.if_icmp .ne 11, 3) := by decide +kernel
end
section
theorem dX3_narrow_136 : decode cX3_narrow 136 = .ok (.aload_n 0, 1) := by decide +kernel
theorem dX3_narrow_137 : decode cX3_narrow 137 = .ok (.iload 4, 2) := by decide +kernel
theorem dX3_narrow_139 : decode cX3_narrow 139 = .ok (.iload 5, 2) := by decide +kernel
theorem dX3_narrow_141 : decode cX3_narrow 141 = .ok (.invokevirtual 69, 3) := by decide +kernel
theorem dX3_narrow_144 : decode cX3_narrow 144 = .ok (.iconst 0, 1) := by decide +kernel
theorem dX3_narrow_145 : decode cX3_narrow 145 = .ok (.ireturn, 1) := by decide +kernel
set_option maxRecDepth 20000 in
theorem ggX3_turn_X3_viewSize : GoodIn wsX3_turn wsX3_viewSize := goodIn_r _ [6, 7, 8, 9, 5, 10, 11, 12, 13, 14, 15, 16, 17, 18, 19, 20, 21, 22, 23, 24, 25, 26, 27, 28, 29, 30, 31, 32, 33, 34, 35, 36] (by decide +kernel) (by decide +kernel)
set_option maxRecDepth 20000 in
theorem gX3_turn_X3_viewSize : GoodIn wsX3_turn (wsV RX3 92 RX3 yX3_viewSize wsX3_viewSize) := goodIn_app (goodIn_of _ (by decide +kernel)) ggX3_turn_X3_viewSize
theorem dX3_turn_0 : decode cX3_turn 0 = .ok (.aload_n 0, 1) := by decide +kernel
theorem dX3_turn_1 : decode cX3_turn 1 = .ok (.aload_n 0, 1) := by decide +kernel
theorem dX3_turn_2 : decode cX3_turn 2 = .ok (.getfield 59, 3) := by decide +kernel
theorem dX3_turn_5 : decode cX3_turn 5 = .ok (.ifCond .ne 7, 3) := by decide +kernel
theorem dX3_turn_8 : decode cX3_turn 8 = .ok (.iconst 1, 1) := by decide +kernel
theorem dX3_turn_9 : decode cX3_turn 9 = .ok (.goto 4, 3) := by decide +kernel
theorem dX3_turn_12 : decode cX3_turn 12 = .ok (.iconst 0, 1) := by decide +kernel
theorem dX3_turn_13 : decode cX3_turn 13 = .ok (.putfield 59, 3) := by decide +kernel
theorem dX3_turn_16 : decode cX3_turn 16 = .ok (.aload_n 0, 1) := by decide +kernel
theorem dX3_turn_17 : decode cX3_turn 17 = .ok (.invokevirtual 92, 3) := by decide +kernel
theorem dX3_turn_20 : decode cX3_turn 20 = .ok (.ireturn, 1) := by decide +kernel
set_option maxRecDepth 20000 in
theorem ggX3_first_X3_isIn : GoodIn wsX3_first wsX3_isIn := goodIn_r _ [9, 10, 11, 12, 3, 4, 13, 14, 15, 16, 17, 18, 19, 20, 21, 22, 23] (by decide +kernel) (by decide +kernel)
set_option maxRecDepth 20000 in
theorem gX3_first_X3_isIn : GoodIn wsX3_first (wsV RX3 84 RX3 yX3_isIn wsX3_isIn) := goodIn_app (goodIn_of _ (by decide +kernel)) ggX3_first_X3_isIn
theorem dX3_first_0 : decode cX3_first 0 = .ok (.iconst 0, 1) := by decide +kernel
theorem dX3_first_1 : decode cX3_first 1 = .ok (.istore_n 1, 1) := by decide +kernel
theorem dX3_first_2 : decode cX3_first 2 = .ok (.iload_n 1, 1) := by decide +kernel
theorem dX3_first_3 : decode cX3_first 3 = .ok (.aload_n 0, 1) := by decide +kernel
theorem dX3_first_4 : decode cX3_first 4 = .ok (.getfield 16, 3) := by decide +kernel
theorem dX3_first_7 : decode cX3_first 7 = .ok (.if_icmp .ge 42, 3) := by decide +kernel
theorem dX3_first_10 : decode cX3_first 10 = .ok (.aload_n 0, 1) := by decide +kernel
theorem dX3_first_11 : decode cX3_first 11 = .ok (.aload_n 0, 1) := by decide +kernel
theorem dX3_first_12 : decode cX3_first 12 = .ok (.getfield 9, 3) := by decide +kernel
theorem dX3_first_15 : decode cX3_first 15 = .ok (.iload_n 1, 1) := by decide +kernel
theorem dX3_first_16 : decode cX3_first 16 = .ok (.iaload, 1) := by decide +kernel
theorem dX3_first_17 : decode cX3_first 17 = .ok (.invokevirtual 84, 3) := by decide +kernel
theorem dX3_first_20 : decode cX3_first 20 = .ok (.ifCond .ne 29, 3) := by decide +kernel
theorem dX3_first_23 : decode cX3_first 23 = .ok (.aload_n 0, 1) := by decide +kernel
theorem dX3_first_24 : decode cX3_first 24 = .ok (.getfield 56, 3) := by decide +kernel
theorem dX3_first_27 : decode cX3_first 27 = .ok (.ifCond .eq 16, 3) := by decide +kernel
theorem dX3_first_30 : decode cX3_first 30 = .ok (.aload_n 0, 1) := by decide +kernel
theorem dX3_first_31 : decode cX3_first 31 = .ok (.getfield 9, 3) := by decide +kernel
theorem dX3_first_34 : decode cX3_first 34 = .ok (.iload_n 1, 1) := by decide +kernel
theorem dX3_first_35 : decode cX3_first 35 = .ok (.iaload, 1) := by decide +kernel
theorem dX3_first_36 : decode cX3_first 36 = .ok (.aload_n 0, 1) := by decide +kernel
theorem dX3_first_37 : decode cX3_first 37 = .ok (.getfield 78, 3) := by decide +kernel
theorem dX3_first_40 : decode cX3_first 40 = .ok (.if_icmp .gt 9, 3) := by decide +kernel
theorem dX3_first_43 : decode cX3_first 43 = .ok (.iinc 1 1, 3) := by decide +kernel
theorem dX3_first_46 : decode cX3_first 46 = .ok (.goto (-44), 3) := by decide +kernel
theorem dX3_first_49 : decode cX3_first 49 = .ok (.iload_n 1, 1) := by decide +kernel
theorem dX3_first_50 : decode cX3_first 50 = .ok (.ireturn, 1) := by decide +kernel
set_option maxRecDepth 20000 in
theorem ggX3_behind_X3_first : GoodIn wsX3_behind wsX3_first := goodIn_r _ [7, 1, 2, 8, 9, 10, 11, 12, 6, 13, 14, 15, 16, 17, 18, 19, 20, 21, 22, 23, 24, 25, 26, 27] (by decide +kernel) (by decide +kernel)
set_option maxRecDepth 20000 in
theorem gX3_behind_X3_first : GoodIn wsX3_behind (wsV RX3 96 RX3 yX3_first wsX3_first) := goodIn_app (goodIn_of _ (by decide +kernel)) ggX3_behind_X3_first
set_option maxRecDepth 20000 in
theorem ggX3_behind_X3_isIn : GoodIn wsX3_behind wsX3_isIn := goodIn_r _ [13, 14, 15, 16, 8, 9, 17, 18, 19, 20, 21, 22, 23, 24, 25, 26, 27] (by decide +kernel) (by decide +kernel)
set_option maxRecDepth 20000 in
theorem gX3_behind_X3_isIn : GoodIn wsX3_behind (wsV RX3 84 RX3 yX3_isIn wsX3_isIn) := goodIn_app (goodIn_of _ (by decide +kernel)) ggX3_behind_X3_isIn
theorem dX3_behind_0 : decode cX3_behind 0 = .ok (.aload_n 0, 1) := by decide +kernel
theorem dX3_behind_1 : decode cX3_behind 1 = .ok (.invokevirtual 96, 3) := by decide +kernel
theorem dX3_behind_4 : decode cX3_behind 4 = .ok (.istore_n 1, 1) := by decide +kernel
theorem dX3_behind_5 : decode cX3_behind 5 = .ok (.iload_n 1, 1) := by decide +kernel
theorem dX3_behind_6 : decode cX3_behind 6 = .ok (.aload_n 0, 1) := by decide +kernel
theorem dX3_behind_7 : decode cX3_behind 7 = .ok (.getfield 16, 3) := by decide +kernel
theorem dX3_behind_10 : decode cX3_behind 10 = .ok (.if_icmp .ge 22, 3) := by decide +kernel
theorem dX3_behind_13 : decode cX3_behind 13 = .ok (.aload_n 0, 1) := by decide +kernel
theorem dX3_behind_14 : decode cX3_behind 14 = .ok (.aload_n 0, 1) := by decide +kernel
theorem dX3_behind_15 : decode cX3_behind 15 = .ok (.getfield 9, 3) := by decide +kernel
theorem dX3_behind_18 : decode cX3_behind 18 = .ok (.iload_n 1, 1) := by decide +kernel
theorem dX3_behind_19 : decode cX3_behind 19 = .ok (.iaload, 1) := by decide +kernel
theorem dX3_behind_20 : decode cX3_behind 20 = .ok (.invokevirtual 84, 3) := by decide +kernel
theorem dX3_behind_23 : decode cX3_behind 23 = .ok (.ifCond .eq 9, 3) := by decide +kernel
theorem dX3_behind_26 : decode cX3_behind 26 = .ok (.iinc 1 1, 3) := by decide +kernel
theorem dX3_behind_29 : decode cX3_behind 29 = .ok (.goto (-24), 3) := by decide +kernel
theorem dX3_behind_32 : decode cX3_behind 32 = .ok (.iload_n 1, 1) := by decide +kernel
theorem dX3_behind_33 : decode cX3_behind 33 = .ok (.ireturn, 1) := by decide +kernel
set_option maxRecDepth 20000 in
theorem ggX3_viewSize_X3_behind : GoodIn wsX3_viewSize wsX3_behind := goodIn_r _ [5, 6, 7, 8, 9, 10, 4, 11, 12, 13, 14, 15, 16, 17, 18, 19, 20, 21, 22, 23, 24, 25, 26, 27, 28, 29, 30, 31] (by decide +kernel) (by decide +kernel)
set_option maxRecDepth 20000 in
theorem gX3_viewSize_X3_behind : GoodIn wsX3_viewSize (wsV RX3 99 RX3 yX3_behind wsX3_behind) := goodIn_app (goodIn_of _ (by decide +kernel)) ggX3_viewSize_X3_behind
set_option maxRecDepth 20000 in
theorem ggX3_viewSize_X3_first : GoodIn wsX3_viewSize wsX3_first := goodIn_r _ [11, 6, 7, 12, 13, 14, 15, 16, 4, 17, 18, 19, 20, 21, 22, 23, 24, 25, 26, 27, 28, 29, 30, 31] (by decide +kernel) (by decide +kernel)
set_option maxRecDepth 20000 in
theorem gX3_viewSize_X3_first : GoodIn wsX3_viewSize (wsV RX3 96 RX3 yX3_first wsX3_first) := goodIn_app (goodIn_of _ (by decide +kernel)) ggX3_viewSize_X3_first
theorem dX3_viewSize_0 : decode cX3_viewSize 0 = .ok (.aload_n 0, 1) := by decide +kernel
theorem dX3_viewSize_1 : decode cX3_viewSize 1 = .ok (.invokevirtual 99, 3) := by decide +kernel
theorem dX3_viewSize_4 : decode cX3_viewSize 4 = .ok (.aload_n 0, 1) := by decide +kernel
theorem dX3_viewSize_5 : decode cX3_viewSize 5 = .ok (.invokevirtual 96, 3) := by decide +kernel
theorem dX3_viewSize_8 : decode cX3_viewSize 8 = .ok (.isub, 1) := by decide +kernel
theorem dX3_viewSize_9 : decode cX3_viewSize 9 = .ok (.ireturn, 1) := by decide +kernel
set_option maxRecDepth 20000 in
theorem ggX3_viewPut_X3_isIn : GoodIn wsX3_viewPut wsX3_isIn := goodIn_r _ [6, 7, 8, 9, 10, 11, 12, 52, 53, 54, 55, 56, 57, 58, 59, 60, 61] (by decide +kernel) (by decide +kernel)
set_option maxRecDepth 20000 in
theorem gX3_viewPut_X3_isIn : GoodIn wsX3_viewPut (wsV RX3 84 RX3 yX3_isIn wsX3_isIn) := goodIn_app (goodIn_of _ (by decide +kernel)) ggX3_viewPut_X3_isIn
set_option maxRecDepth 20000 in
theorem ggX3_viewPut_X3_put : GoodIn wsX3_viewPut wsX3_put := goodIn_r _ [16, 17, 18, 19, 20, 21, 5, 22, 23, 24, 25, 26, 27, 28, 29, 30, 31, 32, 33, 34, 35, 36, 37, 38, 39, 40, 41, 42, 43, 44, 45, 46, 47, 48, 49, 50, 51, 52, 53, 54, 55, 56, 57, 58, 59, 60, 61] (by decide +kernel) (by decide +kernel)
set_option maxRecDepth 20000 in
theorem gX3_viewPut_X3_put : GoodIn wsX3_viewPut (wsV RX3 102 RX3 yX3_put wsX3_put) := goodIn_app (goodIn_of _ (by decide +kernel)) ggX3_viewPut_X3_put
theorem dX3_viewPut_0 : decode cX3_viewPut 0 = .ok (.aload_n 0, 1) := by decide +kernel
theorem dX3_viewPut_1 : decode cX3_viewPut 1 = .ok (.iload_n 1, 1) := by decide +kernel
theorem dX3_viewPut_2 : decode cX3_viewPut 2 = .ok (.invokevirtual 84, 3) := by decide +kernel
theorem dX3_viewPut_5 : decode cX3_viewPut 5 = .ok (.ifCond .eq 12, 3) := by decide +kernel
theorem dX3_viewPut_8 : decode cX3_viewPut 8 = .ok (.aload_n 0, 1) := by decide +kernel
theorem dX3_viewPut_9 : decode cX3_viewPut 9 = .ok (.iload_n 1, 1) := by decide +kernel
theorem dX3_viewPut_10 : decode cX3_viewPut 10 = .ok (.iload_n 2, 1) := by decide +kernel
theorem dX3_viewPut_11 : decode cX3_viewPut 11 = .ok (.invokevirtual 102, 3) := by decide +kernel
theorem dX3_viewPut_14 : decode cX3_viewPut 14 = .ok (.goto 6, 3) := by decide +kernel
theorem dX3_viewPut_17 : decode cX3_viewPut 17 = .ok (.ldc2_w 106, 3) := by decide +kernel
theorem dX3_viewPut_20 : decode cX3_viewPut 20 = .ok (.lreturn, 1) := by decide +kernel
set_option maxRecDepth 20000 in
theorem ggX3_viewGet_X3_isIn : GoodIn wsX3_viewGet wsX3_isIn := goodIn_r _ [6, 7, 8, 9, 10, 11, 12, 28, 29, 30, 31, 32, 33, 34, 35, 36, 37] (by decide +kernel) (by decide +kernel)
set_option maxRecDepth 20000 in
theorem gX3_viewGet_X3_isIn : GoodIn wsX3_viewGet (wsV RX3 84 RX3 yX3_isIn wsX3_isIn) := goodIn_app (goodIn_of _ (by decide +kernel)) ggX3_viewGet_X3_isIn
set_option maxRecDepth 20000 in
theorem ggX3_viewGet_X3_get : GoodIn wsX3_viewGet wsX3_get := goodIn_r _ [16, 17, 1, 18, 19, 20, 5, 21, 22, 23, 24, 25, 26, 27, 28, 29, 30, 31, 32, 33, 34, 35, 36, 37] (by decide +kernel) (by decide +kernel)
set_option maxRecDepth 20000 in
theorem gX3_viewGet_X3_get : GoodIn wsX3_viewGet (wsV RX3 108 RX3 yX3_get wsX3_get) := goodIn_app (goodIn_of _ (by decide +kernel)) ggX3_viewGet_X3_get
theorem dX3_viewGet_0 : decode cX3_viewGet 0 = .ok (.aload_n 0, 1) := by decide +kernel
theorem dX3_viewGet_1 : decode cX3_viewGet 1 = .ok (.iload_n 1, 1) := by decide +kernel
theorem dX3_viewGet_2 : decode cX3_viewGet 2 = .ok (.invokevirtual 84, 3) := by decide +kernel
theorem dX3_viewGet_5 : decode cX3_viewGet 5 = .ok (.ifCond .eq 11, 3) := by decide +kernel
theorem dX3_viewGet_8 : decode cX3_viewGet 8 = .ok (.aload_n 0, 1) := by decide +kernel
theorem dX3_viewGet_9 : decode cX3_viewGet 9 = .ok (.iload_n 1, 1) := by decide +kernel
theorem dX3_viewGet_10 : decode cX3_viewGet 10 = .ok (.invokevirtual 108, 3) := by decide +kernel
theorem dX3_viewGet_13 : decode cX3_viewGet 13 = .ok (.goto 6, 3) := by decide +kernel
theorem dX3_viewGet_16 : decode cX3_viewGet 16 = .ok (.ldc2_w 38, 3) := by decide +kernel
theorem dX3_viewGet_19 : decode cX3_viewGet 19 = .ok (.lreturn, 1) := by decide +kernel
set_option maxRecDepth 20000 in
theorem ggX3_viewRemove_X3_isIn : GoodIn wsX3_viewRemove wsX3_isIn := goodIn_r _ [6, 7, 8, 9, 10, 11, 12, 32, 33, 34, 35, 36, 37, 38, 39, 40, 41] (by decide +kernel) (by decide +kernel)
set_option maxRecDepth 20000 in
theorem gX3_viewRemove_X3_isIn : GoodIn wsX3_viewRemove (wsV RX3 84 RX3 yX3_isIn wsX3_isIn) := goodIn_app (goodIn_of _ (by decide +kernel)) ggX3_viewRemove_X3_isIn
set_option maxRecDepth 20000 in
theorem ggX3_viewRemove_X3_remove : GoodIn wsX3_viewRemove wsX3_remove := goodIn_r _ [16, 1, 17, 18, 19, 20, 5, 21, 22, 23, 24, 25, 26, 27, 28, 29, 30, 31, 32, 33, 34, 35, 36, 37, 38, 39, 40, 41] (by decide +kernel) (by decide +kernel)
set_option maxRecDepth 20000 in
theorem gX3_viewRemove_X3_remove : GoodIn wsX3_viewRemove (wsV RX3 112 RX3 yX3_remove wsX3_remove) := goodIn_app (goodIn_of _ (by decide +kernel)) ggX3_viewRemove_X3_remove
theorem dX3_viewRemove_0 : decode cX3_viewRemove 0 = .ok (.aload_n 0, 1) := by decide +kernel
theorem dX3_viewRemove_1 : decode cX3_viewRemove 1 = .ok (.iload_n 1, 1) := by decide +kernel
theorem dX3_viewRemove_2 : decode cX3_viewRemove 2 = .ok (.invokevirtual 84, 3) := by decide +kernel
theorem dX3_viewRemove_5 : decode cX3_viewRemove 5 = .ok (.ifCond .eq 11, 3) := by decide +kernel
theorem dX3_viewRemove_8 : decode cX3_viewRemove 8 = .ok (.aload_n 0, 1) := by decide +kernel
theorem dX3_viewRemove_9 : decode cX3_viewRemove 9 = .ok (.iload_n 1, 1) := by decide +kernel
theorem dX3_viewRemove_10 : decode cX3_viewRemove 10 = .ok (.invokevirtual 112, 3) := by decide +kernel
theorem dX3_viewRemove_13 : decode cX3_viewRemove 13 = .ok (.goto 6, 3) := by decide +kernel
theorem dX3_viewRemove_16 : decode cX3_viewRemove 16 = .ok (.ldc2_w 38, 3) := by decide +kernel
theorem dX3_viewRemove_19 : decode cX3_viewRemove 19 = .ok (.lreturn, 1) := by decide +kernel
set_option maxRecDepth 20000 in
theorem ggX3_viewNear_X3_first : GoodIn wsX3_viewNear wsX3_first := goodIn_r _ [7, 8, 9, 10, 11, 12, 13, 14, 6, 15, 16, 17, 18, 19, 32, 33, 34, 35, 36, 37, 38, 39, 40, 41] (by decide +kernel) (by decide +kernel)
set_option maxRecDepth 20000 in
theorem gX3_viewNear_X3_first : GoodIn wsX3_viewNear (wsV RX3 96 RX3 yX3_first wsX3_first) := goodIn_app (goodIn_of _ (by decide +kernel)) ggX3_viewNear_X3_first
set_option maxRecDepth 20000 in
theorem ggX3_viewNear_X3_behind : GoodIn wsX3_viewNear wsX3_behind := goodIn_r _ [23, 8, 9, 3, 4, 5, 6, 7, 10, 11, 12, 13, 14, 15, 16, 17, 18, 19, 32, 33, 34, 35, 36, 37, 38, 39, 40, 41] (by decide +kernel) (by decide +kernel)
set_option maxRecDepth 20000 in
theorem gX3_viewNear_X3_behind : GoodIn wsX3_viewNear (wsV RX3 99 RX3 yX3_behind wsX3_behind) := goodIn_app (goodIn_of _ (by decide +kernel)) ggX3_viewNear_X3_behind
set_option maxRecDepth 20000 in
theorem ggX3_viewNear_X3_near : GoodIn wsX3_viewNear wsX3_near := goodIn_r _ [27, 9, 1, 28, 29, 30, 6, 31, 32, 33, 34, 35, 36, 37, 38, 39, 40, 41] (by decide +kernel) (by decide +kernel)
set_option maxRecDepth 20000 in
theorem gX3_viewNear_X3_near : GoodIn wsX3_viewNear (wsV RX3 48 RX3 yX3_near wsX3_near) := goodIn_app (goodIn_of _ (by decide +kernel)) ggX3_viewNear_X3_near
theorem dX3_viewNear_0 : decode cX3_viewNear 0 = .ok (.iload_n 1, 1) := by decide +kernel
theorem dX3_viewNear_1 : decode cX3_viewNear 1 = .ok (.ifCond .lt 8, 3) := by decide +kernel
theorem dX3_viewNear_4 : decode cX3_viewNear 4 = .ok (.iload_n 1, 1) := by decide +kernel
theorem dX3_viewNear_5 : decode cX3_viewNear 5 = .ok (.iconst 5, 1) := by decide +kernel
theorem dX3_viewNear_6 : decode cX3_viewNear 6 = .ok (.if_icmp .le 7, 3) := by decide +kernel
theorem dX3_viewNear_9 : decode cX3_viewNear 9 = .ok (.ldc2_w 38, 3) := by decide +kernel
theorem dX3_viewNear_12 : decode cX3_viewNear 12 = .ok (.lreturn, 1) := by decide +kernel
theorem dX3_viewNear_13 : decode cX3_viewNear 13 = .ok (.aload_n 0, 1) := by decide +kernel
theorem dX3_viewNear_14 : decode cX3_viewNear 14 = .ok (.aload_n 0, 1) := by decide +kernel
theorem dX3_viewNear_15 : decode cX3_viewNear 15 = .ok (.getfield 59, 3) := by decide +kernel
theorem dX3_viewNear_18 : decode cX3_viewNear 18 = .ok (.ifCond .eq 9, 3) := by decide +kernel
theorem dX3_viewNear_21 : decode cX3_viewNear 21 = .ok (.iload_n 1, 1) := by decide +kernel
theorem dX3_viewNear_22 : decode cX3_viewNear 22 = .ok (.iconst 1, 1) := by decide +kernel
theorem dX3_viewNear_23 : decode cX3_viewNear 23 = .ok (.ixor, 1) := by decide +kernel
theorem dX3_viewNear_24 : decode cX3_viewNear 24 = .ok (.goto 4, 3) := by decide +kernel
theorem dX3_viewNear_27 : decode cX3_viewNear 27 = .ok (.iload_n 1, 1) := by decide +kernel
theorem dX3_viewNear_28 : decode cX3_viewNear 28 = .ok (.iload_n 2, 1) := by decide +kernel
theorem dX3_viewNear_29 : decode cX3_viewNear 29 = .ok (.aload_n 0, 1) := by decide +kernel
theorem dX3_viewNear_30 : decode cX3_viewNear 30 = .ok (.invokevirtual 96, 3) := by decide +kernel
theorem dX3_viewNear_33 : decode cX3_viewNear 33 = .ok (.aload_n 0, 1) := by decide +kernel
theorem dX3_viewNear_34 : decode cX3_viewNear 34 = .ok (.invokevirtual 99, 3) := by decide +kernel
theorem dX3_viewNear_37 : decode cX3_viewNear 37 = .ok (.invokevirtual 48, 3) := by decide +kernel
theorem dX3_viewNear_40 : decode cX3_viewNear 40 = .ok (.lreturn, 1) := by decide +kernel
set_option maxRecDepth 20000 in
theorem ggX3_viewPoll_X3_first : GoodIn wsX3_viewPoll wsX3_first := goodIn_r _ [8, 9, 3, 10, 11, 12, 13, 14, 7, 15, 16, 17, 18, 19, 29, 30, 31, 32, 33, 34, 35, 36, 37, 38] (by decide +kernel) (by decide +kernel)
set_option maxRecDepth 20000 in
theorem gX3_viewPoll_X3_first : GoodIn wsX3_viewPoll (wsV RX3 96 RX3 yX3_first wsX3_first) := goodIn_app (goodIn_of _ (by decide +kernel)) ggX3_viewPoll_X3_first
set_option maxRecDepth 20000 in
theorem ggX3_viewPoll_X3_behind : GoodIn wsX3_viewPoll wsX3_behind := goodIn_r _ [23, 9, 3, 4, 5, 6, 7, 8, 10, 11, 12, 13, 14, 15, 16, 17, 18, 19, 29, 30, 31, 32, 33, 34, 35, 36, 37, 38] (by decide +kernel) (by decide +kernel)
set_option maxRecDepth 20000 in
theorem gX3_viewPoll_X3_behind : GoodIn wsX3_viewPoll (wsV RX3 99 RX3 yX3_behind wsX3_behind) := goodIn_app (goodIn_of _ (by decide +kernel)) ggX3_viewPoll_X3_behind
set_option maxRecDepth 20000 in
theorem ggX3_viewPoll_X3_delete : GoodIn wsX3_viewPoll wsX3_delete := goodIn_r _ [27, 9, 3, 28, 29, 30, 31, 32, 33, 34, 35, 36, 37, 38] (by decide +kernel) (by decide +kernel)
set_option maxRecDepth 20000 in
theorem gX3_viewPoll_X3_delete : GoodIn wsX3_viewPoll (wsV RX3 40 RX3 yX3_delete wsX3_delete) := goodIn_app (goodIn_of _ (by decide +kernel)) ggX3_viewPoll_X3_delete
theorem dX3_viewPoll_0 : decode cX3_viewPoll 0 = .ok (.aload_n 0, 1) := by decide +kernel
theorem dX3_viewPoll_1 : decode cX3_viewPoll 1 = .ok (.invokevirtual 96, 3) := by decide +kernel
theorem dX3_viewPoll_4 : decode cX3_viewPoll 4 = .ok (.istore_n 2, 1) := by decide +kernel
theorem dX3_viewPoll_5 : decode cX3_viewPoll 5 = .ok (.aload_n 0, 1) := by decide +kernel
theorem dX3_viewPoll_6 : decode cX3_viewPoll 6 = .ok (.invokevirtual 99, 3) := by decide +kernel
theorem dX3_viewPoll_9 : decode cX3_viewPoll 9 = .ok (.istore_n 3, 1) := by decide +kernel
theorem dX3_viewPoll_10 : decode cX3_viewPoll 10 = .ok (.iload_n 2, 1) := by decide +kernel
theorem dX3_viewPoll_11 : decode cX3_viewPoll 11 = .ok (.iload_n 3, 1) := by decide +kernel
theorem dX3_viewPoll_12 : decode cX3_viewPoll 12 = .ok (.if_icmp .ne 7, 3) := by decide +kernel
theorem dX3_viewPoll_15 : decode cX3_viewPoll 15 = .ok (.ldc2_w 38, 3) := by decide +kernel
theorem dX3_viewPoll_18 : decode cX3_viewPoll 18 = .ok (.lreturn, 1) := by decide +kernel
theorem dX3_viewPoll_19 : decode cX3_viewPoll 19 = .ok (.iload_n 1, 1) := by decide +kernel
theorem dX3_viewPoll_20 : decode cX3_viewPoll 20 = .ok (.aload_n 0, 1) := by decide +kernel
theorem dX3_viewPoll_21 : decode cX3_viewPoll 21 = .ok (.getfield 59, 3) := by decide +kernel
theorem dX3_viewPoll_24 : decode cX3_viewPoll 24 = .ok (.if_icmp .eq 9, 3) := by decide +kernel
theorem dX3_viewPoll_27 : decode cX3_viewPoll 27 = .ok (.iload_n 3, 1) := by decide +kernel
theorem dX3_viewPoll_28 : decode cX3_viewPoll 28 = .ok (.iconst 1, 1) := by decide +kernel
theorem dX3_viewPoll_29 : decode cX3_viewPoll 29 = .ok (.isub, 1) := by decide +kernel
theorem dX3_viewPoll_30 : decode cX3_viewPoll 30 = .ok (.goto 4, 3) := by decide +kernel
theorem dX3_viewPoll_33 : decode cX3_viewPoll 33 = .ok (.iload_n 2, 1) := by decide +kernel
theorem dX3_viewPoll_34 : decode cX3_viewPoll 34 = .ok (.istore 4, 2) := by decide +kernel
theorem dX3_viewPoll_36 : decode cX3_viewPoll 36 = .ok (.aload_n 0, 1) := by decide +kernel
theorem dX3_viewPoll_37 : decode cX3_viewPoll 37 = .ok (.getfield 9, 3) := by decide +kernel
theorem dX3_viewPoll_40 : decode cX3_viewPoll 40 = .ok (.iload 4, 2) := by decide +kernel
theorem dX3_viewPoll_42 : decode cX3_viewPoll 42 = .ok (.iaload, 1) := by decide +kernel
theorem dX3_viewPoll_43 : decode cX3_viewPoll 43 = .ok (.istore 5, 2) := by decide +kernel
theorem dX3_viewPoll_45 : decode cX3_viewPoll 45 = .ok (.aload_n 0, 1) := by decide +kernel
theorem dX3_viewPoll_46 : decode cX3_viewPoll 46 = .ok (.iload 4, 2) := by decide +kernel
theorem dX3_viewPoll_48 : decode cX3_viewPoll 48 = .ok (.invokevirtual 40, 3) := by decide +kernel
theorem dX3_viewPoll_51 : decode cX3_viewPoll 51 = .ok (.iload 5, 2) := by decide +kernel
theorem dX3_viewPoll_53 : decode cX3_viewPoll 53 = .ok (.i2l, 1) := by decide +kernel
theorem dX3_viewPoll_54 : decode cX3_viewPoll 54 = .ok (.lreturn, 1) := by decide +kernel
set_option maxRecDepth 20000 in
theorem ggX3_viewKey_X3_first : GoodIn wsX3_viewKey wsX3_first := goodIn_r _ [8, 9, 2, 10, 11, 12, 13, 14, 7, 15, 16, 17, 18, 19, 24, 25, 26, 27, 28, 29, 30, 31, 32, 33] (by decide +kernel) (by decide +kernel)
set_option maxRecDepth 20000 in
theorem gX3_viewKey_X3_first : GoodIn wsX3_viewKey (wsV RX3 96 RX3 yX3_first wsX3_first) := goodIn_app (goodIn_of _ (by decide +kernel)) ggX3_viewKey_X3_first
set_option maxRecDepth 20000 in
theorem ggX3_viewKey_X3_behind : GoodIn wsX3_viewKey wsX3_behind := goodIn_r _ [23, 9, 2, 4, 5, 6, 7, 8, 10, 11, 12, 13, 14, 15, 16, 17, 18, 19, 24, 25, 26, 27, 28, 29, 30, 31, 32, 33] (by decide +kernel) (by decide +kernel)
set_option maxRecDepth 20000 in
theorem gX3_viewKey_X3_behind : GoodIn wsX3_viewKey (wsV RX3 99 RX3 yX3_behind wsX3_behind) := goodIn_app (goodIn_of _ (by decide +kernel)) ggX3_viewKey_X3_behind
theorem dX3_viewKey_0 : decode cX3_viewKey 0 = .ok (.aload_n 0, 1) := by decide +kernel
theorem dX3_viewKey_1 : decode cX3_viewKey 1 = .ok (.invokevirtual 96, 3) := by decide +kernel
theorem dX3_viewKey_4 : decode cX3_viewKey 4 = .ok (.istore_n 2, 1) := by decide +kernel
theorem dX3_viewKey_5 : decode cX3_viewKey 5 = .ok (.aload_n 0, 1) := by decide +kernel
theorem dX3_viewKey_6 : decode cX3_viewKey 6 = .ok (.invokevirtual 99, 3) := by decide +kernel
theorem dX3_viewKey_9 : decode cX3_viewKey 9 = .ok (.istore_n 3, 1) := by decide +kernel
theorem dX3_viewKey_10 : decode cX3_viewKey 10 = .ok (.iload_n 1, 1) := by decide +kernel
theorem dX3_viewKey_11 : decode cX3_viewKey 11 = .ok (.ifCond .lt 10, 3) := by decide +kernel
theorem dX3_viewKey_14 : decode cX3_viewKey 14 = .ok (.iload_n 1, 1) := by decide +kernel
theorem dX3_viewKey_15 : decode cX3_viewKey 15 = .ok (.iload_n 3, 1) := by decide +kernel
theorem dX3_viewKey_16 : decode cX3_viewKey 16 = .ok (.iload_n 2, 1) := by decide +kernel
theorem dX3_viewKey_17 : decode cX3_viewKey 17 = .ok (.isub, 1) := by decide +kernel
theorem dX3_viewKey_18 : decode cX3_viewKey 18 = .ok (.if_icmp .lt 7, 3) := by decide +kernel
theorem dX3_viewKey_21 : decode cX3_viewKey 21 = .ok (.ldc2_w 38, 3) := by decide +kernel
theorem dX3_viewKey_24 : decode cX3_viewKey 24 = .ok (.lreturn, 1) := by decide +kernel
theorem dX3_viewKey_25 : decode cX3_viewKey 25 = .ok (.aload_n 0, 1) := by decide +kernel
theorem dX3_viewKey_26 : decode cX3_viewKey 26 = .ok (.getfield 9, 3) := by decide +kernel
theorem dX3_viewKey_29 : decode cX3_viewKey 29 = .ok (.aload_n 0, 1) := by decide +kernel
theorem dX3_viewKey_30 : decode cX3_viewKey 30 = .ok (.getfield 59, 3) := by decide +kernel
theorem dX3_viewKey_33 : decode cX3_viewKey 33 = .ok (.ifCond .eq 11, 3) := by decide +kernel
theorem dX3_viewKey_36 : decode cX3_viewKey 36 = .ok (.iload_n 3, 1) := by decide +kernel
theorem dX3_viewKey_37 : decode cX3_viewKey 37 = .ok (.iconst 1, 1) := by decide +kernel
theorem dX3_viewKey_38 : decode cX3_viewKey 38 = .ok (.isub, 1) := by decide +kernel
theorem dX3_viewKey_39 : decode cX3_viewKey 39 = .ok (.iload_n 1, 1) := by decide +kernel
theorem dX3_viewKey_40 : decode cX3_viewKey 40 = .ok (.isub, 1) := by decide +kernel
theorem dX3_viewKey_41 : decode cX3_viewKey 41 = .ok (.goto 6, 3) := by decide +kernel
theorem dX3_viewKey_44 : decode cX3_viewKey 44 = .ok (.iload_n 2, 1) := by decide +kernel
theorem dX3_viewKey_45 : decode cX3_viewKey 45 = .ok (.iload_n 1, 1) := by decide +kernel
theorem dX3_viewKey_46 : decode cX3_viewKey 46 = .ok (.iadd, 1) := by decide +kernel
theorem dX3_viewKey_47 : decode cX3_viewKey 47 = .ok (.iaload, 1) := by decide +kernel
theorem dX3_viewKey_48 : decode cX3_viewKey 48 = .ok (.i2l, 1) := by decide +kernel
theorem dX3_viewKey_49 : decode cX3_viewKey 49 = .ok (.lreturn, 1) := by decide +kernel
set_option maxRecDepth 20000 in
theorem ggX3_walk_X3_first : GoodIn wsX3_walk wsX3_first := goodIn_r _ [7, 8, 1, 9, 10, 11, 12, 13, 6, 14, 15, 16, 17, 18, 23, 24, 25, 26, 27, 28, 29, 30, 31, 32] (by decide +kernel) (by decide +kernel)
set_option maxRecDepth 20000 in
theorem gX3_walk_X3_first : GoodIn wsX3_walk (wsV RX3 96 RX3 yX3_first wsX3_first) := goodIn_app (goodIn_of _ (by decide +kernel)) ggX3_walk_X3_first
set_option maxRecDepth 20000 in
theorem ggX3_walk_X3_behind : GoodIn wsX3_walk wsX3_behind := goodIn_r _ [22, 8, 1, 3, 4, 5, 6, 7, 9, 10, 11, 12, 13, 14, 15, 16, 17, 18, 23, 24, 25, 26, 27, 28, 29, 30, 31, 32] (by decide +kernel) (by decide +kernel)
set_option maxRecDepth 20000 in
theorem gX3_walk_X3_behind : GoodIn wsX3_walk (wsV RX3 99 RX3 yX3_behind wsX3_behind) := goodIn_app (goodIn_of _ (by decide +kernel)) ggX3_walk_X3_behind
theorem dX3_walk_0 : decode cX3_walk 0 = .ok (.aload_n 0, 1) := by decide +kernel
theorem dX3_walk_1 : decode cX3_walk 1 = .ok (.invokevirtual 96, 3) := by decide +kernel
theorem dX3_walk_4 : decode cX3_walk 4 = .ok (.istore_n 1, 1) := by decide +kernel
theorem dX3_walk_5 : decode cX3_walk 5 = .ok (.aload_n 0, 1) := by decide +kernel
theorem dX3_walk_6 : decode cX3_walk 6 = .ok (.invokevirtual 99, 3) := by decide +kernel
theorem dX3_walk_9 : decode cX3_walk 9 = .ok (.istore_n 2, 1) := by decide +kernel
theorem dX3_walk_10 : decode cX3_walk 10 = .ok (.lconst 0, 1) := by decide +kernel
theorem dX3_walk_11 : decode cX3_walk 11 = .ok (.lstore_n 3, 1) := by decide +kernel
theorem dX3_walk_12 : decode cX3_walk 12 = .ok (.iload_n 1, 1) := by decide +kernel
theorem dX3_walk_13 : decode cX3_walk 13 = .ok (.istore 5, 2) := by decide +kernel
theorem dX3_walk_15 : decode cX3_walk 15 = .ok (.iload 5, 2) := by decide +kernel
theorem dX3_walk_17 : decode cX3_walk 17 = .ok (.iload_n 2, 1) := by decide +kernel
theorem dX3_walk_18 : decode cX3_walk 18 = .ok (.if_icmp .ge 42, 3) := by decide +kernel
theorem dX3_walk_21 : decode cX3_walk 21 = .ok (.lload_n 3, 1) := by decide +kernel
theorem dX3_walk_22 : decode cX3_walk 22 = .ok (.aload_n 0, 1) := by decide +kernel
theorem dX3_walk_23 : decode cX3_walk 23 = .ok (.getfield 9, 3) := by decide +kernel
theorem dX3_walk_26 : decode cX3_walk 26 = .ok (.iload 5, 2) := by decide +kernel
theorem dX3_walk_28 : decode cX3_walk 28 = .ok (.iaload, 1) := by decide +kernel
theorem dX3_walk_29 : decode cX3_walk 29 = .ok (.i2l, 1) := by decide +kernel
theorem dX3_walk_30 : decode cX3_walk 30 = .ok (.aload_n 0, 1) := by decide +kernel
theorem dX3_walk_31 : decode cX3_walk 31 = .ok (.getfield 59, 3) := by decide +kernel
theorem dX3_walk_34 : decode cX3_walk 34 = .ok (.ifCond .eq 10, 3) := by decide +kernel
theorem dX3_walk_37 : decode cX3_walk 37 = .ok (.iload_n 2, 1) := by decide +kernel
theorem dX3_walk_38 : decode cX3_walk 38 = .ok (.iload 5, 2) := by decide +kernel
theorem dX3_walk_40 : decode cX3_walk 40 = .ok (.isub, 1) := by decide +kernel
theorem dX3_walk_41 : decode cX3_walk 41 = .ok (.goto 9, 3) := by decide +kernel
theorem dX3_walk_44 : decode cX3_walk 44 = .ok (.iload 5, 2) := by decide +kernel
theorem dX3_walk_46 : decode cX3_walk 46 = .ok (.iload_n 1, 1) := by decide +kernel
theorem dX3_walk_47 : decode cX3_walk 47 = .ok (.isub, 1) := by decide +kernel
theorem dX3_walk_48 : decode cX3_walk 48 = .ok (.iconst 1, 1) := by decide +kernel
theorem dX3_walk_49 : decode cX3_walk 49 = .ok (.iadd, 1) := by decide +kernel
theorem dX3_walk_50 : decode cX3_walk 50 = .ok (.i2l, 1) := by decide +kernel
theorem dX3_walk_51 : decode cX3_walk 51 = .ok (.lmul, 1) := by decide +kernel
theorem dX3_walk_52 : decode cX3_walk 52 = .ok (.ladd, 1) := by decide +kernel
theorem dX3_walk_53 : decode cX3_walk 53 = .ok (.lstore_n 3, 1) := by decide +kernel
theorem dX3_walk_54 : decode cX3_walk 54 = .ok (.iinc 5 1, 3) := by decide +kernel
theorem dX3_walk_57 : decode cX3_walk 57 = .ok (.goto (-42), 3) := by decide +kernel
theorem dX3_walk_60 : decode cX3_walk 60 = .ok (.lload_n 3, 1) := by decide +kernel
theorem dX3_walk_61 : decode cX3_walk 61 = .ok (.lreturn, 1) := by decide +kernel
set_option maxRecDepth 20000 in
theorem ggX3_sweep_X3_first : GoodIn wsX3_sweep wsX3_first := goodIn_r _ [6, 7, 1, 8, 9, 10, 11, 12, 5, 13, 14, 15, 16, 17, 31, 32, 33, 34, 35, 36, 37, 38, 39, 40] (by decide +kernel) (by decide +kernel)
set_option maxRecDepth 20000 in
theorem gX3_sweep_X3_first : GoodIn wsX3_sweep (wsV RX3 96 RX3 yX3_first wsX3_first) := goodIn_app (goodIn_of _ (by decide +kernel)) ggX3_sweep_X3_first
set_option maxRecDepth 20000 in
theorem ggX3_sweep_X3_behind : GoodIn wsX3_sweep wsX3_behind := goodIn_r _ [21, 7, 1, 2, 3, 4, 5, 6, 8, 9, 10, 11, 12, 13, 14, 15, 16, 17, 31, 32, 33, 34, 35, 36, 37, 38, 39, 40] (by decide +kernel) (by decide +kernel)
set_option maxRecDepth 20000 in
theorem gX3_sweep_X3_behind : GoodIn wsX3_sweep (wsV RX3 99 RX3 yX3_behind wsX3_behind) := goodIn_app (goodIn_of _ (by decide +kernel)) ggX3_sweep_X3_behind
set_option maxRecDepth 20000 in
theorem ggX3_sweep_J9_floorMod_7cf53 : GoodIn wsX3_sweep wsJ9_floorMod_7cf53 := goodIn_r _ [25] (by decide +kernel) (by decide +kernel)
set_option maxRecDepth 20000 in
theorem gX3_sweep_J9_floorMod_7cf53 : GoodIn wsX3_sweep (va_wsS RX3 115 yJ9_floorMod_7cf53 wsJ9_floorMod_7cf53) := goodIn_app (goodIn_of _ (by decide +kernel)) ggX3_sweep_J9_floorMod_7cf53
set_option maxRecDepth 20000 in
theorem ggX3_sweep_X3_delete : GoodIn wsX3_sweep wsX3_delete := goodIn_r _ [29, 7, 1, 30, 31, 32, 33, 34, 35, 36, 37, 38, 39, 40] (by decide +kernel) (by decide +kernel)
set_option maxRecDepth 20000 in
theorem gX3_sweep_X3_delete : GoodIn wsX3_sweep (wsV RX3 40 RX3 yX3_delete wsX3_delete) := goodIn_app (goodIn_of _ (by decide +kernel)) ggX3_sweep_X3_delete
theorem dX3_sweep_0 : decode cX3_sweep 0 = .ok (.iload_n 1, 1) := by decide +kernel
theorem dX3_sweep_1 : decode cX3_sweep 1 = .ok (.iconst 1, 1) := by decide +kernel
theorem dX3_sweep_2 : decode cX3_sweep 2 = .ok (.if_icmp .ge 5, 3) := by decide +kernel
theorem dX3_sweep_5 : decode cX3_sweep 5 = .ok (.iconst (-1), 1) := by decide +kernel
theorem dX3_sweep_6 : decode cX3_sweep 6 = .ok (.ireturn, 1) := by decide +kernel
theorem dX3_sweep_7 : decode cX3_sweep 7 = .ok (.aload_n 0, 1) := by decide +kernel
theorem dX3_sweep_8 : decode cX3_sweep 8 = .ok (.invokevirtual 96, 3) := by decide +kernel
theorem dX3_sweep_11 : decode cX3_sweep 11 = .ok (.istore_n 3, 1) := by decide +kernel
theorem dX3_sweep_12 : decode cX3_sweep 12 = .ok (.iconst 0, 1) := by decide +kernel
theorem dX3_sweep_13 : decode cX3_sweep 13 = .ok (.istore 4, 2) := by decide +kernel
theorem dX3_sweep_15 : decode cX3_sweep 15 = .ok (.aload_n 0, 1) := by decide +kernel
theorem dX3_sweep_16 : decode cX3_sweep 16 = .ok (.invokevirtual 99, 3) := by decide +kernel
theorem dX3_sweep_19 : decode cX3_sweep 19 = .ok (.iconst 1, 1) := by decide +kernel
theorem dX3_sweep_20 : decode cX3_sweep 20 = .ok (.isub, 1) := by decide +kernel
theorem dX3_sweep_21 : decode cX3_sweep 21 = .ok (.istore 5, 2) := by decide +kernel
theorem dX3_sweep_23 : decode cX3_sweep 23 = .ok (.iload 5, 2) := by decide +kernel
theorem dX3_sweep_25 : decode cX3_sweep 25 = .ok (.iload_n 3, 1) := by decide +kernel
theorem dX3_sweep_26 : decode cX3_sweep 26 = .ok (.if_icmp .lt 36, 3) := by decide +kernel
theorem dX3_sweep_29 : decode cX3_sweep 29 = .ok (.aload_n 0, 1) := by decide +kernel
theorem dX3_sweep_30 : decode cX3_sweep 30 = .ok (.getfield 9, 3) := by decide +kernel
theorem dX3_sweep_33 : decode cX3_sweep 33 = .ok (.iload 5, 2) := by decide +kernel
theorem dX3_sweep_35 : decode cX3_sweep 35 = .ok (.iaload, 1) := by decide +kernel
theorem dX3_sweep_36 : decode cX3_sweep 36 = .ok (.iload_n 1, 1) := by decide +kernel
theorem dX3_sweep_37 : decode cX3_sweep 37 = .ok (.invokestatic 115, 3) := by decide +kernel
theorem dX3_sweep_40 : decode cX3_sweep 40 = .ok (.iload_n 2, 1) := by decide +kernel
theorem dX3_sweep_41 : decode cX3_sweep 41 = .ok (.if_icmp .eq 6, 3) := by decide +kernel
theorem dX3_sweep_44 : decode cX3_sweep 44 = .ok (.goto 12, 3) := by decide +kernel
theorem dX3_sweep_47 : decode cX3_sweep 47 = .ok (.aload_n 0, 1) := by decide +kernel
theorem dX3_sweep_48 : decode cX3_sweep 48 = .ok (.iload 5, 2) := by decide +kernel
theorem dX3_sweep_50 : decode cX3_sweep 50 = .ok (.invokevirtual 40, 3) := by decide +kernel
theorem dX3_sweep_53 : decode cX3_sweep 53 = .ok (.iinc 4 1, 3) := by decide +kernel
theorem dX3_sweep_56 : decode cX3_sweep 56 = .ok (.iinc 5 (-1), 3) := by decide +kernel
theorem dX3_sweep_59 : decode cX3_sweep 59 = .ok (.goto (-36), 3) := by decide +kernel
theorem dX3_sweep_62 : decode cX3_sweep 62 = .ok (.iload 4, 2) := by decide +kernel
theorem dX3_sweep_64 : decode cX3_sweep 64 = .ok (.ireturn, 1) := by decide +kernel
set_option maxRecDepth 20000 in
theorem ggX3_viewClear_X3_first : GoodIn wsX3_viewClear wsX3_first := goodIn_r _ [5, 6, 7, 8, 9, 10, 11, 12, 4, 13, 14, 15, 16, 17, 27, 28, 29, 30, 31, 32, 33, 34, 35, 36] (by decide +kernel) (by decide +kernel)
set_option maxRecDepth 20000 in
theorem gX3_viewClear_X3_first : GoodIn wsX3_viewClear (wsV RX3 96 RX3 yX3_first wsX3_first) := goodIn_app (goodIn_of _ (by decide +kernel)) ggX3_viewClear_X3_first
set_option maxRecDepth 20000 in
theorem ggX3_viewClear_X3_behind : GoodIn wsX3_viewClear wsX3_behind := goodIn_r _ [21, 6, 7, 1, 2, 3, 4, 5, 8, 9, 10, 11, 12, 13, 14, 15, 16, 17, 27, 28, 29, 30, 31, 32, 33, 34, 35, 36] (by decide +kernel) (by decide +kernel)
set_option maxRecDepth 20000 in
theorem gX3_viewClear_X3_behind : GoodIn wsX3_viewClear (wsV RX3 99 RX3 yX3_behind wsX3_behind) := goodIn_app (goodIn_of _ (by decide +kernel)) ggX3_viewClear_X3_behind
set_option maxRecDepth 20000 in
theorem ggX3_viewClear_X3_delete : GoodIn wsX3_viewClear wsX3_delete := goodIn_r _ [25, 6, 7, 26, 27, 28, 29, 30, 31, 32, 33, 34, 35, 36] (by decide +kernel) (by decide +kernel)
set_option maxRecDepth 20000 in
theorem gX3_viewClear_X3_delete : GoodIn wsX3_viewClear (wsV RX3 40 RX3 yX3_delete wsX3_delete) := goodIn_app (goodIn_of _ (by decide +kernel)) ggX3_viewClear_X3_delete
theorem dX3_viewClear_0 : decode cX3_viewClear 0 = .ok (.aload_n 0, 1) := by decide +kernel
theorem dX3_viewClear_1 : decode cX3_viewClear 1 = .ok (.invokevirtual 96, 3) := by decide +kernel
theorem dX3_viewClear_4 : decode cX3_viewClear 4 = .ok (.istore_n 1, 1) := by decide +kernel
theorem dX3_viewClear_5 : decode cX3_viewClear 5 = .ok (.aload_n 0, 1) := by decide +kernel
theorem dX3_viewClear_6 : decode cX3_viewClear 6 = .ok (.invokevirtual 99, 3) := by decide +kernel
theorem dX3_viewClear_9 : decode cX3_viewClear 9 = .ok (.iload_n 1, 1) := by decide +kernel
theorem dX3_viewClear_10 : decode cX3_viewClear 10 = .ok (.isub, 1) := by decide +kernel
theorem dX3_viewClear_11 : decode cX3_viewClear 11 = .ok (.istore_n 2, 1) := by decide +kernel
theorem dX3_viewClear_12 : decode cX3_viewClear 12 = .ok (.iconst 0, 1) := by decide +kernel
theorem dX3_viewClear_13 : decode cX3_viewClear 13 = .ok (.istore_n 3, 1) := by decide +kernel
theorem dX3_viewClear_14 : decode cX3_viewClear 14 = .ok (.iload_n 3, 1) := by decide +kernel
theorem dX3_viewClear_15 : decode cX3_viewClear 15 = .ok (.iload_n 2, 1) := by decide +kernel
theorem dX3_viewClear_16 : decode cX3_viewClear 16 = .ok (.if_icmp .ge 14, 3) := by decide +kernel
theorem dX3_viewClear_19 : decode cX3_viewClear 19 = .ok (.aload_n 0, 1) := by decide +kernel
theorem dX3_viewClear_20 : decode cX3_viewClear 20 = .ok (.iload_n 1, 1) := by decide +kernel
theorem dX3_viewClear_21 : decode cX3_viewClear 21 = .ok (.invokevirtual 40, 3) := by decide +kernel
theorem dX3_viewClear_24 : decode cX3_viewClear 24 = .ok (.iinc 3 1, 3) := by decide +kernel
theorem dX3_viewClear_27 : decode cX3_viewClear 27 = .ok (.goto (-13), 3) := by decide +kernel
theorem dX3_viewClear_30 : decode cX3_viewClear 30 = .ok (.iload_n 2, 1) := by decide +kernel
theorem dX3_viewClear_31 : decode cX3_viewClear 31 = .ok (.ireturn, 1) := by decide +kernel
set_option maxRecDepth 20000 in
theorem ggX3_again_X3_all : GoodIn wsX3_again wsX3_all := goodIn_r _ [6, 7, 8, 9, 10, 11, 12, 13, 14, 15, 16, 17, 18, 19] (by decide +kernel) (by decide +kernel)
set_option maxRecDepth 20000 in
theorem gX3_again_X3_all : GoodIn wsX3_again (wsV RX3 62 RX3 yX3_all wsX3_all) := goodIn_app (goodIn_of _ (by decide +kernel)) ggX3_again_X3_all
theorem dX3_again_0 : decode cX3_again 0 = .ok (.aload_n 0, 1) := by decide +kernel
theorem dX3_again_1 : decode cX3_again 1 = .ok (.getfield 16, 3) := by decide +kernel
theorem dX3_again_4 : decode cX3_again 4 = .ok (.bipush 100, 2) := by decide +kernel
theorem dX3_again_6 : decode cX3_again 6 = .ok (.if_icmp .le 5, 3) := by decide +kernel
theorem dX3_again_9 : decode cX3_again 9 = .ok (.iconst (-1), 1) := by decide +kernel
theorem dX3_again_10 : decode cX3_again 10 = .ok (.ireturn, 1) := by decide +kernel
theorem dX3_again_11 : decode cX3_again 11 = .ok (.aload_n 0, 1) := by decide +kernel
theorem dX3_again_12 : decode cX3_again 12 = .ok (.invokevirtual 62, 3) := by decide +kernel
theorem dX3_again_15 : decode cX3_again 15 = .ok (.aload_n 0, 1) := by decide +kernel
theorem dX3_again_16 : decode cX3_again 16 = .ok (.getfield 16, 3) := by decide +kernel
theorem dX3_again_19 : decode cX3_again 19 = .ok (.ireturn, 1) := by decide +kernel
theorem dJ9_floorMod_7cf53_0 : decode cJ9_floorMod_7cf53 0 = .ok (.iload_n 0, 1) := by decide +kernel
theorem dJ9_floorMod_7cf53_1 : decode cJ9_floorMod_7cf53 1 = .ok (.iload_n 1, 1) := by decide +kernel
theorem dJ9_floorMod_7cf53_2 : decode cJ9_floorMod_7cf53 2 = .ok (.irem, 1) := by decide +kernel
theorem dJ9_floorMod_7cf53_3 : decode cJ9_floorMod_7cf53 3 = .ok (.istore_n 2, 1) := by decide +kernel
theorem dJ9_floorMod_7cf53_4 : decode cJ9_floorMod_7cf53 4 = .ok (.iload_n 0, 1) := by decide +kernel
theorem dJ9_floorMod_7cf53_5 : decode cJ9_floorMod_7cf53 5 = .ok (.iload_n 1, 1) := by decide +kernel
theorem dJ9_floorMod_7cf53_6 : decode cJ9_floorMod_7cf53 6 = .ok (.ixor, 1) := by decide +kernel
theorem dJ9_floorMod_7cf53_7 : decode cJ9_floorMod_7cf53 7 = .ok (.ifCond .ge 11, 3) := by decide +kernel
theorem dJ9_floorMod_7cf53_10 : decode cJ9_floorMod_7cf53 10 = .ok (.iload_n 2, 1) := by decide +kernel
theorem dJ9_floorMod_7cf53_11 : decode cJ9_floorMod_7cf53 11 = .ok (.ifCond .eq 7, 3) := by decide +kernel
theorem dJ9_floorMod_7cf53_14 : decode cJ9_floorMod_7cf53 14 = .ok (.iload_n 2, 1) := by decide +kernel
theorem dJ9_floorMod_7cf53_15 : decode cJ9_floorMod_7cf53 15 = .ok (.iload_n 1, 1) := by decide +kernel
theorem dJ9_floorMod_7cf53_16 : decode cJ9_floorMod_7cf53 16 = .ok (.iadd, 1) := by decide +kernel
theorem dJ9_floorMod_7cf53_17 : decode cJ9_floorMod_7cf53 17 = .ok (.ireturn, 1) := by decide +kernel
theorem dJ9_floorMod_7cf53_18 : decode cJ9_floorMod_7cf53 18 = .ok (.iload_n 2, 1) := by decide +kernel
theorem dJ9_floorMod_7cf53_19 : decode cJ9_floorMod_7cf53 19 = .ok (.ireturn, 1) := by decide +kernel
theorem dJ9_max_7cf53_0 : decode cJ9_max_7cf53 0 = .ok (.iload_n 0, 1) := by decide +kernel
theorem dJ9_max_7cf53_1 : decode cJ9_max_7cf53 1 = .ok (.iload_n 1, 1) := by decide +kernel
theorem dJ9_max_7cf53_2 : decode cJ9_max_7cf53 2 = .ok (.if_icmp .lt 7, 3) := by decide +kernel
theorem dJ9_max_7cf53_5 : decode cJ9_max_7cf53 5 = .ok (.iload_n 0, 1) := by decide +kernel
theorem dJ9_max_7cf53_6 : decode cJ9_max_7cf53 6 = .ok (.goto 4, 3) := by decide +kernel
theorem dJ9_max_7cf53_9 : decode cJ9_max_7cf53 9 = .ok (.iload_n 1, 1) := by decide +kernel
theorem dJ9_max_7cf53_10 : decode cJ9_max_7cf53 10 = .ok (.ireturn, 1) := by decide +kernel
theorem dJ9_min_7cf53_0 : decode cJ9_min_7cf53 0 = .ok (.iload_n 0, 1) := by decide +kernel
theorem dJ9_min_7cf53_1 : decode cJ9_min_7cf53 1 = .ok (.iload_n 1, 1) := by decide +kernel
theorem dJ9_min_7cf53_2 : decode cJ9_min_7cf53 2 = .ok (.if_icmp .gt 7, 3) := by decide +kernel
theorem dJ9_min_7cf53_5 : decode cJ9_min_7cf53 5 = .ok (.iload_n 0, 1) := by decide +kernel
theorem dJ9_min_7cf53_6 : decode cJ9_min_7cf53 6 = .ok (.goto 4, 3) := by decide +kernel
theorem dJ9_min_7cf53_9 : decode cJ9_min_7cf53 9 = .ok (.iload_n 1, 1) := by decide +kernel
theorem dJ9_min_7cf53_10 : decode cJ9_min_7cf53 10 = .ok (.ireturn, 1) := by decide +kernel
theorem dJ7_copyOf_59c91_0 : decode cJ7_copyOf_59c91 0 = .ok (.iload_n 1, 1) := by decide +kernel
theorem dJ7_copyOf_59c91_1 : decode cJ7_copyOf_59c91 1 = .ok (.aload_n 0, 1) := by decide +kernel
theorem dJ7_copyOf_59c91_2 : decode cJ7_copyOf_59c91 2 = .ok (.arraylength, 1) := by decide +kernel
theorem dJ7_copyOf_59c91_3 : decode cJ7_copyOf_59c91 3 = .ok (.if_icmp .ne 11, 3) := by decide +kernel
theorem dJ7_copyOf_59c91_6 : decode cJ7_copyOf_59c91 6 = .ok (.aload_n 0, 1) := by decide +kernel
theorem dJ7_copyOf_59c91_7 : decode cJ7_copyOf_59c91 7 = .ok (.invokevirtual 316, 3) := by decide +kernel
theorem dJ7_copyOf_59c91_10 : decode cJ7_copyOf_59c91 10 = .ok (.checkcast 317, 3) := by decide +kernel
theorem dJ7_copyOf_59c91_13 : decode cJ7_copyOf_59c91 13 = .ok (.areturn, 1) := by decide +kernel
theorem dJ7_copyOf_59c91_14 : decode cJ7_copyOf_59c91 14 = .ok (.iload_n 1, 1) := by decide +kernel
theorem dJ7_copyOf_59c91_15 : decode cJ7_copyOf_59c91 15 = .ok (.newarray .int, 2) := by decide +kernel
theorem dJ7_copyOf_59c91_17 : decode cJ7_copyOf_59c91 17 = .ok (.astore_n 2, 1) := by decide +kernel
theorem dJ7_copyOf_59c91_18 : decode cJ7_copyOf_59c91 18 = .ok (.aload_n 0, 1) := by decide +kernel
theorem dJ7_copyOf_59c91_19 : decode cJ7_copyOf_59c91 19 = .ok (.iconst 0, 1) := by decide +kernel
theorem dJ7_copyOf_59c91_20 : decode cJ7_copyOf_59c91 20 = .ok (.aload_n 2, 1) := by decide +kernel
theorem dJ7_copyOf_59c91_21 : decode cJ7_copyOf_59c91 21 = .ok (.iconst 0, 1) := by decide +kernel
theorem dJ7_copyOf_59c91_22 : decode cJ7_copyOf_59c91 22 = .ok (.aload_n 0, 1) := by decide +kernel
theorem dJ7_copyOf_59c91_23 : decode cJ7_copyOf_59c91 23 = .ok (.arraylength, 1) := by decide +kernel
theorem dJ7_copyOf_59c91_24 : decode cJ7_copyOf_59c91 24 = .ok (.iload_n 1, 1) := by decide +kernel
theorem dJ7_copyOf_59c91_25 : decode cJ7_copyOf_59c91 25 = .ok (.invokestatic 304, 3) := by decide +kernel
theorem dJ7_copyOf_59c91_28 : decode cJ7_copyOf_59c91 28 = .ok (.invokestatic 150, 3) := by decide +kernel
theorem dJ7_copyOf_59c91_31 : decode cJ7_copyOf_59c91 31 = .ok (.aload_n 2, 1) := by decide +kernel
theorem dJ7_copyOf_59c91_32 : decode cJ7_copyOf_59c91 32 = .ok (.areturn, 1) := by decide +kernel
set_option maxRecDepth 20000 in
theorem ggL_law_X2_init : GoodIn wsL_law wsX2_init := goodIn_r _ [8, 9, 10, 11, 12, 13, 14, 15, 16, 17, 18, 19, 20, 21, 22, 23, 24, 25, 26, 27, 28, 29, 30, 31, 32, 33, 34, 35, 36, 37, 38, 439, 440, 441, 425, 426, 427, 428, 442, 443, 444, 445] (by decide +kernel) (by decide +kernel)
set_option maxRecDepth 20000 in
theorem gL_law_X2_init : GoodIn wsL_law (wsX2_init) := ggL_law_X2_init
set_option maxRecDepth 20000 in
theorem ggL_law_X3_init : GoodIn wsL_law wsX3_init := goodIn_r _ [41, 42, 10, 11, 27, 43, 44, 429, 430, 431, 432, 433, 434, 435, 436, 437, 438] (by decide +kernel) (by decide +kernel)
set_option maxRecDepth 20000 in
theorem gL_law_X3_init : GoodIn wsL_law (wsX3_init) := ggL_law_X3_init
set_option maxRecDepth 20000 in
theorem ggL_law_X2_put : GoodIn wsL_law wsX2_put := goodIn_r _ [48, 15, 49, 50, 51, 14, 52, 53, 29, 54, 55, 56, 57, 30, 28, 58, 59, 60, 61, 62, 63, 64, 65, 425, 426, 427, 428, 439, 440, 441] (by decide +kernel) (by decide +kernel)
set_option maxRecDepth 20000 in
theorem gL_law_X2_put : GoodIn wsL_law (wsV RL 13 RX2 yX2_put wsX2_put) := goodIn_app (goodIn_of _ (by decide +kernel)) ggL_law_X2_put
set_option maxRecDepth 20000 in
theorem ggL_law_X3_put : GoodIn wsL_law wsX3_put := goodIn_r _ [69, 70, 44, 71, 72, 73, 5, 74, 75, 43, 76, 77, 78, 79, 80, 81, 82, 83, 84, 85, 86, 87, 88, 89, 90, 91, 92, 93, 27, 94, 95, 96, 97, 98, 99, 100, 101, 429, 430, 431, 432, 433, 434, 435, 436, 437, 438] (by decide +kernel) (by decide +kernel)
set_option maxRecDepth 20000 in
theorem gL_law_X3_put : GoodIn wsL_law (wsV RL 17 RX3 yX3_put wsX3_put) := goodIn_app (goodIn_of _ (by decide +kernel)) ggL_law_X3_put
set_option maxRecDepth 20000 in
theorem ggL_law_X2_add : GoodIn wsL_law wsX2_add := goodIn_r _ [105, 15, 106, 107, 108, 109, 14, 110, 29, 53, 54, 55, 56, 57, 30, 28, 58, 59, 60, 61, 49, 50, 51, 52, 62, 63, 64, 65, 425, 426, 427, 428, 439, 440, 441] (by decide +kernel) (by decide +kernel)
set_option maxRecDepth 20000 in
theorem gL_law_X2_add : GoodIn wsL_law (wsV RL 18 RX2 yX2_add wsX2_add) := goodIn_app (goodIn_of _ (by decide +kernel)) ggL_law_X2_add
set_option maxRecDepth 20000 in
theorem ggL_law_X3_add : GoodIn wsL_law wsX3_add := goodIn_r _ [114, 44, 70, 71, 72, 73, 5, 74, 75, 43, 76, 77, 78, 79, 80, 81, 82, 83, 84, 85, 86, 87, 88, 89, 90, 91, 92, 93, 27, 94, 95, 96, 97, 98, 99, 100, 101, 429, 430, 431, 432, 433, 434, 435, 436, 437, 438] (by decide +kernel) (by decide +kernel)
set_option maxRecDepth 20000 in
theorem gL_law_X3_add : GoodIn wsL_law (wsV RL 21 RX3 yX3_add wsX3_add) := goodIn_app (goodIn_of _ (by decide +kernel)) ggL_law_X3_add
set_option maxRecDepth 20000 in
theorem ggL_law_X2_get : GoodIn wsL_law wsX2_get := goodIn_r _ [118, 15, 107, 108, 109, 14, 110, 29, 53, 54, 55, 56, 57, 30, 28, 58, 59, 60, 61, 425, 426, 427, 428, 439, 440, 441] (by decide +kernel) (by decide +kernel)
set_option maxRecDepth 20000 in
theorem gL_law_X2_get : GoodIn wsL_law (wsV RL 22 RX2 yX2_get wsX2_get) := goodIn_app (goodIn_of _ (by decide +kernel)) ggL_law_X2_get
set_option maxRecDepth 20000 in
theorem ggL_law_X3_get : GoodIn wsL_law wsX3_get := goodIn_r _ [122, 44, 70, 71, 72, 73, 5, 74, 75, 43, 76, 77, 78, 79, 429, 430, 431, 432, 433, 434, 435, 436, 437, 438] (by decide +kernel) (by decide +kernel)
set_option maxRecDepth 20000 in
theorem gL_law_X3_get : GoodIn wsL_law (wsV RL 26 RX3 yX3_get wsX3_get) := goodIn_app (goodIn_of _ (by decide +kernel)) ggL_law_X3_get
set_option maxRecDepth 20000 in
theorem ggL_law_X2_remove : GoodIn wsL_law wsX2_remove := goodIn_r _ [126, 15, 127, 128, 129, 14, 130, 53, 29, 54, 55, 56, 57, 30, 28, 58, 59, 60, 61, 131, 132, 133, 134, 135, 136, 137, 138, 139, 140, 141, 142, 425, 426, 427, 428, 439, 440, 441] (by decide +kernel) (by decide +kernel)
set_option maxRecDepth 20000 in
theorem gL_law_X2_remove : GoodIn wsL_law (wsV RL 27 RX2 yX2_remove wsX2_remove) := goodIn_app (goodIn_of _ (by decide +kernel)) ggL_law_X2_remove
set_option maxRecDepth 20000 in
theorem ggL_law_X3_remove : GoodIn wsL_law wsX3_remove := goodIn_r _ [146, 70, 44, 71, 72, 73, 5, 74, 75, 43, 76, 77, 78, 79, 147, 148, 149, 150, 429, 430, 431, 432, 433, 434, 435, 436, 437, 438] (by decide +kernel) (by decide +kernel)
set_option maxRecDepth 20000 in
theorem gL_law_X3_remove : GoodIn wsL_law (wsV RL 30 RX3 yX3_remove wsX3_remove) := goodIn_app (goodIn_of _ (by decide +kernel)) ggL_law_X3_remove
set_option maxRecDepth 20000 in
theorem ggL_law_X2_has : GoodIn wsL_law wsX2_has := goodIn_r _ [154, 15, 106, 107, 108, 109, 14, 110, 29, 53, 54, 55, 56, 57, 30, 28, 58, 59, 60, 61, 155, 156, 157, 158, 425, 426, 427, 428, 439, 440, 441] (by decide +kernel) (by decide +kernel)
set_option maxRecDepth 20000 in
theorem gL_law_X2_has : GoodIn wsL_law (wsV RL 31 RX2 yX2_has wsX2_has) := goodIn_app (goodIn_of _ (by decide +kernel)) ggL_law_X2_has
set_option maxRecDepth 20000 in
theorem ggL_law_X3_has : GoodIn wsL_law wsX3_has := goodIn_r _ [162, 75, 43, 44, 429, 430, 431, 432, 433, 434, 435, 436, 437, 438] (by decide +kernel) (by decide +kernel)
set_option maxRecDepth 20000 in
theorem gL_law_X3_has : GoodIn wsL_law (wsV RL 35 RX3 yX3_has wsX3_has) := goodIn_app (goodIn_of _ (by decide +kernel)) ggL_law_X3_has
set_option maxRecDepth 20000 in
theorem ggL_law_X2_near : GoodIn wsL_law wsX2_near := goodIn_r _ [166, 15, 167, 168, 169, 14, 170, 30, 171, 172, 173, 2, 174, 175, 95, 96, 97, 176, 177, 178, 106, 179, 55, 56, 57, 28, 180, 181, 182, 183, 184, 185, 186, 187, 53, 425, 426, 427, 428, 439, 440, 441] (by decide +kernel) (by decide +kernel)
set_option maxRecDepth 20000 in
theorem gL_law_X2_near : GoodIn wsL_law (wsV RL 36 RX2 yX2_near wsX2_near) := goodIn_app (goodIn_of _ (by decide +kernel)) ggL_law_X2_near
set_option maxRecDepth 20000 in
theorem ggL_law_X3_near_ : GoodIn wsL_law wsX3_near_ := goodIn_r _ [191, 75, 192, 193, 194, 5, 195, 43, 70, 196, 197, 198, 199, 429, 430, 431, 432, 433, 434, 435, 436, 437, 438] (by decide +kernel) (by decide +kernel)
set_option maxRecDepth 20000 in
theorem gL_law_X3_near_ : GoodIn wsL_law (wsV RL 39 RX3 yX3_near_ wsX3_near_) := goodIn_app (goodIn_of _ (by decide +kernel)) ggL_law_X3_near_
set_option maxRecDepth 20000 in
theorem ggL_law_X2_poll : GoodIn wsL_law wsX2_poll := goodIn_r _ [203, 15, 167, 168, 169, 14, 170, 30, 204, 205, 206, 2, 207, 106, 180, 181, 182, 183, 184, 185, 186, 187, 28, 53, 208, 132, 133, 134, 135, 136, 137, 138, 29, 139, 140, 141, 142, 425, 426, 427, 428, 439, 440, 441] (by decide +kernel) (by decide +kernel)
set_option maxRecDepth 20000 in
theorem gL_law_X2_poll : GoodIn wsL_law (wsV RL 40 RX2 yX2_poll wsX2_poll) := goodIn_app (goodIn_of _ (by decide +kernel)) ggL_law_X2_poll
set_option maxRecDepth 20000 in
theorem ggL_law_X3_poll : GoodIn wsL_law wsX3_poll := goodIn_r _ [212, 75, 70, 43, 147, 148, 149, 5, 150, 44, 429, 430, 431, 432, 433, 434, 435, 436, 437, 438] (by decide +kernel) (by decide +kernel)
set_option maxRecDepth 20000 in
theorem gL_law_X3_poll : GoodIn wsL_law (wsV RL 44 RX3 yX3_poll wsX3_poll) := goodIn_app (goodIn_of _ (by decide +kernel)) ggL_law_X3_poll
set_option maxRecDepth 20000 in
theorem ggL_law_X2_size : GoodIn wsL_law wsX2_size := goodIn_r _ [216, 15, 167, 168, 169, 14, 170, 30, 425, 426, 427, 428, 439, 440, 441] (by decide +kernel) (by decide +kernel)
set_option maxRecDepth 20000 in
theorem gL_law_X2_size : GoodIn wsL_law (wsV RL 45 RX2 yX2_size wsX2_size) := goodIn_app (goodIn_of _ (by decide +kernel)) ggL_law_X2_size
set_option maxRecDepth 20000 in
theorem ggL_law_X3_size : GoodIn wsL_law wsX3_size := goodIn_r _ [220, 75, 429, 430, 431, 432, 433, 434, 435, 436, 437, 438] (by decide +kernel) (by decide +kernel)
set_option maxRecDepth 20000 in
theorem gL_law_X3_size : GoodIn wsL_law (wsV RL 49 RX3 yX3_size wsX3_size) := goodIn_app (goodIn_of _ (by decide +kernel)) ggL_law_X3_size
set_option maxRecDepth 20000 in
theorem ggL_law_X2_clear : GoodIn wsL_law wsX2_clear := goodIn_r _ [224, 15, 167, 168, 169, 14, 170, 30, 208, 132, 133, 134, 135, 136, 137, 138, 28, 29, 139, 140, 141, 142, 425, 426, 427, 428, 439, 440, 441] (by decide +kernel) (by decide +kernel)
set_option maxRecDepth 20000 in
theorem gL_law_X2_clear : GoodIn wsL_law (wsV RL 50 RX2 yX2_clear wsX2_clear) := goodIn_app (goodIn_of _ (by decide +kernel)) ggL_law_X2_clear
set_option maxRecDepth 20000 in
theorem ggL_law_X3_clear : GoodIn wsL_law wsX3_clear := goodIn_r _ [228, 75, 429, 430, 431, 432, 433, 434, 435, 436, 437, 438] (by decide +kernel) (by decide +kernel)
set_option maxRecDepth 20000 in
theorem gL_law_X3_clear : GoodIn wsL_law (wsV RL 53 RX3 yX3_clear wsX3_clear) := goodIn_app (goodIn_of _ (by decide +kernel)) ggL_law_X3_clear
set_option maxRecDepth 20000 in
theorem ggL_law_X2_look : GoodIn wsL_law wsX2_look := goodIn_r _ [232, 21, 22, 23, 233, 234, 235, 18, 236, 237, 238, 239, 240, 35, 37, 241, 242, 243, 244, 245, 246, 247, 248, 36, 249, 250, 251, 252, 38, 253, 254, 255, 256, 257, 17, 258, 32, 33, 34, 10, 11, 425, 426, 427, 428, 442, 443, 444, 445] (by decide +kernel) (by decide +kernel)
set_option maxRecDepth 20000 in
theorem gL_law_X2_look : GoodIn wsL_law (wsV RL 54 RX2 yX2_look wsX2_look) := goodIn_app (goodIn_of _ (by decide +kernel)) ggL_law_X2_look
set_option maxRecDepth 20000 in
theorem ggL_law_X3_look : GoodIn wsL_law wsX3_look := goodIn_r _ [262, 263, 264, 265, 5, 266, 267, 268, 269, 270, 271, 272, 273, 274, 275, 276, 277, 278, 279, 280, 281, 429, 430, 431, 432, 433, 434, 435, 436, 437, 438] (by decide +kernel) (by decide +kernel)
set_option maxRecDepth 20000 in
theorem gL_law_X3_look : GoodIn wsL_law (wsV RL 58 RX3 yX3_look wsX3_look) := goodIn_app (goodIn_of _ (by decide +kernel)) ggL_law_X3_look
set_option maxRecDepth 20000 in
theorem ggL_law_X2_narrow : GoodIn wsL_law wsX2_narrow := goodIn_r _ [285, 22, 23, 233, 234, 235, 18, 236, 237, 238, 239, 240, 35, 37, 241, 242, 243, 244, 245, 246, 247, 248, 36, 249, 250, 251, 252, 38, 253, 254, 255, 256, 257, 17, 258, 32, 33, 34, 10, 11, 425, 426, 427, 428, 442, 443, 444, 445] (by decide +kernel) (by decide +kernel)
set_option maxRecDepth 20000 in
theorem gL_law_X2_narrow : GoodIn wsL_law (wsV RL 59 RX2 yX2_narrow wsX2_narrow) := goodIn_app (goodIn_of _ (by decide +kernel)) ggL_law_X2_narrow
set_option maxRecDepth 20000 in
theorem ggL_law_X3_narrow : GoodIn wsL_law wsX3_narrow := goodIn_r _ [289, 269, 290, 291, 292, 5, 293, 267, 274, 268, 280, 294, 295, 296, 297, 275, 281, 276, 277, 278, 279, 270, 271, 272, 273, 429, 430, 431, 432, 433, 434, 435, 436, 437, 438] (by decide +kernel) (by decide +kernel)
set_option maxRecDepth 20000 in
theorem gL_law_X3_narrow : GoodIn wsL_law (wsV RL 62 RX3 yX3_narrow wsX3_narrow) := goodIn_app (goodIn_of _ (by decide +kernel)) ggL_law_X3_narrow
set_option maxRecDepth 20000 in
theorem ggL_law_X2_turn : GoodIn wsL_law wsX2_turn := goodIn_r _ [301, 23, 302, 303, 304, 2, 305, 306, 307, 308, 309, 15, 22, 176, 177, 96, 178, 310, 311, 312, 313, 314, 246, 247, 18, 248, 36, 35, 179, 55, 56, 14, 57, 30, 28, 315, 250, 251, 252, 38, 37, 425, 426, 427, 428, 442, 443, 444, 445, 439, 440, 441] (by decide +kernel) (by decide +kernel)
set_option maxRecDepth 20000 in
theorem gL_law_X2_turn : GoodIn wsL_law (wsV RL 63 RX2 yX2_turn wsX2_turn) := goodIn_app (goodIn_of _ (by decide +kernel)) ggL_law_X2_turn
set_option maxRecDepth 20000 in
theorem ggL_law_X3_turn : GoodIn wsL_law wsX3_turn := goodIn_r _ [319, 269, 320, 321, 322, 5, 323, 324, 325, 326, 327, 75, 43, 328, 329, 330, 331, 268, 280, 294, 295, 296, 297, 267, 274, 275, 281, 429, 430, 431, 432, 433, 434, 435, 436, 437, 438] (by decide +kernel) (by decide +kernel)
set_option maxRecDepth 20000 in
theorem gL_law_X3_turn : GoodIn wsL_law (wsV RL 66 RX3 yX3_turn wsX3_turn) := goodIn_app (goodIn_of _ (by decide +kernel)) ggL_law_X3_turn
set_option maxRecDepth 20000 in
theorem ggL_law_X2_viewSize : GoodIn wsL_law wsX2_viewSize := goodIn_r _ [305, 306, 307, 308, 2, 309, 15, 22, 176, 177, 96, 178, 310, 311, 312, 313, 314, 246, 247, 18, 248, 36, 35, 179, 55, 56, 14, 57, 30, 28, 315, 250, 251, 252, 38, 37, 425, 426, 427, 428, 442, 443, 444, 445, 439, 440, 441] (by decide +kernel) (by decide +kernel)
set_option maxRecDepth 20000 in
theorem gL_law_X2_viewSize : GoodIn wsL_law (wsV RL 67 RX2 yX2_viewSize wsX2_viewSize) := goodIn_app (goodIn_of _ (by decide +kernel)) ggL_law_X2_viewSize
set_option maxRecDepth 20000 in
theorem ggL_law_X3_viewSize : GoodIn wsL_law wsX3_viewSize := goodIn_r _ [323, 324, 325, 326, 5, 327, 75, 43, 328, 329, 330, 331, 268, 280, 294, 295, 296, 297, 267, 274, 275, 281, 429, 430, 431, 432, 433, 434, 435, 436, 437, 438] (by decide +kernel) (by decide +kernel)
set_option maxRecDepth 20000 in
theorem gL_law_X3_viewSize : GoodIn wsL_law (wsV RL 70 RX3 yX3_viewSize wsX3_viewSize) := goodIn_app (goodIn_of _ (by decide +kernel)) ggL_law_X3_viewSize
set_option maxRecDepth 20000 in
theorem ggL_law_X2_viewPut : GoodIn wsL_law wsX2_viewPut := goodIn_r _ [337, 22, 15, 338, 339, 242, 243, 18, 244, 245, 246, 247, 248, 36, 35, 249, 250, 251, 252, 38, 37, 49, 50, 51, 14, 52, 53, 29, 54, 55, 56, 57, 30, 28, 58, 59, 60, 61, 62, 63, 64, 65, 425, 426, 427, 428, 442, 443, 444, 445, 439, 440, 441] (by decide +kernel) (by decide +kernel)
set_option maxRecDepth 20000 in
theorem gL_law_X2_viewPut : GoodIn wsL_law (wsV RL 71 RX2 yX2_viewPut wsX2_viewPut) := goodIn_app (goodIn_of _ (by decide +kernel)) ggL_law_X2_viewPut
set_option maxRecDepth 20000 in
theorem ggL_law_X3_viewPut : GoodIn wsL_law wsX3_viewPut := goodIn_r _ [343, 344, 294, 295, 296, 5, 297, 267, 274, 275, 268, 280, 281, 345, 67, 68, 69, 70, 44, 71, 72, 73, 74, 75, 43, 76, 77, 78, 79, 80, 81, 82, 83, 84, 85, 86, 87, 88, 89, 90, 91, 92, 93, 27, 94, 95, 96, 97, 98, 99, 100, 101, 429, 430, 431, 432, 433, 434, 435, 436, 437, 438] (by decide +kernel) (by decide +kernel)
set_option maxRecDepth 20000 in
theorem gL_law_X3_viewPut : GoodIn wsL_law (wsV RL 74 RX3 yX3_viewPut wsX3_viewPut) := goodIn_app (goodIn_of _ (by decide +kernel)) ggL_law_X3_viewPut
set_option maxRecDepth 20000 in
theorem ggL_law_X2_viewGet : GoodIn wsL_law wsX2_viewGet := goodIn_r _ [349, 22, 15, 106, 339, 242, 243, 18, 244, 245, 246, 247, 248, 36, 35, 249, 250, 251, 252, 38, 37, 107, 108, 109, 14, 110, 29, 53, 54, 55, 56, 57, 30, 28, 58, 59, 60, 61, 425, 426, 427, 428, 442, 443, 444, 445, 439, 440, 441] (by decide +kernel) (by decide +kernel)
set_option maxRecDepth 20000 in
theorem gL_law_X2_viewGet : GoodIn wsL_law (wsV RL 75 RX2 yX2_viewGet wsX2_viewGet) := goodIn_app (goodIn_of _ (by decide +kernel)) ggL_law_X2_viewGet
set_option maxRecDepth 20000 in
theorem ggL_law_X3_viewGet : GoodIn wsL_law wsX3_viewGet := goodIn_r _ [353, 70, 294, 295, 296, 5, 297, 267, 274, 275, 268, 280, 281, 354, 120, 121, 122, 44, 71, 72, 73, 74, 75, 43, 76, 77, 78, 79, 429, 430, 431, 432, 433, 434, 435, 436, 437, 438] (by decide +kernel) (by decide +kernel)
set_option maxRecDepth 20000 in
theorem gL_law_X3_viewGet : GoodIn wsL_law (wsV RL 78 RX3 yX3_viewGet wsX3_viewGet) := goodIn_app (goodIn_of _ (by decide +kernel)) ggL_law_X3_viewGet
set_option maxRecDepth 20000 in
theorem ggL_law_X2_viewRemove : GoodIn wsL_law wsX2_viewRemove := goodIn_r _ [358, 22, 15, 106, 339, 242, 243, 18, 244, 245, 246, 247, 248, 36, 35, 249, 250, 251, 252, 38, 37, 127, 128, 129, 14, 130, 53, 29, 54, 55, 56, 57, 30, 28, 58, 59, 60, 61, 131, 132, 133, 134, 135, 136, 137, 138, 139, 140, 141, 142, 425, 426, 427, 428, 442, 443, 444, 445, 439, 440, 441] (by decide +kernel) (by decide +kernel)
set_option maxRecDepth 20000 in
theorem gL_law_X2_viewRemove : GoodIn wsL_law (wsV RL 79 RX2 yX2_viewRemove wsX2_viewRemove) := goodIn_app (goodIn_of _ (by decide +kernel)) ggL_law_X2_viewRemove
set_option maxRecDepth 20000 in
theorem ggL_law_X3_viewRemove : GoodIn wsL_law wsX3_viewRemove := goodIn_r _ [362, 70, 294, 295, 296, 5, 297, 267, 274, 275, 268, 280, 281, 363, 144, 145, 146, 44, 71, 72, 73, 74, 75, 43, 76, 77, 78, 79, 147, 148, 149, 150, 429, 430, 431, 432, 433, 434, 435, 436, 437, 438] (by decide +kernel) (by decide +kernel)
set_option maxRecDepth 20000 in
theorem gL_law_X3_viewRemove : GoodIn wsL_law (wsV RL 82 RX3 yX3_viewRemove wsX3_viewRemove) := goodIn_app (goodIn_of _ (by decide +kernel)) ggL_law_X3_viewRemove
set_option maxRecDepth 20000 in
theorem ggL_law_X2_viewNear : GoodIn wsL_law wsX2_viewNear := goodIn_r _ [367, 23, 368, 369, 2, 370, 310, 311, 312, 313, 15, 22, 314, 246, 247, 18, 248, 36, 35, 179, 55, 56, 14, 57, 30, 28, 306, 307, 308, 309, 176, 177, 96, 178, 315, 250, 251, 252, 38, 37, 171, 172, 173, 174, 175, 95, 97, 106, 180, 181, 182, 183, 184, 185, 186, 187, 53, 425, 426, 427, 428, 442, 443, 444, 445, 439, 440, 441] (by decide +kernel) (by decide +kernel)
set_option maxRecDepth 20000 in
theorem gL_law_X2_viewNear : GoodIn wsL_law (wsV RL 83 RX2 yX2_viewNear wsX2_viewNear) := goodIn_app (goodIn_of _ (by decide +kernel)) ggL_law_X2_viewNear
set_option maxRecDepth 20000 in
theorem ggL_law_X3_viewNear : GoodIn wsL_law wsX3_viewNear := goodIn_r _ [374, 70, 269, 328, 329, 330, 5, 331, 75, 43, 268, 280, 294, 295, 296, 297, 267, 274, 275, 281, 324, 325, 326, 327, 192, 193, 194, 195, 196, 197, 198, 199, 429, 430, 431, 432, 433, 434, 435, 436, 437, 438] (by decide +kernel) (by decide +kernel)
set_option maxRecDepth 20000 in
theorem gL_law_X3_viewNear : GoodIn wsL_law (wsV RL 86 RX3 yX3_viewNear wsX3_viewNear) := goodIn_app (goodIn_of _ (by decide +kernel)) ggL_law_X3_viewNear
set_option maxRecDepth 20000 in
theorem ggL_law_X2_viewPoll : GoodIn wsL_law wsX2_viewPoll := goodIn_r _ [378, 23, 310, 311, 312, 2, 313, 15, 22, 314, 246, 247, 18, 248, 36, 35, 179, 55, 56, 14, 57, 30, 28, 306, 307, 308, 309, 176, 177, 96, 178, 315, 250, 251, 252, 38, 37, 204, 205, 206, 207, 106, 180, 181, 182, 183, 184, 185, 186, 187, 53, 208, 132, 133, 134, 135, 136, 137, 138, 29, 139, 140, 141, 142, 425, 426, 427, 428, 442, 443, 444, 445, 439, 440, 441] (by decide +kernel) (by decide +kernel)
set_option maxRecDepth 20000 in
theorem gL_law_X2_viewPoll : GoodIn wsL_law (wsV RL 87 RX2 yX2_viewPoll wsX2_viewPoll) := goodIn_app (goodIn_of _ (by decide +kernel)) ggL_law_X2_viewPoll
set_option maxRecDepth 20000 in
theorem ggL_law_X3_viewPoll : GoodIn wsL_law wsX3_viewPoll := goodIn_r _ [382, 70, 269, 43, 328, 329, 330, 5, 331, 75, 268, 280, 294, 295, 296, 297, 267, 274, 275, 281, 324, 325, 326, 327, 147, 148, 149, 150, 44, 429, 430, 431, 432, 433, 434, 435, 436, 437, 438] (by decide +kernel) (by decide +kernel)
set_option maxRecDepth 20000 in
theorem gL_law_X3_viewPoll : GoodIn wsL_law (wsV RL 90 RX3 yX3_viewPoll wsX3_viewPoll) := goodIn_app (goodIn_of _ (by decide +kernel)) ggL_law_X3_viewPoll
set_option maxRecDepth 20000 in
theorem ggL_law_X2_viewKey : GoodIn wsL_law wsX2_viewKey := goodIn_r _ [386, 106, 15, 23, 310, 311, 312, 2, 313, 22, 314, 246, 247, 18, 248, 36, 35, 179, 55, 56, 14, 57, 30, 28, 306, 307, 308, 309, 176, 177, 96, 178, 315, 250, 251, 252, 38, 37, 184, 185, 186, 187, 53, 425, 426, 427, 428, 442, 443, 444, 445, 439, 440, 441] (by decide +kernel) (by decide +kernel)
set_option maxRecDepth 20000 in
theorem gL_law_X2_viewKey : GoodIn wsL_law (wsV RL 91 RX2 yX2_viewKey wsX2_viewKey) := goodIn_app (goodIn_of _ (by decide +kernel)) ggL_law_X2_viewKey
set_option maxRecDepth 20000 in
theorem ggL_law_X3_viewKey : GoodIn wsL_law wsX3_viewKey := goodIn_r _ [390, 70, 43, 269, 328, 329, 330, 5, 331, 75, 268, 280, 294, 295, 296, 297, 267, 274, 275, 281, 324, 325, 326, 327, 429, 430, 431, 432, 433, 434, 435, 436, 437, 438] (by decide +kernel) (by decide +kernel)
set_option maxRecDepth 20000 in
theorem gL_law_X3_viewKey : GoodIn wsL_law (wsV RL 94 RX3 yX3_viewKey wsX3_viewKey) := goodIn_app (goodIn_of _ (by decide +kernel)) ggL_law_X3_viewKey
set_option maxRecDepth 20000 in
theorem ggL_law_X2_walk : GoodIn wsL_law wsX2_walk := goodIn_r _ [394, 23, 15, 310, 311, 312, 2, 313, 22, 314, 246, 247, 18, 248, 36, 35, 179, 55, 56, 14, 57, 30, 28, 306, 307, 308, 309, 176, 177, 96, 178, 315, 250, 251, 252, 38, 37, 184, 185, 186, 187, 53, 425, 426, 427, 428, 442, 443, 444, 445, 439, 440, 441] (by decide +kernel) (by decide +kernel)
set_option maxRecDepth 20000 in
theorem gL_law_X2_walk : GoodIn wsL_law (wsV RL 95 RX2 yX2_walk wsX2_walk) := goodIn_app (goodIn_of _ (by decide +kernel)) ggL_law_X2_walk
set_option maxRecDepth 20000 in
theorem ggL_law_X3_walk : GoodIn wsL_law wsX3_walk := goodIn_r _ [398, 43, 269, 328, 329, 330, 5, 331, 75, 268, 280, 294, 295, 296, 297, 267, 274, 275, 281, 324, 325, 326, 327, 429, 430, 431, 432, 433, 434, 435, 436, 437, 438] (by decide +kernel) (by decide +kernel)
set_option maxRecDepth 20000 in
theorem gL_law_X3_walk : GoodIn wsL_law (wsV RL 99 RX3 yX3_walk wsX3_walk) := goodIn_app (goodIn_of _ (by decide +kernel)) ggL_law_X3_walk
set_option maxRecDepth 20000 in
theorem ggL_law_X2_sweep : GoodIn wsL_law wsX2_sweep := goodIn_r _ [402, 15, 310, 311, 312, 2, 313, 22, 314, 246, 247, 18, 248, 36, 35, 179, 55, 56, 14, 57, 30, 28, 306, 307, 308, 309, 176, 177, 96, 178, 315, 250, 251, 252, 38, 37, 403, 136, 137, 138, 29, 139, 140, 141, 142, 425, 426, 427, 428, 442, 443, 444, 445, 439, 440, 441] (by decide +kernel) (by decide +kernel)
set_option maxRecDepth 20000 in
theorem gL_law_X2_sweep : GoodIn wsL_law (wsV RL 100 RX2 yX2_sweep wsX2_sweep) := goodIn_app (goodIn_of _ (by decide +kernel)) ggL_law_X2_sweep
set_option maxRecDepth 20000 in
theorem ggL_law_X3_sweep : GoodIn wsL_law wsX3_sweep := goodIn_r _ [407, 43, 328, 329, 330, 5, 331, 75, 268, 280, 294, 295, 296, 297, 267, 274, 275, 281, 324, 325, 326, 327, 408, 140, 141, 142, 147, 148, 149, 150, 44, 429, 430, 431, 432, 433, 434, 435, 436, 437, 438] (by decide +kernel) (by decide +kernel)
set_option maxRecDepth 20000 in
theorem gL_law_X3_sweep : GoodIn wsL_law (wsV RL 104 RX3 yX3_sweep wsX3_sweep) := goodIn_app (goodIn_of _ (by decide +kernel)) ggL_law_X3_sweep
set_option maxRecDepth 20000 in
theorem ggL_law_X2_viewClear : GoodIn wsL_law wsX2_viewClear := goodIn_r _ [412, 15, 310, 311, 312, 2, 313, 22, 314, 246, 247, 18, 248, 36, 35, 179, 55, 56, 14, 57, 30, 28, 306, 307, 308, 309, 176, 177, 96, 178, 315, 250, 251, 252, 38, 37, 208, 132, 133, 134, 135, 136, 137, 138, 29, 139, 140, 141, 142, 425, 426, 427, 428, 442, 443, 444, 445, 439, 440, 441] (by decide +kernel) (by decide +kernel)
set_option maxRecDepth 20000 in
theorem gL_law_X2_viewClear : GoodIn wsL_law (wsV RL 105 RX2 yX2_viewClear wsX2_viewClear) := goodIn_app (goodIn_of _ (by decide +kernel)) ggL_law_X2_viewClear
set_option maxRecDepth 20000 in
theorem ggL_law_X3_viewClear : GoodIn wsL_law wsX3_viewClear := goodIn_r _ [416, 328, 329, 330, 5, 331, 75, 43, 268, 280, 294, 295, 296, 297, 267, 274, 275, 281, 324, 325, 326, 327, 147, 148, 149, 150, 44, 429, 430, 431, 432, 433, 434, 435, 436, 437, 438] (by decide +kernel) (by decide +kernel)
set_option maxRecDepth 20000 in
theorem gL_law_X3_viewClear : GoodIn wsL_law (wsV RL 108 RX3 yX3_viewClear wsX3_viewClear) := goodIn_app (goodIn_of _ (by decide +kernel)) ggL_law_X3_viewClear
set_option maxRecDepth 20000 in
theorem ggL_law_X2_again : GoodIn wsL_law wsX2_again := goodIn_r _ [420, 15, 21, 22, 23, 167, 168, 169, 14, 170, 30, 425, 426, 427, 428, 439, 440, 441] (by decide +kernel) (by decide +kernel)
set_option maxRecDepth 20000 in
theorem gL_law_X2_again : GoodIn wsL_law (wsV RL 109 RX2 yX2_again wsX2_again) := goodIn_app (goodIn_of _ (by decide +kernel)) ggL_law_X2_again
set_option maxRecDepth 20000 in
theorem ggL_law_X3_again : GoodIn wsL_law wsX3_again := goodIn_r _ [424, 75, 263, 264, 265, 5, 266, 267, 268, 269, 429, 430, 431, 432, 433, 434, 435, 436, 437, 438] (by decide +kernel) (by decide +kernel)
set_option maxRecDepth 20000 in
theorem gL_law_X3_again : GoodIn wsL_law (wsV RL 112 RX3 yX3_again wsX3_again) := goodIn_app (goodIn_of _ (by decide +kernel)) ggL_law_X3_again
theorem dL_law_0 : decode cL_law 0 = .ok (.new 7, 3) := by decide +kernel
theorem dL_law_3 : decode cL_law 3 = .ok (.dup, 1) := by decide +kernel
theorem dL_law_4 : decode cL_law 4 = .ok (.invokespecial 9, 3) := by decide +kernel
theorem dL_law_7 : decode cL_law 7 = .ok (.astore_n 1, 1) := by decide +kernel
theorem dL_law_8 : decode cL_law 8 = .ok (.new 10, 3) := by decide +kernel
theorem dL_law_11 : decode cL_law 11 = .ok (.dup, 1) := by decide +kernel
theorem dL_law_12 : decode cL_law 12 = .ok (.invokespecial 12, 3) := by decide +kernel
theorem dL_law_15 : decode cL_law 15 = .ok (.astore_n 2, 1) := by decide +kernel
theorem dL_law_16 : decode cL_law 16 = .ok (.iconst 0, 1) := by decide +kernel
theorem dL_law_17 : decode cL_law 17 = .ok (.istore_n 3, 1) := by decide +kernel
theorem dL_law_18 : decode cL_law 18 = .ok (.iload_n 3, 1) := by decide +kernel
theorem dL_law_19 : decode cL_law 19 = .ok (.aload_n 0, 1) := by decide +kernel
theorem dL_law_20 : decode cL_law 20 = .ok (.arraylength, 1) := by decide +kernel
theorem dL_law_21 : decode cL_law 21 = .ok (.bipush 6, 2) := by decide +kernel
theorem dL_law_23 : decode cL_law 23 = .ok (.isub, 1) := by decide +kernel
theorem dL_law_24 : decode cL_law 24 = .ok (.if_icmp .gt 840, 3) := by decide +kernel
theorem dL_law_27 : decode cL_law 27 = .ok (.aload_n 0, 1) := by decide +kernel
theorem dL_law_28 : decode cL_law 28 = .ok (.iload_n 3, 1) := by decide +kernel
theorem dL_law_29 : decode cL_law 29 = .ok (.iaload, 1) := by decide +kernel
theorem dL_law_30 : decode cL_law 30 = .ok (.bipush 31, 2) := by decide +kernel
theorem dL_law_32 : decode cL_law 32 = .ok (.iand, 1) := by decide +kernel
theorem dL_law_33 : decode cL_law 33 = .ok (.tableswitch 825 0 22 #[107, 141, 175, 199, 223, 256, 290, 330, 343, 356, 451, 546, 559, 572, 606, 630, 654, 688, 728, 752, 766, 799, 812], 107) := by decide +kernel
theorem dL_law_140 : decode cL_law 140 = .ok (.aload_n 1, 1) := by decide +kernel
theorem dL_law_141 : decode cL_law 141 = .ok (.aload_n 0, 1) := by decide +kernel
theorem dL_law_142 : decode cL_law 142 = .ok (.iload_n 3, 1) := by decide +kernel
theorem dL_law_143 : decode cL_law 143 = .ok (.iconst 1, 1) := by decide +kernel
theorem dL_law_144 : decode cL_law 144 = .ok (.iadd, 1) := by decide +kernel
theorem dL_law_145 : decode cL_law 145 = .ok (.iaload, 1) := by decide +kernel
theorem dL_law_146 : decode cL_law 146 = .ok (.aload_n 0, 1) := by decide +kernel
theorem dL_law_147 : decode cL_law 147 = .ok (.iload_n 3, 1) := by decide +kernel
theorem dL_law_148 : decode cL_law 148 = .ok (.iconst 2, 1) := by decide +kernel
theorem dL_law_149 : decode cL_law 149 = .ok (.iadd, 1) := by decide +kernel
theorem dL_law_150 : decode cL_law 150 = .ok (.iaload, 1) := by decide +kernel
theorem dL_law_151 : decode cL_law 151 = .ok (.invokevirtual 13, 3) := by decide +kernel
theorem dL_law_154 : decode cL_law 154 = .ok (.aload_n 2, 1) := by decide +kernel
theorem dL_law_155 : decode cL_law 155 = .ok (.aload_n 0, 1) := by decide +kernel
theorem dL_law_156 : decode cL_law 156 = .ok (.iload_n 3, 1) := by decide +kernel
theorem dL_law_157 : decode cL_law 157 = .ok (.iconst 1, 1) := by decide +kernel
theorem dL_law_158 : decode cL_law 158 = .ok (.iadd, 1) := by decide +kernel
theorem dL_law_159 : decode cL_law 159 = .ok (.iaload, 1) := by decide +kernel
theorem dL_law_160 : decode cL_law 160 = .ok (.aload_n 0, 1) := by decide +kernel
theorem dL_law_161 : decode cL_law 161 = .ok (.iload_n 3, 1) := by decide +kernel
theorem dL_law_162 : decode cL_law 162 = .ok (.iconst 2, 1) := by decide +kernel
theorem dL_law_163 : decode cL_law 163 = .ok (.iadd, 1) := by decide +kernel
theorem dL_law_164 : decode cL_law 164 = .ok (.iaload, 1) := by decide +kernel
end
section
theorem dL_law_165 : decode cL_law 165 = .ok (.invokevirtual 17, 3) := by decide +kernel
theorem dL_law_168 : decode cL_law 168 = .ok (.lcmp, 1) := by decide +kernel
theorem dL_law_169 : decode cL_law 169 = .ok (.ifCond .eq 689, 3) := by decide +kernel
theorem dL_law_172 : decode cL_law 172 = .ok (.iconst 0, 1) := by decide +kernel
theorem dL_law_173 : decode cL_law 173 = .ok (.ireturn, 1) := by decide +kernel
theorem dL_law_174 : decode cL_law 174 = .ok (.aload_n 1, 1) := by decide +kernel
theorem dL_law_175 : decode cL_law 175 = .ok (.aload_n 0, 1) := by decide +kernel
theorem dL_law_176 : decode cL_law 176 = .ok (.iload_n 3, 1) := by decide +kernel
theorem dL_law_177 : decode cL_law 177 = .ok (.iconst 1, 1) := by decide +kernel
theorem dL_law_178 : decode cL_law 178 = .ok (.iadd, 1) := by decide +kernel
theorem dL_law_179 : decode cL_law 179 = .ok (.iaload, 1) := by decide +kernel
theorem dL_law_180 : decode cL_law 180 = .ok (.aload_n 0, 1) := by decide +kernel
theorem dL_law_181 : decode cL_law 181 = .ok (.iload_n 3, 1) := by decide +kernel
theorem dL_law_182 : decode cL_law 182 = .ok (.iconst 2, 1) := by decide +kernel
theorem dL_law_183 : decode cL_law 183 = .ok (.iadd, 1) := by decide +kernel
theorem dL_law_184 : decode cL_law 184 = .ok (.iaload, 1) := by decide +kernel
theorem dL_law_185 : decode cL_law 185 = .ok (.invokevirtual 18, 3) := by decide +kernel
theorem dL_law_188 : decode cL_law 188 = .ok (.aload_n 2, 1) := by decide +kernel
theorem dL_law_189 : decode cL_law 189 = .ok (.aload_n 0, 1) := by decide +kernel
theorem dL_law_190 : decode cL_law 190 = .ok (.iload_n 3, 1) := by decide +kernel
theorem dL_law_191 : decode cL_law 191 = .ok (.iconst 1, 1) := by decide +kernel
theorem dL_law_192 : decode cL_law 192 = .ok (.iadd, 1) := by decide +kernel
theorem dL_law_193 : decode cL_law 193 = .ok (.iaload, 1) := by decide +kernel
theorem dL_law_194 : decode cL_law 194 = .ok (.aload_n 0, 1) := by decide +kernel
theorem dL_law_195 : decode cL_law 195 = .ok (.iload_n 3, 1) := by decide +kernel
theorem dL_law_196 : decode cL_law 196 = .ok (.iconst 2, 1) := by decide +kernel
theorem dL_law_197 : decode cL_law 197 = .ok (.iadd, 1) := by decide +kernel
theorem dL_law_198 : decode cL_law 198 = .ok (.iaload, 1) := by decide +kernel
theorem dL_law_199 : decode cL_law 199 = .ok (.invokevirtual 21, 3) := by decide +kernel
theorem dL_law_202 : decode cL_law 202 = .ok (.lcmp, 1) := by decide +kernel
theorem dL_law_203 : decode cL_law 203 = .ok (.ifCond .eq 655, 3) := by decide +kernel
theorem dL_law_206 : decode cL_law 206 = .ok (.iconst 0, 1) := by decide +kernel
theorem dL_law_207 : decode cL_law 207 = .ok (.ireturn, 1) := by decide +kernel
theorem dL_law_208 : decode cL_law 208 = .ok (.aload_n 1, 1) := by decide +kernel
theorem dL_law_209 : decode cL_law 209 = .ok (.aload_n 0, 1) := by decide +kernel
theorem dL_law_210 : decode cL_law 210 = .ok (.iload_n 3, 1) := by decide +kernel
theorem dL_law_211 : decode cL_law 211 = .ok (.iconst 1, 1) := by decide +kernel
theorem dL_law_212 : decode cL_law 212 = .ok (.iadd, 1) := by decide +kernel
theorem dL_law_213 : decode cL_law 213 = .ok (.iaload, 1) := by decide +kernel
theorem dL_law_214 : decode cL_law 214 = .ok (.invokevirtual 22, 3) := by decide +kernel
theorem dL_law_217 : decode cL_law 217 = .ok (.aload_n 2, 1) := by decide +kernel
theorem dL_law_218 : decode cL_law 218 = .ok (.aload_n 0, 1) := by decide +kernel
theorem dL_law_219 : decode cL_law 219 = .ok (.iload_n 3, 1) := by decide +kernel
theorem dL_law_220 : decode cL_law 220 = .ok (.iconst 1, 1) := by decide +kernel
theorem dL_law_221 : decode cL_law 221 = .ok (.iadd, 1) := by decide +kernel
theorem dL_law_222 : decode cL_law 222 = .ok (.iaload, 1) := by decide +kernel
theorem dL_law_223 : decode cL_law 223 = .ok (.invokevirtual 26, 3) := by decide +kernel
theorem dL_law_226 : decode cL_law 226 = .ok (.lcmp, 1) := by decide +kernel
theorem dL_law_227 : decode cL_law 227 = .ok (.ifCond .eq 631, 3) := by decide +kernel
theorem dL_law_230 : decode cL_law 230 = .ok (.iconst 0, 1) := by decide +kernel
theorem dL_law_231 : decode cL_law 231 = .ok (.ireturn, 1) := by decide +kernel
theorem dL_law_232 : decode cL_law 232 = .ok (.aload_n 1, 1) := by decide +kernel
theorem dL_law_233 : decode cL_law 233 = .ok (.aload_n 0, 1) := by decide +kernel
theorem dL_law_234 : decode cL_law 234 = .ok (.iload_n 3, 1) := by decide +kernel
theorem dL_law_235 : decode cL_law 235 = .ok (.iconst 1, 1) := by decide +kernel
theorem dL_law_236 : decode cL_law 236 = .ok (.iadd, 1) := by decide +kernel
theorem dL_law_237 : decode cL_law 237 = .ok (.iaload, 1) := by decide +kernel
theorem dL_law_238 : decode cL_law 238 = .ok (.invokevirtual 27, 3) := by decide +kernel
theorem dL_law_241 : decode cL_law 241 = .ok (.aload_n 2, 1) := by decide +kernel
theorem dL_law_242 : decode cL_law 242 = .ok (.aload_n 0, 1) := by decide +kernel
theorem dL_law_243 : decode cL_law 243 = .ok (.iload_n 3, 1) := by decide +kernel
theorem dL_law_244 : decode cL_law 244 = .ok (.iconst 1, 1) := by decide +kernel
theorem dL_law_245 : decode cL_law 245 = .ok (.iadd, 1) := by decide +kernel
theorem dL_law_246 : decode cL_law 246 = .ok (.iaload, 1) := by decide +kernel
theorem dL_law_247 : decode cL_law 247 = .ok (.invokevirtual 30, 3) := by decide +kernel
theorem dL_law_250 : decode cL_law 250 = .ok (.lcmp, 1) := by decide +kernel
theorem dL_law_251 : decode cL_law 251 = .ok (.ifCond .eq 607, 3) := by decide +kernel
theorem dL_law_254 : decode cL_law 254 = .ok (.iconst 0, 1) := by decide +kernel
theorem dL_law_255 : decode cL_law 255 = .ok (.ireturn, 1) := by decide +kernel
theorem dL_law_256 : decode cL_law 256 = .ok (.aload_n 1, 1) := by decide +kernel
theorem dL_law_257 : decode cL_law 257 = .ok (.aload_n 0, 1) := by decide +kernel
theorem dL_law_258 : decode cL_law 258 = .ok (.iload_n 3, 1) := by decide +kernel
theorem dL_law_259 : decode cL_law 259 = .ok (.iconst 1, 1) := by decide +kernel
theorem dL_law_260 : decode cL_law 260 = .ok (.iadd, 1) := by decide +kernel
theorem dL_law_261 : decode cL_law 261 = .ok (.iaload, 1) := by decide +kernel
theorem dL_law_262 : decode cL_law 262 = .ok (.aload_n 0, 1) := by decide +kernel
theorem dL_law_263 : decode cL_law 263 = .ok (.iload_n 3, 1) := by decide +kernel
theorem dL_law_264 : decode cL_law 264 = .ok (.iconst 2, 1) := by decide +kernel
theorem dL_law_265 : decode cL_law 265 = .ok (.iadd, 1) := by decide +kernel
theorem dL_law_266 : decode cL_law 266 = .ok (.iaload, 1) := by decide +kernel
theorem dL_law_267 : decode cL_law 267 = .ok (.invokevirtual 31, 3) := by decide +kernel
theorem dL_law_270 : decode cL_law 270 = .ok (.aload_n 2, 1) := by decide +kernel
theorem dL_law_271 : decode cL_law 271 = .ok (.aload_n 0, 1) := by decide +kernel
theorem dL_law_272 : decode cL_law 272 = .ok (.iload_n 3, 1) := by decide +kernel
theorem dL_law_273 : decode cL_law 273 = .ok (.iconst 1, 1) := by decide +kernel
theorem dL_law_274 : decode cL_law 274 = .ok (.iadd, 1) := by decide +kernel
theorem dL_law_275 : decode cL_law 275 = .ok (.iaload, 1) := by decide +kernel
theorem dL_law_276 : decode cL_law 276 = .ok (.aload_n 0, 1) := by decide +kernel
theorem dL_law_277 : decode cL_law 277 = .ok (.iload_n 3, 1) := by decide +kernel
theorem dL_law_278 : decode cL_law 278 = .ok (.iconst 2, 1) := by decide +kernel
theorem dL_law_279 : decode cL_law 279 = .ok (.iadd, 1) := by decide +kernel
theorem dL_law_280 : decode cL_law 280 = .ok (.iaload, 1) := by decide +kernel
theorem dL_law_281 : decode cL_law 281 = .ok (.invokevirtual 35, 3) := by decide +kernel
theorem dL_law_284 : decode cL_law 284 = .ok (.if_icmp .eq 574, 3) := by decide +kernel
theorem dL_law_287 : decode cL_law 287 = .ok (.iconst 0, 1) := by decide +kernel
theorem dL_law_288 : decode cL_law 288 = .ok (.ireturn, 1) := by decide +kernel
theorem dL_law_289 : decode cL_law 289 = .ok (.aload_n 1, 1) := by decide +kernel
theorem dL_law_290 : decode cL_law 290 = .ok (.aload_n 0, 1) := by decide +kernel
theorem dL_law_291 : decode cL_law 291 = .ok (.iload_n 3, 1) := by decide +kernel
theorem dL_law_292 : decode cL_law 292 = .ok (.iconst 1, 1) := by decide +kernel
theorem dL_law_293 : decode cL_law 293 = .ok (.iadd, 1) := by decide +kernel
theorem dL_law_294 : decode cL_law 294 = .ok (.iaload, 1) := by decide +kernel
theorem dL_law_295 : decode cL_law 295 = .ok (.aload_n 0, 1) := by decide +kernel
theorem dL_law_296 : decode cL_law 296 = .ok (.iload_n 3, 1) := by decide +kernel
theorem dL_law_297 : decode cL_law 297 = .ok (.iconst 2, 1) := by decide +kernel
theorem dL_law_298 : decode cL_law 298 = .ok (.iadd, 1) := by decide +kernel
theorem dL_law_299 : decode cL_law 299 = .ok (.iaload, 1) := by decide +kernel
theorem dL_law_300 : decode cL_law 300 = .ok (.invokevirtual 36, 3) := by decide +kernel
theorem dL_law_303 : decode cL_law 303 = .ok (.aload_n 2, 1) := by decide +kernel
theorem dL_law_304 : decode cL_law 304 = .ok (.aload_n 0, 1) := by decide +kernel
theorem dL_law_305 : decode cL_law 305 = .ok (.iload_n 3, 1) := by decide +kernel
theorem dL_law_306 : decode cL_law 306 = .ok (.iconst 1, 1) := by decide +kernel
theorem dL_law_307 : decode cL_law 307 = .ok (.iadd, 1) := by decide +kernel
theorem dL_law_308 : decode cL_law 308 = .ok (.iaload, 1) := by decide +kernel
theorem dL_law_309 : decode cL_law 309 = .ok (.aload_n 0, 1) := by decide +kernel
theorem dL_law_310 : decode cL_law 310 = .ok (.iload_n 3, 1) := by decide +kernel
theorem dL_law_311 : decode cL_law 311 = .ok (.iconst 2, 1) := by decide +kernel
theorem dL_law_312 : decode cL_law 312 = .ok (.iadd, 1) := by decide +kernel
theorem dL_law_313 : decode cL_law 313 = .ok (.iaload, 1) := by decide +kernel
theorem dL_law_314 : decode cL_law 314 = .ok (.invokevirtual 39, 3) := by decide +kernel
theorem dL_law_317 : decode cL_law 317 = .ok (.lcmp, 1) := by decide +kernel
theorem dL_law_318 : decode cL_law 318 = .ok (.ifCond .eq 540, 3) := by decide +kernel
theorem dL_law_321 : decode cL_law 321 = .ok (.iconst 0, 1) := by decide +kernel
theorem dL_law_322 : decode cL_law 322 = .ok (.ireturn, 1) := by decide +kernel
theorem dL_law_323 : decode cL_law 323 = .ok (.aload_n 1, 1) := by decide +kernel
theorem dL_law_324 : decode cL_law 324 = .ok (.aload_n 0, 1) := by decide +kernel
theorem dL_law_325 : decode cL_law 325 = .ok (.iload_n 3, 1) := by decide +kernel
theorem dL_law_326 : decode cL_law 326 = .ok (.iconst 1, 1) := by decide +kernel
theorem dL_law_327 : decode cL_law 327 = .ok (.iadd, 1) := by decide +kernel
theorem dL_law_328 : decode cL_law 328 = .ok (.iaload, 1) := by decide +kernel
theorem dL_law_329 : decode cL_law 329 = .ok (.ifCond .eq 7, 3) := by decide +kernel
theorem dL_law_332 : decode cL_law 332 = .ok (.iconst 1, 1) := by decide +kernel
theorem dL_law_333 : decode cL_law 333 = .ok (.goto 4, 3) := by decide +kernel
theorem dL_law_336 : decode cL_law 336 = .ok (.iconst 0, 1) := by decide +kernel
theorem dL_law_337 : decode cL_law 337 = .ok (.invokevirtual 40, 3) := by decide +kernel
theorem dL_law_340 : decode cL_law 340 = .ok (.aload_n 2, 1) := by decide +kernel
theorem dL_law_341 : decode cL_law 341 = .ok (.aload_n 0, 1) := by decide +kernel
theorem dL_law_342 : decode cL_law 342 = .ok (.iload_n 3, 1) := by decide +kernel
theorem dL_law_343 : decode cL_law 343 = .ok (.iconst 1, 1) := by decide +kernel
theorem dL_law_344 : decode cL_law 344 = .ok (.iadd, 1) := by decide +kernel
theorem dL_law_345 : decode cL_law 345 = .ok (.iaload, 1) := by decide +kernel
theorem dL_law_346 : decode cL_law 346 = .ok (.ifCond .eq 7, 3) := by decide +kernel
theorem dL_law_349 : decode cL_law 349 = .ok (.iconst 1, 1) := by decide +kernel
theorem dL_law_350 : decode cL_law 350 = .ok (.goto 4, 3) := by decide +kernel
theorem dL_law_353 : decode cL_law 353 = .ok (.iconst 0, 1) := by decide +kernel
theorem dL_law_354 : decode cL_law 354 = .ok (.invokevirtual 44, 3) := by decide +kernel
theorem dL_law_357 : decode cL_law 357 = .ok (.lcmp, 1) := by decide +kernel
theorem dL_law_358 : decode cL_law 358 = .ok (.ifCond .eq 500, 3) := by decide +kernel
theorem dL_law_361 : decode cL_law 361 = .ok (.iconst 0, 1) := by decide +kernel
theorem dL_law_362 : decode cL_law 362 = .ok (.ireturn, 1) := by decide +kernel
theorem dL_law_363 : decode cL_law 363 = .ok (.aload_n 1, 1) := by decide +kernel
theorem dL_law_364 : decode cL_law 364 = .ok (.invokevirtual 45, 3) := by decide +kernel
theorem dL_law_367 : decode cL_law 367 = .ok (.aload_n 2, 1) := by decide +kernel
theorem dL_law_368 : decode cL_law 368 = .ok (.invokevirtual 49, 3) := by decide +kernel
theorem dL_law_371 : decode cL_law 371 = .ok (.if_icmp .eq 487, 3) := by decide +kernel
theorem dL_law_374 : decode cL_law 374 = .ok (.iconst 0, 1) := by decide +kernel
theorem dL_law_375 : decode cL_law 375 = .ok (.ireturn, 1) := by decide +kernel
theorem dL_law_376 : decode cL_law 376 = .ok (.aload_n 1, 1) := by decide +kernel
theorem dL_law_377 : decode cL_law 377 = .ok (.invokevirtual 50, 3) := by decide +kernel
theorem dL_law_380 : decode cL_law 380 = .ok (.aload_n 2, 1) := by decide +kernel
theorem dL_law_381 : decode cL_law 381 = .ok (.invokevirtual 53, 3) := by decide +kernel
theorem dL_law_384 : decode cL_law 384 = .ok (.if_icmp .eq 474, 3) := by decide +kernel
theorem dL_law_387 : decode cL_law 387 = .ok (.iconst 0, 1) := by decide +kernel
theorem dL_law_388 : decode cL_law 388 = .ok (.ireturn, 1) := by decide +kernel
theorem dL_law_389 : decode cL_law 389 = .ok (.aload_n 1, 1) := by decide +kernel
theorem dL_law_390 : decode cL_law 390 = .ok (.aload_n 0, 1) := by decide +kernel
theorem dL_law_391 : decode cL_law 391 = .ok (.iload_n 3, 1) := by decide +kernel
theorem dL_law_392 : decode cL_law 392 = .ok (.iconst 1, 1) := by decide +kernel
theorem dL_law_393 : decode cL_law 393 = .ok (.iadd, 1) := by decide +kernel
theorem dL_law_394 : decode cL_law 394 = .ok (.iaload, 1) := by decide +kernel
theorem dL_law_395 : decode cL_law 395 = .ok (.aload_n 0, 1) := by decide +kernel
theorem dL_law_396 : decode cL_law 396 = .ok (.iload_n 3, 1) := by decide +kernel
theorem dL_law_397 : decode cL_law 397 = .ok (.iconst 2, 1) := by decide +kernel
theorem dL_law_398 : decode cL_law 398 = .ok (.iadd, 1) := by decide +kernel
theorem dL_law_399 : decode cL_law 399 = .ok (.iaload, 1) := by decide +kernel
theorem dL_law_400 : decode cL_law 400 = .ok (.aload_n 0, 1) := by decide +kernel
theorem dL_law_401 : decode cL_law 401 = .ok (.iload_n 3, 1) := by decide +kernel
theorem dL_law_402 : decode cL_law 402 = .ok (.iconst 3, 1) := by decide +kernel
theorem dL_law_403 : decode cL_law 403 = .ok (.iadd, 1) := by decide +kernel
theorem dL_law_404 : decode cL_law 404 = .ok (.iaload, 1) := by decide +kernel
theorem dL_law_405 : decode cL_law 405 = .ok (.ifCond .eq 7, 3) := by decide +kernel
theorem dL_law_408 : decode cL_law 408 = .ok (.iconst 1, 1) := by decide +kernel
theorem dL_law_409 : decode cL_law 409 = .ok (.goto 4, 3) := by decide +kernel
theorem dL_law_412 : decode cL_law 412 = .ok (.iconst 0, 1) := by decide +kernel
theorem dL_law_413 : decode cL_law 413 = .ok (.aload_n 0, 1) := by decide +kernel
theorem dL_law_414 : decode cL_law 414 = .ok (.iload_n 3, 1) := by decide +kernel
theorem dL_law_415 : decode cL_law 415 = .ok (.iconst 4, 1) := by decide +kernel
theorem dL_law_416 : decode cL_law 416 = .ok (.iadd, 1) := by decide +kernel
theorem dL_law_417 : decode cL_law 417 = .ok (.iaload, 1) := by decide +kernel
theorem dL_law_418 : decode cL_law 418 = .ok (.aload_n 0, 1) := by decide +kernel
theorem dL_law_419 : decode cL_law 419 = .ok (.iload_n 3, 1) := by decide +kernel
theorem dL_law_420 : decode cL_law 420 = .ok (.iconst 5, 1) := by decide +kernel
theorem dL_law_421 : decode cL_law 421 = .ok (.iadd, 1) := by decide +kernel
theorem dL_law_422 : decode cL_law 422 = .ok (.iaload, 1) := by decide +kernel
theorem dL_law_423 : decode cL_law 423 = .ok (.ifCond .eq 7, 3) := by decide +kernel
theorem dL_law_426 : decode cL_law 426 = .ok (.iconst 1, 1) := by decide +kernel
theorem dL_law_427 : decode cL_law 427 = .ok (.goto 4, 3) := by decide +kernel
theorem dL_law_430 : decode cL_law 430 = .ok (.iconst 0, 1) := by decide +kernel
theorem dL_law_431 : decode cL_law 431 = .ok (.invokevirtual 54, 3) := by decide +kernel
theorem dL_law_434 : decode cL_law 434 = .ok (.aload_n 2, 1) := by decide +kernel
theorem dL_law_435 : decode cL_law 435 = .ok (.aload_n 0, 1) := by decide +kernel
theorem dL_law_436 : decode cL_law 436 = .ok (.iload_n 3, 1) := by decide +kernel
theorem dL_law_437 : decode cL_law 437 = .ok (.iconst 1, 1) := by decide +kernel
theorem dL_law_438 : decode cL_law 438 = .ok (.iadd, 1) := by decide +kernel
theorem dL_law_439 : decode cL_law 439 = .ok (.iaload, 1) := by decide +kernel
theorem dL_law_440 : decode cL_law 440 = .ok (.aload_n 0, 1) := by decide +kernel
theorem dL_law_441 : decode cL_law 441 = .ok (.iload_n 3, 1) := by decide +kernel
theorem dL_law_442 : decode cL_law 442 = .ok (.iconst 2, 1) := by decide +kernel
theorem dL_law_443 : decode cL_law 443 = .ok (.iadd, 1) := by decide +kernel
theorem dL_law_444 : decode cL_law 444 = .ok (.iaload, 1) := by decide +kernel
theorem dL_law_445 : decode cL_law 445 = .ok (.aload_n 0, 1) := by decide +kernel
theorem dL_law_446 : decode cL_law 446 = .ok (.iload_n 3, 1) := by decide +kernel
theorem dL_law_447 : decode cL_law 447 = .ok (.iconst 3, 1) := by decide +kernel
theorem dL_law_448 : decode cL_law 448 = .ok (.iadd, 1) := by decide +kernel
theorem dL_law_449 : decode cL_law 449 = .ok (.iaload, 1) := by decide +kernel
theorem dL_law_450 : decode cL_law 450 = .ok (.ifCond .eq 7, 3) := by decide +kernel
theorem dL_law_453 : decode cL_law 453 = .ok (.iconst 1, 1) := by decide +kernel
theorem dL_law_454 : decode cL_law 454 = .ok (.goto 4, 3) := by decide +kernel
theorem dL_law_457 : decode cL_law 457 = .ok (.iconst 0, 1) := by decide +kernel
theorem dL_law_458 : decode cL_law 458 = .ok (.aload_n 0, 1) := by decide +kernel
theorem dL_law_459 : decode cL_law 459 = .ok (.iload_n 3, 1) := by decide +kernel
theorem dL_law_460 : decode cL_law 460 = .ok (.iconst 4, 1) := by decide +kernel
theorem dL_law_461 : decode cL_law 461 = .ok (.iadd, 1) := by decide +kernel
theorem dL_law_462 : decode cL_law 462 = .ok (.iaload, 1) := by decide +kernel
theorem dL_law_463 : decode cL_law 463 = .ok (.aload_n 0, 1) := by decide +kernel
theorem dL_law_464 : decode cL_law 464 = .ok (.iload_n 3, 1) := by decide +kernel
theorem dL_law_465 : decode cL_law 465 = .ok (.iconst 5, 1) := by decide +kernel
theorem dL_law_466 : decode cL_law 466 = .ok (.iadd, 1) := by decide +kernel
theorem dL_law_467 : decode cL_law 467 = .ok (.iaload, 1) := by decide +kernel
theorem dL_law_468 : decode cL_law 468 = .ok (.ifCond .eq 7, 3) := by decide +kernel
theorem dL_law_471 : decode cL_law 471 = .ok (.iconst 1, 1) := by decide +kernel
theorem dL_law_472 : decode cL_law 472 = .ok (.goto 4, 3) := by decide +kernel
theorem dL_law_475 : decode cL_law 475 = .ok (.iconst 0, 1) := by decide +kernel
theorem dL_law_476 : decode cL_law 476 = .ok (.invokevirtual 58, 3) := by decide +kernel
theorem dL_law_479 : decode cL_law 479 = .ok (.if_icmp .eq 379, 3) := by decide +kernel
theorem dL_law_482 : decode cL_law 482 = .ok (.iconst 0, 1) := by decide +kernel
theorem dL_law_483 : decode cL_law 483 = .ok (.ireturn, 1) := by decide +kernel
theorem dL_law_484 : decode cL_law 484 = .ok (.aload_n 1, 1) := by decide +kernel
theorem dL_law_485 : decode cL_law 485 = .ok (.aload_n 0, 1) := by decide +kernel
theorem dL_law_486 : decode cL_law 486 = .ok (.iload_n 3, 1) := by decide +kernel
theorem dL_law_487 : decode cL_law 487 = .ok (.iconst 1, 1) := by decide +kernel
theorem dL_law_488 : decode cL_law 488 = .ok (.iadd, 1) := by decide +kernel
theorem dL_law_489 : decode cL_law 489 = .ok (.iaload, 1) := by decide +kernel
theorem dL_law_490 : decode cL_law 490 = .ok (.aload_n 0, 1) := by decide +kernel
theorem dL_law_491 : decode cL_law 491 = .ok (.iload_n 3, 1) := by decide +kernel
theorem dL_law_492 : decode cL_law 492 = .ok (.iconst 2, 1) := by decide +kernel
theorem dL_law_493 : decode cL_law 493 = .ok (.iadd, 1) := by decide +kernel
theorem dL_law_494 : decode cL_law 494 = .ok (.iaload, 1) := by decide +kernel
theorem dL_law_495 : decode cL_law 495 = .ok (.aload_n 0, 1) := by decide +kernel
theorem dL_law_496 : decode cL_law 496 = .ok (.iload_n 3, 1) := by decide +kernel
theorem dL_law_497 : decode cL_law 497 = .ok (.iconst 3, 1) := by decide +kernel
theorem dL_law_498 : decode cL_law 498 = .ok (.iadd, 1) := by decide +kernel
theorem dL_law_499 : decode cL_law 499 = .ok (.iaload, 1) := by decide +kernel
theorem dL_law_500 : decode cL_law 500 = .ok (.ifCond .eq 7, 3) := by decide +kernel
theorem dL_law_503 : decode cL_law 503 = .ok (.iconst 1, 1) := by decide +kernel
theorem dL_law_504 : decode cL_law 504 = .ok (.goto 4, 3) := by decide +kernel
theorem dL_law_507 : decode cL_law 507 = .ok (.iconst 0, 1) := by decide +kernel
theorem dL_law_508 : decode cL_law 508 = .ok (.aload_n 0, 1) := by decide +kernel
theorem dL_law_509 : decode cL_law 509 = .ok (.iload_n 3, 1) := by decide +kernel
theorem dL_law_510 : decode cL_law 510 = .ok (.iconst 4, 1) := by decide +kernel
theorem dL_law_511 : decode cL_law 511 = .ok (.iadd, 1) := by decide +kernel
theorem dL_law_512 : decode cL_law 512 = .ok (.iaload, 1) := by decide +kernel
theorem dL_law_513 : decode cL_law 513 = .ok (.aload_n 0, 1) := by decide +kernel
theorem dL_law_514 : decode cL_law 514 = .ok (.iload_n 3, 1) := by decide +kernel
theorem dL_law_515 : decode cL_law 515 = .ok (.iconst 5, 1) := by decide +kernel
theorem dL_law_516 : decode cL_law 516 = .ok (.iadd, 1) := by decide +kernel
theorem dL_law_517 : decode cL_law 517 = .ok (.iaload, 1) := by decide +kernel
theorem dL_law_518 : decode cL_law 518 = .ok (.ifCond .eq 7, 3) := by decide +kernel
theorem dL_law_521 : decode cL_law 521 = .ok (.iconst 1, 1) := by decide +kernel
theorem dL_law_522 : decode cL_law 522 = .ok (.goto 4, 3) := by decide +kernel
theorem dL_law_525 : decode cL_law 525 = .ok (.iconst 0, 1) := by decide +kernel
theorem dL_law_526 : decode cL_law 526 = .ok (.invokevirtual 59, 3) := by decide +kernel
theorem dL_law_529 : decode cL_law 529 = .ok (.aload_n 2, 1) := by decide +kernel
theorem dL_law_530 : decode cL_law 530 = .ok (.aload_n 0, 1) := by decide +kernel
theorem dL_law_531 : decode cL_law 531 = .ok (.iload_n 3, 1) := by decide +kernel
theorem dL_law_532 : decode cL_law 532 = .ok (.iconst 1, 1) := by decide +kernel
theorem dL_law_533 : decode cL_law 533 = .ok (.iadd, 1) := by decide +kernel
theorem dL_law_534 : decode cL_law 534 = .ok (.iaload, 1) := by decide +kernel
theorem dL_law_535 : decode cL_law 535 = .ok (.aload_n 0, 1) := by decide +kernel
theorem dL_law_536 : decode cL_law 536 = .ok (.iload_n 3, 1) := by decide +kernel
theorem dL_law_537 : decode cL_law 537 = .ok (.iconst 2, 1) := by decide +kernel
theorem dL_law_538 : decode cL_law 538 = .ok (.iadd, 1) := by decide +kernel
theorem dL_law_539 : decode cL_law 539 = .ok (.iaload, 1) := by decide +kernel
theorem dL_law_540 : decode cL_law 540 = .ok (.aload_n 0, 1) := by decide +kernel
theorem dL_law_541 : decode cL_law 541 = .ok (.iload_n 3, 1) := by decide +kernel
theorem dL_law_542 : decode cL_law 542 = .ok (.iconst 3, 1) := by decide +kernel
theorem dL_law_543 : decode cL_law 543 = .ok (.iadd, 1) := by decide +kernel
theorem dL_law_544 : decode cL_law 544 = .ok (.iaload, 1) := by decide +kernel
theorem dL_law_545 : decode cL_law 545 = .ok (.ifCond .eq 7, 3) := by decide +kernel
theorem dL_law_548 : decode cL_law 548 = .ok (.iconst 1, 1) := by decide +kernel
theorem dL_law_549 : decode cL_law 549 = .ok (.goto 4, 3) := by decide +kernel
theorem dL_law_552 : decode cL_law 552 = .ok (.iconst 0, 1) := by decide +kernel
theorem dL_law_553 : decode cL_law 553 = .ok (.aload_n 0, 1) := by decide +kernel
theorem dL_law_554 : decode cL_law 554 = .ok (.iload_n 3, 1) := by decide +kernel
theorem dL_law_555 : decode cL_law 555 = .ok (.iconst 4, 1) := by decide +kernel
theorem dL_law_556 : decode cL_law 556 = .ok (.iadd, 1) := by decide +kernel
theorem dL_law_557 : decode cL_law 557 = .ok (.iaload, 1) := by decide +kernel
theorem dL_law_558 : decode cL_law 558 = .ok (.aload_n 0, 1) := by decide +kernel
theorem dL_law_559 : decode cL_law 559 = .ok (.iload_n 3, 1) := by decide +kernel
theorem dL_law_560 : decode cL_law 560 = .ok (.iconst 5, 1) := by decide +kernel
theorem dL_law_561 : decode cL_law 561 = .ok (.iadd, 1) := by decide +kernel
theorem dL_law_562 : decode cL_law 562 = .ok (.iaload, 1) := by decide +kernel
theorem dL_law_563 : decode cL_law 563 = .ok (.ifCond .eq 7, 3) := by decide +kernel
theorem dL_law_566 : decode cL_law 566 = .ok (.iconst 1, 1) := by decide +kernel
theorem dL_law_567 : decode cL_law 567 = .ok (.goto 4, 3) := by decide +kernel
theorem dL_law_570 : decode cL_law 570 = .ok (.iconst 0, 1) := by decide +kernel
theorem dL_law_571 : decode cL_law 571 = .ok (.invokevirtual 62, 3) := by decide +kernel
theorem dL_law_574 : decode cL_law 574 = .ok (.if_icmp .eq 284, 3) := by decide +kernel
theorem dL_law_577 : decode cL_law 577 = .ok (.iconst 0, 1) := by decide +kernel
theorem dL_law_578 : decode cL_law 578 = .ok (.ireturn, 1) := by decide +kernel
theorem dL_law_579 : decode cL_law 579 = .ok (.aload_n 1, 1) := by decide +kernel
theorem dL_law_580 : decode cL_law 580 = .ok (.invokevirtual 63, 3) := by decide +kernel
theorem dL_law_583 : decode cL_law 583 = .ok (.aload_n 2, 1) := by decide +kernel
theorem dL_law_584 : decode cL_law 584 = .ok (.invokevirtual 66, 3) := by decide +kernel
theorem dL_law_587 : decode cL_law 587 = .ok (.if_icmp .eq 271, 3) := by decide +kernel
theorem dL_law_590 : decode cL_law 590 = .ok (.iconst 0, 1) := by decide +kernel
theorem dL_law_591 : decode cL_law 591 = .ok (.ireturn, 1) := by decide +kernel
theorem dL_law_592 : decode cL_law 592 = .ok (.aload_n 1, 1) := by decide +kernel
theorem dL_law_593 : decode cL_law 593 = .ok (.invokevirtual 67, 3) := by decide +kernel
theorem dL_law_596 : decode cL_law 596 = .ok (.aload_n 2, 1) := by decide +kernel
theorem dL_law_597 : decode cL_law 597 = .ok (.invokevirtual 70, 3) := by decide +kernel
theorem dL_law_600 : decode cL_law 600 = .ok (.if_icmp .eq 258, 3) := by decide +kernel
theorem dL_law_603 : decode cL_law 603 = .ok (.iconst 0, 1) := by decide +kernel
theorem dL_law_604 : decode cL_law 604 = .ok (.ireturn, 1) := by decide +kernel
theorem dL_law_605 : decode cL_law 605 = .ok (.aload_n 1, 1) := by decide +kernel
theorem dL_law_606 : decode cL_law 606 = .ok (.aload_n 0, 1) := by decide +kernel
theorem dL_law_607 : decode cL_law 607 = .ok (.iload_n 3, 1) := by decide +kernel
theorem dL_law_608 : decode cL_law 608 = .ok (.iconst 1, 1) := by decide +kernel
theorem dL_law_609 : decode cL_law 609 = .ok (.iadd, 1) := by decide +kernel
theorem dL_law_610 : decode cL_law 610 = .ok (.iaload, 1) := by decide +kernel
theorem dL_law_611 : decode cL_law 611 = .ok (.aload_n 0, 1) := by decide +kernel
theorem dL_law_612 : decode cL_law 612 = .ok (.iload_n 3, 1) := by decide +kernel
theorem dL_law_613 : decode cL_law 613 = .ok (.iconst 2, 1) := by decide +kernel
theorem dL_law_614 : decode cL_law 614 = .ok (.iadd, 1) := by decide +kernel
theorem dL_law_615 : decode cL_law 615 = .ok (.iaload, 1) := by decide +kernel
theorem dL_law_616 : decode cL_law 616 = .ok (.invokevirtual 71, 3) := by decide +kernel
theorem dL_law_619 : decode cL_law 619 = .ok (.aload_n 2, 1) := by decide +kernel
theorem dL_law_620 : decode cL_law 620 = .ok (.aload_n 0, 1) := by decide +kernel
theorem dL_law_621 : decode cL_law 621 = .ok (.iload_n 3, 1) := by decide +kernel
theorem dL_law_622 : decode cL_law 622 = .ok (.iconst 1, 1) := by decide +kernel
theorem dL_law_623 : decode cL_law 623 = .ok (.iadd, 1) := by decide +kernel
theorem dL_law_624 : decode cL_law 624 = .ok (.iaload, 1) := by decide +kernel
theorem dL_law_625 : decode cL_law 625 = .ok (.aload_n 0, 1) := by decide +kernel
theorem dL_law_626 : decode cL_law 626 = .ok (.iload_n 3, 1) := by decide +kernel
theorem dL_law_627 : decode cL_law 627 = .ok (.iconst 2, 1) := by decide +kernel
theorem dL_law_628 : decode cL_law 628 = .ok (.iadd, 1) := by decide +kernel
theorem dL_law_629 : decode cL_law 629 = .ok (.iaload, 1) := by decide +kernel
theorem dL_law_630 : decode cL_law 630 = .ok (.invokevirtual 74, 3) := by decide +kernel
theorem dL_law_633 : decode cL_law 633 = .ok (.lcmp, 1) := by decide +kernel
theorem dL_law_634 : decode cL_law 634 = .ok (.ifCond .eq 224, 3) := by decide +kernel
theorem dL_law_637 : decode cL_law 637 = .ok (.iconst 0, 1) := by decide +kernel
theorem dL_law_638 : decode cL_law 638 = .ok (.ireturn, 1) := by decide +kernel
theorem dL_law_639 : decode cL_law 639 = .ok (.aload_n 1, 1) := by decide +kernel
theorem dL_law_640 : decode cL_law 640 = .ok (.aload_n 0, 1) := by decide +kernel
theorem dL_law_641 : decode cL_law 641 = .ok (.iload_n 3, 1) := by decide +kernel
theorem dL_law_642 : decode cL_law 642 = .ok (.iconst 1, 1) := by decide +kernel
theorem dL_law_643 : decode cL_law 643 = .ok (.iadd, 1) := by decide +kernel
theorem dL_law_644 : decode cL_law 644 = .ok (.iaload, 1) := by decide +kernel
theorem dL_law_645 : decode cL_law 645 = .ok (.invokevirtual 75, 3) := by decide +kernel
theorem dL_law_648 : decode cL_law 648 = .ok (.aload_n 2, 1) := by decide +kernel
theorem dL_law_649 : decode cL_law 649 = .ok (.aload_n 0, 1) := by decide +kernel
theorem dL_law_650 : decode cL_law 650 = .ok (.iload_n 3, 1) := by decide +kernel
theorem dL_law_651 : decode cL_law 651 = .ok (.iconst 1, 1) := by decide +kernel
theorem dL_law_652 : decode cL_law 652 = .ok (.iadd, 1) := by decide +kernel
theorem dL_law_653 : decode cL_law 653 = .ok (.iaload, 1) := by decide +kernel
theorem dL_law_654 : decode cL_law 654 = .ok (.invokevirtual 78, 3) := by decide +kernel
theorem dL_law_657 : decode cL_law 657 = .ok (.lcmp, 1) := by decide +kernel
theorem dL_law_658 : decode cL_law 658 = .ok (.ifCond .eq 200, 3) := by decide +kernel
theorem dL_law_661 : decode cL_law 661 = .ok (.iconst 0, 1) := by decide +kernel
theorem dL_law_662 : decode cL_law 662 = .ok (.ireturn, 1) := by decide +kernel
theorem dL_law_663 : decode cL_law 663 = .ok (.aload_n 1, 1) := by decide +kernel
theorem dL_law_664 : decode cL_law 664 = .ok (.aload_n 0, 1) := by decide +kernel
theorem dL_law_665 : decode cL_law 665 = .ok (.iload_n 3, 1) := by decide +kernel
theorem dL_law_666 : decode cL_law 666 = .ok (.iconst 1, 1) := by decide +kernel
theorem dL_law_667 : decode cL_law 667 = .ok (.iadd, 1) := by decide +kernel
theorem dL_law_668 : decode cL_law 668 = .ok (.iaload, 1) := by decide +kernel
theorem dL_law_669 : decode cL_law 669 = .ok (.invokevirtual 79, 3) := by decide +kernel
theorem dL_law_672 : decode cL_law 672 = .ok (.aload_n 2, 1) := by decide +kernel
theorem dL_law_673 : decode cL_law 673 = .ok (.aload_n 0, 1) := by decide +kernel
theorem dL_law_674 : decode cL_law 674 = .ok (.iload_n 3, 1) := by decide +kernel
theorem dL_law_675 : decode cL_law 675 = .ok (.iconst 1, 1) := by decide +kernel
theorem dL_law_676 : decode cL_law 676 = .ok (.iadd, 1) := by decide +kernel
theorem dL_law_677 : decode cL_law 677 = .ok (.iaload, 1) := by decide +kernel
theorem dL_law_678 : decode cL_law 678 = .ok (.invokevirtual 82, 3) := by decide +kernel
theorem dL_law_681 : decode cL_law 681 = .ok (.lcmp, 1) := by decide +kernel
theorem dL_law_682 : decode cL_law 682 = .ok (.ifCond .eq 176, 3) := by decide +kernel
theorem dL_law_685 : decode cL_law 685 = .ok (.iconst 0, 1) := by decide +kernel
theorem dL_law_686 : decode cL_law 686 = .ok (.ireturn, 1) := by decide +kernel
theorem dL_law_687 : decode cL_law 687 = .ok (.aload_n 1, 1) := by decide +kernel
theorem dL_law_688 : decode cL_law 688 = .ok (.aload_n 0, 1) := by decide +kernel
theorem dL_law_689 : decode cL_law 689 = .ok (.iload_n 3, 1) := by decide +kernel
theorem dL_law_690 : decode cL_law 690 = .ok (.iconst 1, 1) := by decide +kernel
theorem dL_law_691 : decode cL_law 691 = .ok (.iadd, 1) := by decide +kernel
theorem dL_law_692 : decode cL_law 692 = .ok (.iaload, 1) := by decide +kernel
theorem dL_law_693 : decode cL_law 693 = .ok (.aload_n 0, 1) := by decide +kernel
theorem dL_law_694 : decode cL_law 694 = .ok (.iload_n 3, 1) := by decide +kernel
theorem dL_law_695 : decode cL_law 695 = .ok (.iconst 2, 1) := by decide +kernel
theorem dL_law_696 : decode cL_law 696 = .ok (.iadd, 1) := by decide +kernel
theorem dL_law_697 : decode cL_law 697 = .ok (.iaload, 1) := by decide +kernel
theorem dL_law_698 : decode cL_law 698 = .ok (.invokevirtual 83, 3) := by decide +kernel
theorem dL_law_701 : decode cL_law 701 = .ok (.aload_n 2, 1) := by decide +kernel
theorem dL_law_702 : decode cL_law 702 = .ok (.aload_n 0, 1) := by decide +kernel
theorem dL_law_703 : decode cL_law 703 = .ok (.iload_n 3, 1) := by decide +kernel
theorem dL_law_704 : decode cL_law 704 = .ok (.iconst 1, 1) := by decide +kernel
theorem dL_law_705 : decode cL_law 705 = .ok (.iadd, 1) := by decide +kernel
theorem dL_law_706 : decode cL_law 706 = .ok (.iaload, 1) := by decide +kernel
theorem dL_law_707 : decode cL_law 707 = .ok (.aload_n 0, 1) := by decide +kernel
theorem dL_law_708 : decode cL_law 708 = .ok (.iload_n 3, 1) := by decide +kernel
theorem dL_law_709 : decode cL_law 709 = .ok (.iconst 2, 1) := by decide +kernel
theorem dL_law_710 : decode cL_law 710 = .ok (.iadd, 1) := by decide +kernel
theorem dL_law_711 : decode cL_law 711 = .ok (.iaload, 1) := by decide +kernel
theorem dL_law_712 : decode cL_law 712 = .ok (.invokevirtual 86, 3) := by decide +kernel
theorem dL_law_715 : decode cL_law 715 = .ok (.lcmp, 1) := by decide +kernel
theorem dL_law_716 : decode cL_law 716 = .ok (.ifCond .eq 142, 3) := by decide +kernel
theorem dL_law_719 : decode cL_law 719 = .ok (.iconst 0, 1) := by decide +kernel
theorem dL_law_720 : decode cL_law 720 = .ok (.ireturn, 1) := by decide +kernel
theorem dL_law_721 : decode cL_law 721 = .ok (.aload_n 1, 1) := by decide +kernel
theorem dL_law_722 : decode cL_law 722 = .ok (.aload_n 0, 1) := by decide +kernel
theorem dL_law_723 : decode cL_law 723 = .ok (.iload_n 3, 1) := by decide +kernel
theorem dL_law_724 : decode cL_law 724 = .ok (.iconst 1, 1) := by decide +kernel
theorem dL_law_725 : decode cL_law 725 = .ok (.iadd, 1) := by decide +kernel
theorem dL_law_726 : decode cL_law 726 = .ok (.iaload, 1) := by decide +kernel
theorem dL_law_727 : decode cL_law 727 = .ok (.ifCond .eq 7, 3) := by decide +kernel
theorem dL_law_730 : decode cL_law 730 = .ok (.iconst 1, 1) := by decide +kernel
theorem dL_law_731 : decode cL_law 731 = .ok (.goto 4, 3) := by decide +kernel
theorem dL_law_734 : decode cL_law 734 = .ok (.iconst 0, 1) := by decide +kernel
theorem dL_law_735 : decode cL_law 735 = .ok (.invokevirtual 87, 3) := by decide +kernel
theorem dL_law_738 : decode cL_law 738 = .ok (.aload_n 2, 1) := by decide +kernel
theorem dL_law_739 : decode cL_law 739 = .ok (.aload_n 0, 1) := by decide +kernel
theorem dL_law_740 : decode cL_law 740 = .ok (.iload_n 3, 1) := by decide +kernel
theorem dL_law_741 : decode cL_law 741 = .ok (.iconst 1, 1) := by decide +kernel
theorem dL_law_742 : decode cL_law 742 = .ok (.iadd, 1) := by decide +kernel
theorem dL_law_743 : decode cL_law 743 = .ok (.iaload, 1) := by decide +kernel
theorem dL_law_744 : decode cL_law 744 = .ok (.ifCond .eq 7, 3) := by decide +kernel
theorem dL_law_747 : decode cL_law 747 = .ok (.iconst 1, 1) := by decide +kernel
theorem dL_law_748 : decode cL_law 748 = .ok (.goto 4, 3) := by decide +kernel
theorem dL_law_751 : decode cL_law 751 = .ok (.iconst 0, 1) := by decide +kernel
theorem dL_law_752 : decode cL_law 752 = .ok (.invokevirtual 90, 3) := by decide +kernel
theorem dL_law_755 : decode cL_law 755 = .ok (.lcmp, 1) := by decide +kernel
theorem dL_law_756 : decode cL_law 756 = .ok (.ifCond .eq 102, 3) := by decide +kernel
theorem dL_law_759 : decode cL_law 759 = .ok (.iconst 0, 1) := by decide +kernel
theorem dL_law_760 : decode cL_law 760 = .ok (.ireturn, 1) := by decide +kernel
theorem dL_law_761 : decode cL_law 761 = .ok (.aload_n 1, 1) := by decide +kernel
theorem dL_law_762 : decode cL_law 762 = .ok (.aload_n 0, 1) := by decide +kernel
theorem dL_law_763 : decode cL_law 763 = .ok (.iload_n 3, 1) := by decide +kernel
theorem dL_law_764 : decode cL_law 764 = .ok (.iconst 1, 1) := by decide +kernel
theorem dL_law_765 : decode cL_law 765 = .ok (.iadd, 1) := by decide +kernel
theorem dL_law_766 : decode cL_law 766 = .ok (.iaload, 1) := by decide +kernel
theorem dL_law_767 : decode cL_law 767 = .ok (.invokevirtual 91, 3) := by decide +kernel
theorem dL_law_770 : decode cL_law 770 = .ok (.aload_n 2, 1) := by decide +kernel
theorem dL_law_771 : decode cL_law 771 = .ok (.aload_n 0, 1) := by decide +kernel
theorem dL_law_772 : decode cL_law 772 = .ok (.iload_n 3, 1) := by decide +kernel
theorem dL_law_773 : decode cL_law 773 = .ok (.iconst 1, 1) := by decide +kernel
theorem dL_law_774 : decode cL_law 774 = .ok (.iadd, 1) := by decide +kernel
theorem dL_law_775 : decode cL_law 775 = .ok (.iaload, 1) := by decide +kernel
theorem dL_law_776 : decode cL_law 776 = .ok (.invokevirtual 94, 3) := by decide +kernel
theorem dL_law_779 : decode cL_law 779 = .ok (.lcmp, 1) := by decide +kernel
theorem dL_law_780 : decode cL_law 780 = .ok (.ifCond .eq 78, 3) := by decide +kernel
theorem dL_law_783 : decode cL_law 783 = .ok (.iconst 0, 1) := by decide +kernel
theorem dL_law_784 : decode cL_law 784 = .ok (.ireturn, 1) := by decide +kernel
theorem dL_law_785 : decode cL_law 785 = .ok (.aload_n 1, 1) := by decide +kernel
theorem dL_law_786 : decode cL_law 786 = .ok (.invokevirtual 95, 3) := by decide +kernel
theorem dL_law_789 : decode cL_law 789 = .ok (.aload_n 2, 1) := by decide +kernel
theorem dL_law_790 : decode cL_law 790 = .ok (.invokevirtual 99, 3) := by decide +kernel
theorem dL_law_793 : decode cL_law 793 = .ok (.lcmp, 1) := by decide +kernel
theorem dL_law_794 : decode cL_law 794 = .ok (.ifCond .eq 64, 3) := by decide +kernel
theorem dL_law_797 : decode cL_law 797 = .ok (.iconst 0, 1) := by decide +kernel
theorem dL_law_798 : decode cL_law 798 = .ok (.ireturn, 1) := by decide +kernel
theorem dL_law_799 : decode cL_law 799 = .ok (.aload_n 1, 1) := by decide +kernel
theorem dL_law_800 : decode cL_law 800 = .ok (.aload_n 0, 1) := by decide +kernel
theorem dL_law_801 : decode cL_law 801 = .ok (.iload_n 3, 1) := by decide +kernel
theorem dL_law_802 : decode cL_law 802 = .ok (.iconst 1, 1) := by decide +kernel
theorem dL_law_803 : decode cL_law 803 = .ok (.iadd, 1) := by decide +kernel
theorem dL_law_804 : decode cL_law 804 = .ok (.iaload, 1) := by decide +kernel
theorem dL_law_805 : decode cL_law 805 = .ok (.aload_n 0, 1) := by decide +kernel
theorem dL_law_806 : decode cL_law 806 = .ok (.iload_n 3, 1) := by decide +kernel
theorem dL_law_807 : decode cL_law 807 = .ok (.iconst 2, 1) := by decide +kernel
theorem dL_law_808 : decode cL_law 808 = .ok (.iadd, 1) := by decide +kernel
theorem dL_law_809 : decode cL_law 809 = .ok (.iaload, 1) := by decide +kernel
theorem dL_law_810 : decode cL_law 810 = .ok (.invokevirtual 100, 3) := by decide +kernel
theorem dL_law_813 : decode cL_law 813 = .ok (.aload_n 2, 1) := by decide +kernel
theorem dL_law_814 : decode cL_law 814 = .ok (.aload_n 0, 1) := by decide +kernel
theorem dL_law_815 : decode cL_law 815 = .ok (.iload_n 3, 1) := by decide +kernel
theorem dL_law_816 : decode cL_law 816 = .ok (.iconst 1, 1) := by decide +kernel
theorem dL_law_817 : decode cL_law 817 = .ok (.iadd, 1) := by decide +kernel
theorem dL_law_818 : decode cL_law 818 = .ok (.iaload, 1) := by decide +kernel
theorem dL_law_819 : decode cL_law 819 = .ok (.aload_n 0, 1) := by decide +kernel
theorem dL_law_820 : decode cL_law 820 = .ok (.iload_n 3, 1) := by decide +kernel
theorem dL_law_821 : decode cL_law 821 = .ok (.iconst 2, 1) := by decide +kernel
theorem dL_law_822 : decode cL_law 822 = .ok (.iadd, 1) := by decide +kernel
theorem dL_law_823 : decode cL_law 823 = .ok (.iaload, 1) := by decide +kernel
theorem dL_law_824 : decode cL_law 824 = .ok (.invokevirtual 104, 3) := by decide +kernel
theorem dL_law_827 : decode cL_law 827 = .ok (.if_icmp .eq 31, 3) := by decide +kernel
theorem dL_law_830 : decode cL_law 830 = .ok (.iconst 0, 1) := by decide +kernel
theorem dL_law_831 : decode cL_law 831 = .ok (.ireturn, 1) := by decide +kernel
theorem dL_law_832 : decode cL_law 832 = .ok (.aload_n 1, 1) := by decide +kernel
theorem dL_law_833 : decode cL_law 833 = .ok (.invokevirtual 105, 3) := by decide +kernel
theorem dL_law_836 : decode cL_law 836 = .ok (.aload_n 2, 1) := by decide +kernel
theorem dL_law_837 : decode cL_law 837 = .ok (.invokevirtual 108, 3) := by decide +kernel
theorem dL_law_840 : decode cL_law 840 = .ok (.if_icmp .eq 18, 3) := by decide +kernel
theorem dL_law_843 : decode cL_law 843 = .ok (.iconst 0, 1) := by decide +kernel
theorem dL_law_844 : decode cL_law 844 = .ok (.ireturn, 1) := by decide +kernel
theorem dL_law_845 : decode cL_law 845 = .ok (.aload_n 1, 1) := by decide +kernel
theorem dL_law_846 : decode cL_law 846 = .ok (.invokevirtual 109, 3) := by decide +kernel
theorem dL_law_849 : decode cL_law 849 = .ok (.aload_n 2, 1) := by decide +kernel
theorem dL_law_850 : decode cL_law 850 = .ok (.invokevirtual 112, 3) := by decide +kernel
theorem dL_law_853 : decode cL_law 853 = .ok (.if_icmp .eq 5, 3) := by decide +kernel
theorem dL_law_856 : decode cL_law 856 = .ok (.iconst 0, 1) := by decide +kernel
theorem dL_law_857 : decode cL_law 857 = .ok (.ireturn, 1) := by decide +kernel
theorem dL_law_858 : decode cL_law 858 = .ok (.iinc 3 6, 3) := by decide +kernel
theorem dL_law_861 : decode cL_law 861 = .ok (.goto (-843), 3) := by decide +kernel
theorem dL_law_864 : decode cL_law 864 = .ok (.iconst 1, 1) := by decide +kernel
theorem dL_law_865 : decode cL_law 865 = .ok (.ireturn, 1) := by decide +kernel
abbrev vwCl : List vw_C := [(RX0, TX0, 3), (RX1, TX1, 4), (RX2, TX2, 4), (RX3, TX3, 10)]
end
section
/-! my own rows: booleans; loops; contracts that only read; contracts that write -/
def bI (b : Bool) : Int32 := if b then 1 else 0
theorem bI_t : bI true = 1 := rfl
theorem bI_f : bI false = 0 := rfl
theorem bI_z {b : Bool} : bI b = 0 ↔ b = false := by cases b <;> decide
theorem bI_nz {b : Bool} : ¬ bI b = 0 ↔ b = true := by cases b <;> decide
theorem bI_inj {a b : Bool} : bI a = bI b ↔ a = b := by cases a <;> cases b <;> decide
theorem bI_nar (b : Bool) : narrow .boolean (.int (bI b)) = .int (bI b) := by cases b <;> rfl
theorem bI_fit (b : Bool) : fits .boolean (.int (bI b)) = true := by cases b <;> rfl
theorem lc_eq {x y : Int64} : lg_cmp x y = 0 ↔ x = y := by
  unfold lg_cmp
  by_cases h1 : x > y
  · rw [if_pos h1]
    exact ⟨fun h => absurd h (by decide), fun h => by subst h; exact (Int64.lt_irrefl h1).elim⟩
  · rw [if_neg h1]
    by_cases h2 : x = y
    · rw [if_pos h2]; exact ⟨fun _ => h2, fun _ => rfl⟩
    · rw [if_neg h2]; exact ⟨fun h => absurd h (by decide), fun h => absurd h h2⟩
theorem lc_ge {x y : Int64} : 0 ≤ lg_cmp x y ↔ y ≤ x := by
  unfold lg_cmp
  by_cases h1 : x > y
  · rw [if_pos h1]; exact ⟨fun _ => Int64.le_of_lt h1, fun _ => by decide⟩
  · rw [if_neg h1]
    by_cases h2 : x = y
    · rw [if_pos h2]; exact ⟨fun _ => by rw [h2]; exact Int64.le_refl _, fun _ => by decide⟩
    · rw [if_neg h2]
      refine ⟨fun h => absurd h (by decide), fun h => absurd h ?_⟩
      intro h3
      rcases Int64.lt_or_eq_of_le h3 with h4 | h4
      · exact h1 h4
      · exact h2 h4.symm
theorem lc_le {x y : Int64} : lg_cmp x y ≤ 0 ↔ x ≤ y := by
  unfold lg_cmp
  by_cases h1 : x > y
  · rw [if_pos h1]; exact ⟨fun h => absurd h (by decide), fun h => absurd h1 (Int64.not_lt.mpr h)⟩
  · rw [if_neg h1]
    have h3 : x ≤ y := Int64.not_lt.mp h1
    by_cases h2 : x = y
    · rw [if_pos h2]; exact ⟨fun _ => h3, fun _ => by decide⟩
    · rw [if_neg h2]; exact ⟨fun _ => h3, fun _ => by decide⟩
theorem lc_lt {x y : Int64} : lg_cmp x y < 0 ↔ x < y := by
  rw [← Int32.not_le, ← Int64.not_le, lc_ge]
theorem lc_gt {x y : Int64} : 0 < lg_cmp x y ↔ y < x := by
  rw [← Int32.not_le, ← Int64.not_le, lc_le]
/-- which cells a method may change: those named, and new ones -/
def mA (L : List Nat) (sz : Nat) : Nat → Prop := fun q => q ∈ L ∨ sz ≤ q
theorem D_of {A : Nat → Prop} {ws : va_W} (hn : (ws.map Prod.fst).Nodup) (hA : ∀ q ∈ ws.map Prod.fst, A q) : va_D A ws := by
  refine ⟨fun i j p q hp hq e => ?_, fun k q h => hA q.1 (List.mem_map.mpr ⟨q, List.mem_of_getElem? h, rfl⟩)⟩
  have hi : (ws.map Prod.fst)[i]? = some p.1 := by rw [List.getElem?_map, hp]; rfl
  have hj : (ws.map Prod.fst)[j]? = some p.1 := by rw [List.getElem?_map, hq, e]; rfl
  have hil := (List.getElem?_eq_some_iff.mp hi).1
  exact (List.getElem?_inj hil hn).mp (hi.trans hj.symm)
theorem P_keep {D : va_G} {cl : List vw_C} {ws : va_W} {A : Nat → Prop} {H H1 : Heap} (h : va_P D cl ws H) (hn : ∀ q ∈ ws.map Prod.fst, ¬ A q) (hk : ∀ q : Nat, q < H.size → ¬ A q → H1[q]? = H[q]?) : va_P D cl ws H1 :=
  h.kept (fun k q hq => hk q.1 (h k q hq).lt (hn q.1 (List.mem_map.mpr ⟨q, List.mem_of_getElem? hq, rfl⟩)))
theorem P_cons {D : va_G} {cl : List vw_C} {q : Nat × va_E} {ws : va_W} {H : Heap} (h1 : va_P D cl [q] H) (h2 : va_P D cl ws H) : va_P D cl (q :: ws) H := va_P.app h1 h2
theorem P_keepM {D : va_G} {cl : List vw_C} {ws : va_W} {L : List Nat} {H H1 : Heap} (h : va_P D cl ws H) (hn : ∀ q ∈ ws.map Prod.fst, ¬ q ∈ L) (hk : ∀ q : Nat, q < H.size → ¬ mA L H.size q → H1[q]? = H[q]?) : va_P D cl ws H1 :=
  h.kept (fun k q hq => hk q.1 (h k q hq).lt (fun z => z.elim (hn q.1 (List.mem_map.mpr ⟨q, List.mem_of_getElem? hq, rfl⟩)) (fun w => Nat.not_le.mpr (h k q hq).lt w)))
theorem mA_sub {L0 L1 : List Nat} {s0 s1 q : Nat} (ps : List Nat) (h : ps.filterMap (fun i => L0[i]?) = L1) (hs : s0 ≤ s1) (hq : mA L1 s1 q) : mA L0 s0 q := by
  rcases hq with hq | hq
  · rw [← h] at hq
    obtain ⟨i, -, hi⟩ := List.mem_filterMap.mp hq
    exact Or.inl (List.mem_of_getElem? hi)
  · exact Or.inr (Nat.le_trans hs hq)
theorem nI_max {a b : Nat} (ha : a < 2 ^ 31) (hb : b < 2 ^ 31) : (if nI a < nI b then nI b else nI a) = nI (max a b) := by
  by_cases h : a < b
  · rw [if_pos ((nI_ltI ha hb).mpr h), Nat.max_eq_right (Nat.le_of_lt h)]
  · rw [if_neg (fun q => h ((nI_ltI ha hb).mp q)), Nat.max_eq_left (Nat.le_of_not_lt h)]
theorem nI_min {a b : Nat} (ha : a < 2 ^ 31) (hb : b < 2 ^ 31) : (if nI b < nI a then nI b else nI a) = nI (min a b) := by
  by_cases h : b < a
  · rw [if_pos ((nI_ltI hb ha).mpr h), Nat.min_eq_right (Nat.le_of_lt h)]
  · rw [if_neg (fun q => h ((nI_ltI hb ha).mp q)), Nat.min_eq_left (Nat.le_of_not_lt h)]
/-- starts and ends of contracts -/
def pcW (D : va_G) (tys : List (ClassId × FieldType)) (av : List Value) (ws : va_W) : Array Value → State → Prop := va_Pc av (fun U => va_P D vwCl ws U.heap ∧ va_K D vwCl tys U)
def pcZ (D : va_G) (tys : List (ClassId × FieldType)) (av : List Value) (ws : va_W) (sz : Nat) : Array Value → State → Prop := va_Pc av (fun U => U.heap.size = sz ∧ va_P D vwCl ws U.heap ∧ va_K D vwCl tys U)
def qR (v : Value) : Array Value → State → Outcome → State → Prop := fun _ st oc t => oc = .returned (some v) ∧ t.heap = st.heap
def qM (v : Option Value) (B : Heap → Prop) (A : Nat → Prop) : Array Value → State → Outcome → State → Prop := fun _ st oc t => oc = .returned v ∧ B t.heap ∧ va_F A st t
def qX {S : Type} (v : S → Option Value) (B : S → State → Prop) (A : Nat → Prop) : Array Value → State → Outcome → State → Prop := fun _ st oc t => (∃ u : S, oc = .returned (v u) ∧ B u t) ∧ va_F A st t
theorem pcW_blind {D : va_G} {tys : List (ClassId × FieldType)} {av : List Value} {ws : va_W} : FrameBlind (pcW D tys av ws) := fun a U g mk q => ⟨q.1, q.2.1, va_K.moved (u := U) (U := U.calling g mk a) (Vm.Alike.refl U.vm) q.2.2⟩
theorem pcZ_blind {D : va_G} {tys : List (ClassId × FieldType)} {av : List Value} {ws : va_W} {sz : Nat} : FrameBlind (pcZ D tys av ws sz) := fun a U g mk q => ⟨q.1, q.2.1, q.2.2.1, va_K.moved (u := U) (U := U.calling g mk a) (Vm.Alike.refl U.vm) q.2.2.2⟩
theorem preV_W {s : State} {H : Heap} {D : va_G} {tys : List (ClassId × FieldType)} {ws : va_W} {C : String} {T : u_T} {N b : Nat} {fs : List Value} {As : List Value} (hK : va_K D vwCl tys s) (hP : va_P D vwCl ws H) (q0 ci : Nat) (hc : vwCl[ci]? = some (C, T, N)) (he : ws[q0]? = some (b, .inr (ci, fs))) : PreV s H C b (pcW D tys (.ref b :: As) ws) As :=
  ⟨pcW_blind, va_recv hK hP hc he, fun U hU hW => ⟨rfl, by rw [hU]; exact hP, va_K.moved hW.alike hK⟩⟩
theorem preV_Z {s : State} {H : Heap} {D : va_G} {tys : List (ClassId × FieldType)} {ws : va_W} {C : String} {T : u_T} {N b : Nat} {fs : List Value} {As : List Value} (hK : va_K D vwCl tys s) (hP : va_P D vwCl ws H) (q0 ci : Nat) (hc : vwCl[ci]? = some (C, T, N)) (he : ws[q0]? = some (b, .inr (ci, fs))) : PreV s H C b (pcZ D tys (.ref b :: As) ws H.size) As :=
  ⟨pcZ_blind, va_recv hK hP hc he, fun U hU hW => ⟨rfl, by rw [hU], by rw [hU]; exact hP, va_K.moved hW.alike hK⟩⟩
theorem preS_W {s : State} {H : Heap} {D : va_G} {tys : List (ClassId × FieldType)} {ws : va_W} {As : List Value} (hK : va_K D vwCl tys s) (hP : va_P D vwCl ws H) : PreS s H (pcW D tys As ws) As :=
  ⟨pcW_blind, fun U hU hW => ⟨rfl, by rw [hU]; exact hP, va_K.moved hW.alike hK⟩⟩
theorem preS_Z {s : State} {H : Heap} {D : va_G} {tys : List (ClassId × FieldType)} {ws : va_W} {As : List Value} (hK : va_K D vwCl tys s) (hP : va_P D vwCl ws H) : PreS s H (pcZ D tys As ws H.size) As :=
  ⟨pcZ_blind, fun U hU hW => ⟨rfl, by rw [hU], by rw [hU]; exact hP, va_K.moved hW.alike hK⟩⟩
/-- a method's start -/
theorem met_W {l : Launch} {y : MethodName} {ws ws' : List Cond} {rm : Room} {D : va_G} {tys : List (ClassId × FieldType)} {av : List Value} {wc : va_W} {Qc : Array Value → State → Outcome → State → Prop} {mc ms : Nat} {free : Addr → Prop} {cc : ByteArray} {maxL : Nat} {ret : Option FieldType} (hy : plainName y.cls = true) (hw : ws = Cond.code y cc maxL ret :: ws') (hL : (lg_sl av).length ≤ maxL)
    (body : ∀ (p : Program) (e : Env) (s : State) (m : MethodId) (below : List Frame) (meth : Method) (c : Code) (ls : Array Slot), p.tables.exec = Jvm.exec → c.code = cc → meth.sig.returnType = ret → (∀ w ∈ ws, w.before av.toArray s = true) → s.vm.findClass y.cls = some m.cls → meth.locks = false → c.maxLocals = maxL → meth.name = y.name → va_K D vwCl tys s → va_P D vwCl wc s.heap → lv_has ls maxL (lv_args 0 av) →
      W p l e rm s m av.toArray below meth c s.heap [] 0 0 (MQ below Qc av.toArray s mc ms free) (F0 m 0 ls [])) : Met l y ws rm (pcW D tys av wc) Qc mc ms free := by
  refine Met.ofW (cc := cc) (maxL := maxL) (ret := ret) hy hw ?_
  intro p e s m args below meth c s₁ B hml hv
  obtain ⟨rfl, hP, hK⟩ := hv
  have hl := lv_entry av (n := maxL) hL
  rw [lg_entry_eq]
  exact body p e s m below meth c _ B.exec B.bytes B.returns (atoms_spec (ws := ws) B.pre) (findClass_of_methodNamed B.named) B.notSynchronized hml (name_of_methodNamed B.named B.method).1 hK hP hl
theorem met_Z {l : Launch} {y : MethodName} {ws ws' : List Cond} {rm : Room} {D : va_G} {tys : List (ClassId × FieldType)} {av : List Value} {wc : va_W} {sz : Nat} {Qc : Array Value → State → Outcome → State → Prop} {mc ms : Nat} {free : Addr → Prop} {cc : ByteArray} {maxL : Nat} {ret : Option FieldType} (hy : plainName y.cls = true) (hw : ws = Cond.code y cc maxL ret :: ws') (hL : (lg_sl av).length ≤ maxL)
    (body : ∀ (p : Program) (e : Env) (s : State) (m : MethodId) (below : List Frame) (meth : Method) (c : Code) (ls : Array Slot), p.tables.exec = Jvm.exec → c.code = cc → meth.sig.returnType = ret → (∀ w ∈ ws, w.before av.toArray s = true) → s.vm.findClass y.cls = some m.cls → meth.locks = false → c.maxLocals = maxL → meth.name = y.name → s.heap.size = sz → va_K D vwCl tys s → va_P D vwCl wc s.heap → lv_has ls maxL (lv_args 0 av) →
      W p l e rm s m av.toArray below meth c s.heap [] 0 0 (MQ below Qc av.toArray s mc ms free) (F0 m 0 ls [])) : Met l y ws rm (pcZ D tys av wc sz) Qc mc ms free := by
  refine Met.ofW (cc := cc) (maxL := maxL) (ret := ret) hy hw ?_
  intro p e s m args below meth c s₁ B hml hv
  obtain ⟨rfl, hsz, hP, hK⟩ := hv
  have hl := lv_entry av (n := maxL) hL
  rw [lg_entry_eq]
  exact body p e s m below meth c _ B.exec B.bytes B.returns (atoms_spec (ws := ws) B.pre) (findClass_of_methodNamed B.named) B.notSynchronized hml (name_of_methodNamed B.named B.method).1 hsz hK hP hl
/-- a method for which no table has a row (the JDK's too) -/
theorem met_F {l : Launch} {y : MethodName} {ws ws' : List Cond} {rm : Room} {D : va_G} {tys : List (ClassId × FieldType)} {av : List Value} {wc : va_W} {Qc : Array Value → State → Outcome → State → Prop} {mc ms : Nat} {free : Addr → Prop} {cc : ByteArray} {maxL : Nat} {ret : Option FieldType} (hy : plainFor y = true) (hw : ws = Cond.code y cc maxL ret :: ws') (hL : (lg_sl av).length ≤ maxL)
    (body : ∀ (p : Program) (e : Env) (s : State) (m : MethodId) (below : List Frame) (meth : Method) (c : Code) (ls : Array Slot), p.tables.exec = Jvm.exec → c.code = cc → meth.sig.returnType = ret → (∀ w ∈ ws, w.before av.toArray s = true) → s.vm.findClass y.cls = some m.cls → meth.locks = false → c.maxLocals = maxL → meth.name = y.name → va_K D vwCl tys s → va_P D vwCl wc s.heap → lv_has ls maxL (lv_args 0 av) →
      W p l e rm s m av.toArray below meth c s.heap [] 0 0 (MQ below Qc av.toArray s mc ms free) (F0 m 0 ls [])) : Met l y ws rm (pcW D tys av wc) Qc mc ms free := by
  refine MetFree.of_bodySF (code := cc) (maxLocals := maxL) (ret := ret) hy ?_ ?_
  · intro args s m h hn
    obtain ⟨meth, c, h1, h2, h3, h4, h5, h6, -, -⟩ := Cond.code_spec hn (atoms_spec (ws := ws) h _ (by rw [hw]; exact List.mem_cons_self))
    exact ⟨meth, c, h1, h2, h3, h4, h5, h6⟩
  · intro p e s m args below meth c s₁ B hml hv _
    obtain ⟨rfl, hP, hK⟩ := hv
    have hh0 : s₁.heap = s.heap := by rw [B.state]; rfl
    have hl := lv_entry av (n := maxL) hL
    have key := body p e s m below meth c _ B.exec B.bytes B.returns (atoms_spec (ws := ws) B.pre) (findClass_of_methodNamed B.named) B.notSynchronized hml (name_of_methodNamed B.named B.method).1 hK hP hl
    rw [← lg_entry_eq] at key
    obtain ⟨t, a1, o, b1, b2, b3⟩ := key s₁ hh0 (Stand.of_body B)
    exact ⟨t, o, a1, b1, b2, ⟨b3.1, b3.2⟩⟩
section MYK
variable {p : Program} {l : Launch} {e : Env} {R : Room} {s : State} {m : MethodId} {args : Array Value} {below : List Frame} {meth : Method} {c : Code} {H : Heap} {locs : List Loc} {cells slots : Nat} {Q : State → Prop}
variable {cc : ByteArray} {pc : Nat} {ls : Array Slot} {rest : List Value} {D : va_G} {cl : List vw_C} {A : Nat → Prop} {a : Nat} {tys : List (ClassId × FieldType)} {ws : va_W} {H0 : Heap}
/-- a loop: a measure falls -/
theorem W_loop {ι : Type} (I : ι → Heap → List Loc → Array Slot → Prop) (μ : ι → Nat) (step : ∀ (x : ι) (H : Heap) (locs : List Loc) (ls : Array Slot), I x H locs ls → (∀ (y : ι) (H' : Heap) (locs' : List Loc) (ls' : Array Slot), μ y < μ x → I y H' locs' ls' → W p l e R s m args below meth c H' locs' cells slots Q (F0 m pc ls' [])) → W p l e R s m args below meth c H locs cells slots Q (F0 m pc ls [])) (x : ι) (h : I x H locs ls) : W p l e R s m args below meth c H locs cells slots Q (F0 m pc ls []) := by
  have key : ∀ (n : Nat) (x : ι) (H : Heap) (locs : List Loc) (ls : Array Slot), μ x < n → I x H locs ls → W p l e R s m args below meth c H locs cells slots Q (F0 m pc ls []) := by
    intro n
    induction n with
    | zero => intro x H locs ls h; exact absurd h (Nat.not_lt_zero _)
    | succ n ih => intro x H locs ls hn hI; exact step x H locs ls hI (fun y H' locs' ls' hy hI' => ih y H' locs' ls' (by omega) hI')
  exact key (μ x + 1) x H locs ls (Nat.lt_succ_self _) h
/-- a loop that only reads -/
theorem W_loopR {ι : Type} (I : ι → Array Slot → Prop) (μ : ι → Nat) (step : ∀ (x : ι) (ls : Array Slot), I x ls → (∀ (y : ι) (ls' : Array Slot), μ y < μ x → I y ls' → W p l e R s m args below meth c H locs cells slots Q (F0 m pc ls' [])) → W p l e R s m args below meth c H locs cells slots Q (F0 m pc ls [])) (x : ι) (h : I x ls) : W p l e R s m args below meth c H locs cells slots Q (F0 m pc ls []) := by
  have key : ∀ (n : Nat) (x : ι) (ls : Array Slot), μ x < n → I x ls → W p l e R s m args below meth c H locs cells slots Q (F0 m pc ls []) := by
    intro n
    induction n with
    | zero => intro x ls h; exact absurd h (Nat.not_lt_zero _)
    | succ n ih => intro x ls hn hI; exact step x ls hI (fun y ls' hy hI' => ih y ls' (by omega) hI')
  exact key (μ x + 1) x ls (Nat.lt_succ_self _) h
/-- the value on top is another's name -/
theorem top_i {x y : Int32} (h : x = y) (k : W p l e R s m args below meth c H locs cells slots Q (F0 m pc ls (.int y :: rest))) : W p l e R s m args below meth c H locs cells slots Q (F0 m pc ls (.int x :: rest)) := by rw [h]; exact k
theorem top_l {x y : Int64} (h : x = y) (k : W p l e R s m args below meth c H locs cells slots Q (F0 m pc ls (.long y :: rest))) : W p l e R s m args below meth c H locs cells slots Q (F0 m pc ls (.long x :: rest)) := by rw [h]; exact k
/-- compares of numbers that are naturals -/
theorem n_ge {i j : Nat} (hi : i < 2 ^ 31) (hj : j < 2 ^ 31) (hx : p.tables.exec = Jvm.exec) (hb : c.code = cc) {off : Int} {tgt : Nat} (hdg : decode cc pc = .ok (.if_icmp .ge off, 3)) (ht : (pc : Int) + off = (tgt : Int)) (kt : j ≤ i → W p l e R s m args below meth c H locs cells slots Q (F0 m tgt ls rest)) (kf : i < j → W p l e R s m args below meth c H locs cells slots Q (F0 m (pc + 3) ls rest)) : W p l e R s m args below meth c H locs cells slots Q (F0 m pc ls (.int (nI j) :: .int (nI i) :: rest)) :=
  lv_icmp_ge hx hb hdg ht (fun h => kt ((nI_leI hj hi).mp h)) (fun h => kf (Nat.lt_of_not_le (fun q => h ((nI_leI hj hi).mpr q))))
theorem n_lt {i j : Nat} (hi : i < 2 ^ 31) (hj : j < 2 ^ 31) (hx : p.tables.exec = Jvm.exec) (hb : c.code = cc) {off : Int} {tgt : Nat} (hdg : decode cc pc = .ok (.if_icmp .lt off, 3)) (ht : (pc : Int) + off = (tgt : Int)) (kt : i < j → W p l e R s m args below meth c H locs cells slots Q (F0 m tgt ls rest)) (kf : j ≤ i → W p l e R s m args below meth c H locs cells slots Q (F0 m (pc + 3) ls rest)) : W p l e R s m args below meth c H locs cells slots Q (F0 m pc ls (.int (nI j) :: .int (nI i) :: rest)) :=
  lv_icmp_lt hx hb hdg ht (fun h => kt ((nI_ltI hi hj).mp h)) (fun h => kf (Nat.le_of_not_lt (fun q => h ((nI_ltI hi hj).mpr q))))
theorem n_le {i j : Nat} (hi : i < 2 ^ 31) (hj : j < 2 ^ 31) (hx : p.tables.exec = Jvm.exec) (hb : c.code = cc) {off : Int} {tgt : Nat} (hdg : decode cc pc = .ok (.if_icmp .le off, 3)) (ht : (pc : Int) + off = (tgt : Int)) (kt : i ≤ j → W p l e R s m args below meth c H locs cells slots Q (F0 m tgt ls rest)) (kf : j < i → W p l e R s m args below meth c H locs cells slots Q (F0 m (pc + 3) ls rest)) : W p l e R s m args below meth c H locs cells slots Q (F0 m pc ls (.int (nI j) :: .int (nI i) :: rest)) :=
  lv_icmp_le hx hb hdg ht (fun h => kt ((nI_leI hi hj).mp h)) (fun h => kf (Nat.lt_of_not_le (fun q => h ((nI_leI hi hj).mpr q))))
theorem n_gt {i j : Nat} (hi : i < 2 ^ 31) (hj : j < 2 ^ 31) (hx : p.tables.exec = Jvm.exec) (hb : c.code = cc) {off : Int} {tgt : Nat} (hdg : decode cc pc = .ok (.if_icmp .gt off, 3)) (ht : (pc : Int) + off = (tgt : Int)) (kt : j < i → W p l e R s m args below meth c H locs cells slots Q (F0 m tgt ls rest)) (kf : i ≤ j → W p l e R s m args below meth c H locs cells slots Q (F0 m (pc + 3) ls rest)) : W p l e R s m args below meth c H locs cells slots Q (F0 m pc ls (.int (nI j) :: .int (nI i) :: rest)) :=
  lv_icmp_gt hx hb hdg ht (fun h => kt ((nI_ltI hj hi).mp h)) (fun h => kf (Nat.le_of_not_lt (fun q => h ((nI_ltI hj hi).mpr q))))
theorem n_ne {i j : Nat} (hi : i < 2 ^ 31) (hj : j < 2 ^ 31) (hx : p.tables.exec = Jvm.exec) (hb : c.code = cc) {off : Int} {tgt : Nat} (hdg : decode cc pc = .ok (.if_icmp .ne off, 3)) (ht : (pc : Int) + off = (tgt : Int)) (kt : i ≠ j → W p l e R s m args below meth c H locs cells slots Q (F0 m tgt ls rest)) (kf : i = j → W p l e R s m args below meth c H locs cells slots Q (F0 m (pc + 3) ls rest)) : W p l e R s m args below meth c H locs cells slots Q (F0 m pc ls (.int (nI j) :: .int (nI i) :: rest)) := by
  by_cases q : i = j
  · exact lv_icmp_ne hx hb hdg ht (fun h => absurd (by rw [q]) h) (fun _ => kf q)
  · exact lv_icmp_ne hx hb hdg ht (fun _ => kt q) (fun h => absurd ((nI_eq hi hj).mp h) q)
/-- lcmp and the branch behind it -/
theorem l_ge {x y : Int64} (hx : p.tables.exec = Jvm.exec) (hb : c.code = cc) {off : Int} {tgt : Nat} (hd1 : decode cc pc = .ok (.lcmp, 1)) (hd2 : decode cc (pc + 1) = .ok (.ifCond .ge off, 3)) (ht : ((pc + 1 : Nat) : Int) + off = (tgt : Int)) (kt : y ≤ x → W p l e R s m args below meth c H locs cells slots Q (F0 m tgt ls rest)) (kf : x < y → W p l e R s m args below meth c H locs cells slots Q (F0 m (pc + 4) ls rest)) : W p l e R s m args below meth c H locs cells slots Q (F0 m pc ls (.long y :: .long x :: rest)) :=
  W.lcmp hx hb hd1 (lv_if_ge hx hb hd2 ht (fun h => kt (lc_ge.mp h)) (fun h => kf (Int64.not_le.mp (fun q => h (lc_ge.mpr q)))))
theorem l_lt {x y : Int64} (hx : p.tables.exec = Jvm.exec) (hb : c.code = cc) {off : Int} {tgt : Nat} (hd1 : decode cc pc = .ok (.lcmp, 1)) (hd2 : decode cc (pc + 1) = .ok (.ifCond .lt off, 3)) (ht : ((pc + 1 : Nat) : Int) + off = (tgt : Int)) (kt : x < y → W p l e R s m args below meth c H locs cells slots Q (F0 m tgt ls rest)) (kf : y ≤ x → W p l e R s m args below meth c H locs cells slots Q (F0 m (pc + 4) ls rest)) : W p l e R s m args below meth c H locs cells slots Q (F0 m pc ls (.long y :: .long x :: rest)) :=
  W.lcmp hx hb hd1 (lv_if_lt hx hb hd2 ht (fun h => kt (lc_lt.mp h)) (fun h => kf (Int64.not_lt.mp (fun q => h (lc_lt.mpr q)))))
theorem l_gt {x y : Int64} (hx : p.tables.exec = Jvm.exec) (hb : c.code = cc) {off : Int} {tgt : Nat} (hd1 : decode cc pc = .ok (.lcmp, 1)) (hd2 : decode cc (pc + 1) = .ok (.ifCond .gt off, 3)) (ht : ((pc + 1 : Nat) : Int) + off = (tgt : Int)) (kt : y < x → W p l e R s m args below meth c H locs cells slots Q (F0 m tgt ls rest)) (kf : x ≤ y → W p l e R s m args below meth c H locs cells slots Q (F0 m (pc + 4) ls rest)) : W p l e R s m args below meth c H locs cells slots Q (F0 m pc ls (.long y :: .long x :: rest)) :=
  W.lcmp hx hb hd1 (lv_if_gt hx hb hd2 ht (fun h => kt (lc_gt.mp h)) (fun h => kf (Int64.not_lt.mp (fun q => h (lc_gt.mpr q)))))
theorem l_eq {x y : Int64} (hx : p.tables.exec = Jvm.exec) (hb : c.code = cc) {off : Int} {tgt : Nat} (hd1 : decode cc pc = .ok (.lcmp, 1)) (hd2 : decode cc (pc + 1) = .ok (.ifCond .eq off, 3)) (ht : ((pc + 1 : Nat) : Int) + off = (tgt : Int)) (kt : x = y → W p l e R s m args below meth c H locs cells slots Q (F0 m tgt ls rest)) (kf : ¬ x = y → W p l e R s m args below meth c H locs cells slots Q (F0 m (pc + 4) ls rest)) : W p l e R s m args below meth c H locs cells slots Q (F0 m pc ls (.long y :: .long x :: rest)) :=
  W.lcmp hx hb hd1 (lv_if_eq hx hb hd2 ht (fun h => kt (lc_eq.mp h)) (fun h => kf (fun q => h (lc_eq.mpr q))))
theorem l_ne {x y : Int64} (hx : p.tables.exec = Jvm.exec) (hb : c.code = cc) {off : Int} {tgt : Nat} (hd1 : decode cc pc = .ok (.lcmp, 1)) (hd2 : decode cc (pc + 1) = .ok (.ifCond .ne off, 3)) (ht : ((pc + 1 : Nat) : Int) + off = (tgt : Int)) (kt : ¬ x = y → W p l e R s m args below meth c H locs cells slots Q (F0 m tgt ls rest)) (kf : x = y → W p l e R s m args below meth c H locs cells slots Q (F0 m (pc + 4) ls rest)) : W p l e R s m args below meth c H locs cells slots Q (F0 m pc ls (.long y :: .long x :: rest)) := by
  by_cases q : x = y
  · exact W.lcmp hx hb hd1 (lv_if_ne hx hb hd2 ht (fun h => absurd (lc_eq.mpr q) h) (fun _ => kf q))
  · exact W.lcmp hx hb hd1 (lv_if_ne hx hb hd2 ht (fun _ => kt q) (fun h => absurd (lc_eq.mp h) q))
/-- branches on booleans -/
theorem b_eq {b : Bool} (hx : p.tables.exec = Jvm.exec) (hb : c.code = cc) {off : Int} {tgt : Nat} (hdg : decode cc pc = .ok (.ifCond .eq off, 3)) (ht : (pc : Int) + off = (tgt : Int)) (kt : b = false → W p l e R s m args below meth c H locs cells slots Q (F0 m tgt ls rest)) (kf : b = true → W p l e R s m args below meth c H locs cells slots Q (F0 m (pc + 3) ls rest)) : W p l e R s m args below meth c H locs cells slots Q (F0 m pc ls (.int (bI b) :: rest)) :=
  lv_if_eq hx hb hdg ht (fun h => kt (bI_z.mp h)) (fun h => kf (bI_nz.mp h))
theorem b_ne {b : Bool} (hx : p.tables.exec = Jvm.exec) (hb : c.code = cc) {off : Int} {tgt : Nat} (hdg : decode cc pc = .ok (.ifCond .ne off, 3)) (ht : (pc : Int) + off = (tgt : Int)) (kt : b = true → W p l e R s m args below meth c H locs cells slots Q (F0 m tgt ls rest)) (kf : b = false → W p l e R s m args below meth c H locs cells slots Q (F0 m (pc + 3) ls rest)) : W p l e R s m args below meth c H locs cells slots Q (F0 m pc ls (.int (bI b) :: rest)) := by
  cases b
  · exact lv_if_ne hx hb hdg ht (fun h => absurd rfl h) (fun _ => kf rfl)
  · exact lv_if_ne hx hb hdg ht (fun _ => kt rfl) (fun h => kt rfl |> fun _ => absurd h (by simp [bI]))
/-- rows of ints, at natural places -/
theorem a_ld (hx : p.tables.exec = Jvm.exec) (hb : c.code = cc) (hK : va_K D cl tys s) (hP : va_P D cl ws H) (q0 t0 : Nat) {cA : ClassId} {n j : Nat} {f : Nat → Int32} (ha : ws[q0]? = some (a, .inl (cA, n, .inl f))) (ht : tys[t0]? = some (cA, .int)) (hj : j < n) (hn : n < 2 ^ 31) (hdg : decode cc pc = .ok (.iaload, 1)) (kk : W p l e R s m args below meth c H locs cells slots Q (F0 m (pc + 1) ls (.int (f j) :: rest))) : W p l e R s m args below meth c H locs cells slots Q (F0 m pc ls (.int (nI j) :: .ref a :: rest)) := by
  refine va_iald hx hb hK hP q0 t0 ha ht (vp_in_nI hj hn) hdg ?_
  rw [nI_clamp (by omega)]
  exact kk
theorem a_st (hx : p.tables.exec = Jvm.exec) (hb : c.code = cc) (hK : va_K D cl tys s) (hP : va_P D cl ws H) (hD : va_D A ws) (hS : va_S A H0 H locs) (q0 t0 : Nat) {cA : ClassId} {n j : Nat} {f : Nat → Int32} {x : Int32} (ha : ws[q0]? = some (a, .inl (cA, n, .inl f))) (ht : tys[t0]? = some (cA, .int)) (hj : j < n) (hn : n < 2 ^ 31) (hdg : decode cc pc = .ok (.iastore, 1)) (kk : ∀ (H1 : Heap) (locs1 : List Loc), va_P D cl (ws.set q0 (a, .inl (cA, n, .inl (upd f j x)))) H1 → va_D A (ws.set q0 (a, .inl (cA, n, .inl (upd f j x)))) → va_S A H0 H1 locs1 → W p l e R s m args below meth c H1 locs1 cells slots Q (F0 m (pc + 1) ls rest)) : W p l e R s m args below meth c H locs cells slots Q (F0 m pc ls (.int x :: .int (nI j) :: .ref a :: rest)) := by
  refine va_iast hx hb hK hP hD hS q0 t0 ha ht (vp_in_nI hj hn) hdg ?_
  rw [nI_clamp (by omega)]
  exact kk
/-- ends -/
theorem ret_i {v v0 : Int32} (hx : p.tables.exec = Jvm.exec) (hb : c.code = cc) (hr : meth.sig.returnType = some .int) (hlocks : meth.locks = false) (hdg : decode cc pc = .ok (.ireturn, 1)) (hv : v = v0) : W p l e R s m args below meth c s.heap [] 0 0 (MQ below (qR (.int v0)) args s 0 0 (fun _ => False)) (F0 m pc ls [.int v]) :=
  W.iret hx hb hr (fun t ht _ => ⟨by rw [hv], ht⟩) (fun q h => by cases h) hdg hlocks
theorem ret_z {v : Int32} {b : Bool} (hx : p.tables.exec = Jvm.exec) (hb : c.code = cc) (hr : meth.sig.returnType = some .boolean) (hlocks : meth.locks = false) (hdg : decode cc pc = .ok (.ireturn, 1)) (hv : v = bI b) : W p l e R s m args below meth c s.heap [] 0 0 (MQ below (qR (.int (bI b))) args s 0 0 (fun _ => False)) (F0 m pc ls [.int v]) := by
  subst hv
  exact W.zret hx hb hr (bI_nar b) (fun t ht _ => ⟨rfl, ht⟩) (fun q h => by cases h) hdg hlocks
theorem ret_l {v v0 : Int64} (hx : p.tables.exec = Jvm.exec) (hb : c.code = cc) (hr : meth.sig.returnType = some .long) (hlocks : meth.locks = false) (hdg : decode cc pc = .ok (.lreturn, 1)) (hv : v = v0) : W p l e R s m args below meth c s.heap [] 0 0 (MQ below (qR (.long v0)) args s 0 0 (fun _ => False)) (F0 m pc ls [.long v]) :=
  W.lret hx hb hr (fun t ht _ => ⟨by rw [hv], ht⟩) (fun q h => by cases h) hdg hlocks
theorem ret_iM {v v0 : Int32} {B : Heap → Prop} (hx : p.tables.exec = Jvm.exec) (hb : c.code = cc) (hr : meth.sig.returnType = some .int) (hlocks : meth.locks = false) (hdg : decode cc pc = .ok (.ireturn, 1)) (hS : va_S A s.heap H locs) (hv : v = v0) (hB : B H) : W p l e R s m args below meth c H locs cells slots (MQ below (qM (some (.int v0)) B A) args s cells slots A) (F0 m pc ls [.int v]) :=
  W.iret hx hb hr (fun t ht _ => ⟨by rw [hv], by rw [ht]; exact hB, hS.F ht⟩) hS.2.2 hdg hlocks
theorem ret_lM {v v0 : Int64} {B : Heap → Prop} (hx : p.tables.exec = Jvm.exec) (hb : c.code = cc) (hr : meth.sig.returnType = some .long) (hlocks : meth.locks = false) (hdg : decode cc pc = .ok (.lreturn, 1)) (hS : va_S A s.heap H locs) (hv : v = v0) (hB : B H) : W p l e R s m args below meth c H locs cells slots (MQ below (qM (some (.long v0)) B A) args s cells slots A) (F0 m pc ls [.long v]) :=
  W.lret hx hb hr (fun t ht _ => ⟨by rw [hv], by rw [ht]; exact hB, hS.F ht⟩) hS.2.2 hdg hlocks
theorem ret_vM {B : Heap → Prop} (hx : p.tables.exec = Jvm.exec) (hb : c.code = cc) (hr : meth.sig.returnType = none) (hlocks : meth.locks = false) (hdg : decode cc pc = .ok (.return_, 1)) (hS : va_S A s.heap H locs) (hB : B H) : W p l e R s m args below meth c H locs cells slots (MQ below (qM none B A) args s cells slots A) (F0 m pc ls []) :=
  W.vret hx hb hr (fun t ht _ => ⟨rfl, by rw [ht]; exact hB, hS.F ht⟩) hS.2.2 hdg hlocks
variable {st0 : List Value} {ar : Array Value} {A0 A1 : Nat → Prop} {mc ms : Nat}
theorem go_R {v : Value} (hr : va_Run p l e R s m args below meth c H locs cells slots 0 0 (F0 m pc ls st0) rest (qR v ar) (fun _ => False)) (kk : W p l e R s m args below meth c H locs cells slots Q (F0 m (pc + 3) ls (v :: rest))) : W p l e R s m args below meth c H locs cells slots Q (F0 m pc ls st0) := by
  intro T hT X
  obtain ⟨v', st₀, t, T', L, h0, X', hL, e1, e2, ⟨hv, hh⟩, st⟩ := hr T hT X
  cases hv
  obtain ⟨t2, a1, b1⟩ := kk T' (by rw [e1, hh, h0]) (Stand.forget X' (fun q h => (hL q h).elim))
  exact ⟨t2, st t2 a1, b1⟩
theorem go_X {S : Type} {v : S → Option Value} {B : S → State → Prop} (hr : va_Run p l e R s m args below meth c H locs cells slots mc ms (F0 m pc ls st0) rest (qX v B A1 ar) A1) (hS : va_S A0 H0 H locs) (hA : ∀ q, A1 q → A0 q)
    (kk : ∀ (u : S) (t : State) (H1 : Heap) (locs1 : List Loc), t.heap = H1 → s.vm.Alike t.vm → B u t → H.size ≤ H1.size → (∀ q : Nat, q < H.size → ¬ A1 q → H1[q]? = H[q]?) → va_S A0 H0 H1 locs1 → W p l e R s m args below meth c H1 locs1 (cells + mc) (slots + ms) Q (F0 m (pc + 3) ls ((v u).toList ++ rest))) : W p l e R s m args below meth c H locs cells slots Q (F0 m pc ls st0) := by
  intro T hT X
  obtain ⟨v', st₀, t, T', L, h0, X', hL, e1, e2, ⟨⟨u, hv, hb⟩, hz, hk⟩, st⟩ := hr T hT X
  cases hv
  rw [h0] at hz hk
  obtain ⟨t2, a1, b1⟩ := kk u t T'.heap (locs ++ L) e1.symm (by rw [← e2]; exact X'.warmed.alike) hb (by rw [e1]; exact hz) (fun q h1 h2 => by rw [e1]; exact hk q h1 h2)
    ⟨Nat.le_trans hS.1 (by rw [e1]; exact hz), fun q h1 h2 => by rw [e1, hk q (Nat.lt_of_lt_of_le h1 hS.1) (fun z => h2 (hA q z))]; exact hS.2.1 q h1 h2, fun q hq => by
      rcases List.mem_append.mp hq with h | h
      · exact hS.2.2 q h
      · exact hA _ (hL q h)⟩ T' rfl X'
  exact ⟨t2, st t2 a1, b1⟩
theorem go_M {v : Value} {B : Heap → Prop} (hr : va_Run p l e R s m args below meth c H locs cells slots mc ms (F0 m pc ls st0) rest (qM (some v) B A1 ar) A1) (hS : va_S A0 H0 H locs) (hA : ∀ q, A1 q → A0 q)
    (kk : ∀ (H1 : Heap) (locs1 : List Loc), B H1 → H.size ≤ H1.size → (∀ q : Nat, q < H.size → ¬ A1 q → H1[q]? = H[q]?) → va_S A0 H0 H1 locs1 → W p l e R s m args below meth c H1 locs1 (cells + mc) (slots + ms) Q (F0 m (pc + 3) ls (v :: rest))) : W p l e R s m args below meth c H locs cells slots Q (F0 m pc ls st0) :=
  go_X (S := Unit) (v := fun _ => some v) (B := fun _ t => B t.heap) (mc := mc) (ms := ms) (A1 := A1) (ar := ar) (rest := rest) (show va_Run p l e R s m args below meth c H locs cells slots mc ms (F0 m pc ls st0) rest (qX (fun _ : Unit => some v) (fun _ t => B t.heap) A1 ar) A1 from fun T hT X => by
    obtain ⟨v', st₀, t, T', L, h0, X', hL, e1, e2, ⟨hv, hB, hF⟩, st⟩ := hr T hT X
    exact ⟨v', st₀, t, T', L, h0, X', hL, e1, e2, ⟨⟨(), hv, hB⟩, hF⟩, st⟩) hS hA (fun _ t H1 locs1 ht _ hB => kk H1 locs1 (ht ▸ hB))
theorem go_V {B : Heap → Prop} (hr : va_Run p l e R s m args below meth c H locs cells slots mc ms (F0 m pc ls st0) rest (qM none B A1 ar) A1) (hS : va_S A0 H0 H locs) (hA : ∀ q, A1 q → A0 q)
    (kk : ∀ (H1 : Heap) (locs1 : List Loc), B H1 → H.size ≤ H1.size → (∀ q : Nat, q < H.size → ¬ A1 q → H1[q]? = H[q]?) → va_S A0 H0 H1 locs1 → W p l e R s m args below meth c H1 locs1 (cells + mc) (slots + ms) Q (F0 m (pc + 3) ls rest)) : W p l e R s m args below meth c H locs cells slots Q (F0 m pc ls st0) :=
  go_X (S := Unit) (v := fun _ => none) (B := fun _ t => B t.heap) (mc := mc) (ms := ms) (A1 := A1) (ar := ar) (rest := rest) (show va_Run p l e R s m args below meth c H locs cells slots mc ms (F0 m pc ls st0) rest (qX (fun _ : Unit => none) (fun _ t => B t.heap) A1 ar) A1 from fun T hT X => by
    obtain ⟨v', st₀, t, T', L, h0, X', hL, e1, e2, ⟨hv, hB, hF⟩, st⟩ := hr T hT X
    exact ⟨v', st₀, t, T', L, h0, X', hL, e1, e2, ⟨⟨(), hv, hB⟩, hF⟩, st⟩) hS hA (fun _ t H1 locs1 ht _ hB => kk H1 locs1 (ht ▸ hB))
/-- x != 0, as a boolean -/
theorem lv_nz {x : Int32} (hx : p.tables.exec = Jvm.exec) (hb : c.code = cc) {tgt J : Nat} {o1 o2 : Int} (h1 : decode cc pc = .ok (.ifCond .eq o1, 3)) (t1 : (pc : Int) + o1 = (tgt : Int)) (h2 : decode cc (pc + 3) = .ok (.iconst 1, 1)) (h3 : decode cc (pc + 4) = .ok (.goto o2, 3)) (t2 : ((pc + 4 : Nat) : Int) + o2 = (J : Int)) (h4 : decode cc tgt = .ok (.iconst 0, 1)) (hJ : tgt + 1 = J) (kk : W p l e R s m args below meth c H locs cells slots Q (F0 m J ls (.int (bI (decide (¬ x = 0))) :: rest))) : W p l e R s m args below meth c H locs cells slots Q (F0 m pc ls (.int x :: rest)) := by
  subst hJ
  refine lv_if_eq hx hb h1 t1 (fun h => ?_) (fun h => ?_)
  · refine lv_iconst (v := 0) hx hb h4 (by decide) ?_
    rw [show bI (decide (¬ x = 0)) = 0 from by simp [bI, h]] at kk
    exact kk
  · refine lv_iconst (v := 1) hx hb h2 (by decide) ?_
    refine lv_goto hx hb h3 t2 ?_
    rw [show bI (decide (¬ x = 0)) = 1 from by simp [bI, h]] at kk
    exact kk
/-- ! of a boolean -/
theorem lv_not {b : Bool} (hx : p.tables.exec = Jvm.exec) (hb : c.code = cc) {tgt J : Nat} {o1 o2 : Int} (h1 : decode cc pc = .ok (.ifCond .ne o1, 3)) (t1 : (pc : Int) + o1 = (tgt : Int)) (h2 : decode cc (pc + 3) = .ok (.iconst 1, 1)) (h3 : decode cc (pc + 4) = .ok (.goto o2, 3)) (t2 : ((pc + 4 : Nat) : Int) + o2 = (J : Int)) (h4 : decode cc tgt = .ok (.iconst 0, 1)) (hJ : tgt + 1 = J) (kk : W p l e R s m args below meth c H locs cells slots Q (F0 m J ls (.int (bI (!b)) :: rest))) : W p l e R s m args below meth c H locs cells slots Q (F0 m pc ls (.int (bI b) :: rest)) := by
  subst hJ
  refine b_ne hx hb h1 t1 (fun h => ?_) (fun h => ?_)
  · subst h
    exact lv_iconst (v := 0) hx hb h4 (by decide) kk
  · subst h
    exact lv_iconst (v := 1) hx hb h2 (by decide) (lv_goto hx hb h3 t2 kk)
/-- x != y of two booleans -/
theorem lv_xne {x y : Bool} (hx : p.tables.exec = Jvm.exec) (hb : c.code = cc) {tgt J : Nat} {o1 o2 : Int} (h1 : decode cc pc = .ok (.if_icmp .eq o1, 3)) (t1 : (pc : Int) + o1 = (tgt : Int)) (h2 : decode cc (pc + 3) = .ok (.iconst 1, 1)) (h3 : decode cc (pc + 4) = .ok (.goto o2, 3)) (t2 : ((pc + 4 : Nat) : Int) + o2 = (J : Int)) (h4 : decode cc tgt = .ok (.iconst 0, 1)) (hJ : tgt + 1 = J) (kk : W p l e R s m args below meth c H locs cells slots Q (F0 m J ls (.int (bI (x != y)) :: rest))) : W p l e R s m args below meth c H locs cells slots Q (F0 m pc ls (.int (bI y) :: .int (bI x) :: rest)) := by
  subst hJ
  refine lv_icmp_eq hx hb h1 t1 (fun h => ?_) (fun h => ?_)
  · have h' : x = y := by first | exact bI_inj.mp h | exact (bI_inj.mp h).symm
    subst h'
    refine lv_iconst (v := 0) hx hb h4 (by decide) ?_
    rw [show bI (x != x) = 0 from by simp [bI]] at kk
    exact kk
  · have h' : ¬ x = y := fun q => h (by rw [q])
    refine lv_iconst (v := 1) hx hb h2 (by decide) ?_
    refine lv_goto hx hb h3 t2 ?_
    rw [show bI (x != y) = 1 from by simp [bI, h']] at kk
    exact kk
end MYK
end
section
/-! what the methods compute, in plain functions: rows of keys k and values v, c of them in use -/
abbrev NO : Int64 := 1099511627776
abbrev OUT : Int64 := 1099511627777
/-- the first place from i on, within n, where P doesn't hold -/
def pf (P : Nat → Bool) : Nat → Nat → Nat
  | 0, i => i
  | n + 1, i => if P i = true then pf P n (i + 1) else i
theorem pf_t {P : Nat → Bool} {c i : Nat} (hi : i < c) (h : P i = true) : pf P (c - i) i = pf P (c - (i + 1)) (i + 1) := by
  obtain ⟨n, hn⟩ : ∃ n, c - i = n + 1 := ⟨c - i - 1, by omega⟩
  rw [hn, show c - (i + 1) = n by omega, pf, if_pos h]
theorem pf_f {P : Nat → Bool} {n i : Nat} (h : P i = false) : pf P n i = i := by
  cases n with
  | zero => rfl
  | succ n => rw [pf, if_neg (by rw [h]; decide)]
theorem pf_e {P : Nat → Bool} {c i : Nat} (h : c ≤ i) : pf P (c - i) i = i := by rw [show c - i = 0 by omega, pf]
theorem pf_ge {P : Nat → Bool} : ∀ (n i : Nat), i ≤ pf P n i := by
  intro n
  induction n with
  | zero => intro i; exact Nat.le_refl _
  | succ n ih =>
    intro i
    rw [pf]
    split
    · exact Nat.le_trans (Nat.le_succ i) (ih (i + 1))
    · exact Nat.le_refl _
theorem pf_le {P : Nat → Bool} : ∀ (n i : Nat), pf P n i ≤ i + n := by
  intro n
  induction n with
  | zero => intro i; exact Nat.le_refl _
  | succ n ih =>
    intro i
    rw [pf]
    split
    · have := ih (i + 1); omega
    · omega
theorem pf_lt {P : Nat → Bool} : ∀ (n i j : Nat), i ≤ j → j < pf P n i → P j = true := by
  intro n
  induction n with
  | zero => intro i j h1 h2; rw [pf] at h2; omega
  | succ n ih =>
    intro i j h1 h2
    rw [pf] at h2
    split at h2
    · rename_i h
      by_cases e : j = i
      · rw [e]; exact h
      · exact ih (i + 1) j (by omega) h2
    · omega
theorem pf_at {P : Nat → Bool} : ∀ (n i : Nat), pf P n i < i + n → P (pf P n i) = false := by
  intro n
  induction n with
  | zero => intro i h; rw [pf] at h; omega
  | succ n ih =>
    intro i h
    rw [pf] at h ⊢
    split at h
    · rename_i hh
      rw [if_pos hh]
      exact ih (i + 1) (by omega)
    · rename_i hh
      rw [if_neg hh]
      cases hP : P i with
      | true => exact absurd hP hh
      | false => rfl
theorem pf_c {P Q : Nat → Bool} : ∀ (n i : Nat), (∀ j, i ≤ j → j < i + n → P j = Q j) → pf P n i = pf Q n i := by
  intro n
  induction n with
  | zero => intro i _; rfl
  | succ n ih =>
    intro i h
    rw [pf, pf, h i (Nat.le_refl _) (by omega), ih (i + 1) (fun j h1 h2 => h j (by omega) (by omega))]
/-- where the first key stands that is not below x -/
def plc (k : Nat → Int32) (c : Nat) (x : Int64) : Nat := pf (fun j => decide ((k j).toInt64 < x)) c 0
theorem plc_le (k : Nat → Int32) (c : Nat) (x : Int64) : plc k c x ≤ c := by
  have := pf_le (P := fun j => decide ((k j).toInt64 < x)) c 0
  unfold plc
  omega
/-- the key at z, if z is from b up to before e -/
def kW (k : Nat → Int32) (z : Int) (b e : Nat) : Int64 := if (b : Int) ≤ z ∧ z < (e : Int) then (k z.toNat).toInt64 else NO
/-- is the key x at j -/
def atK (k : Nat → Int32) (c j : Nat) (x : Int32) : Bool := decide (j < c) && decide (k j = x)
/-- the value of a key -/
def vOf (k v : Nat → Int32) (c : Nat) (x : Int32) : Int64 := if atK k c (plc k c x.toInt64) x = true then (v (plc k c x.toInt64)).toInt64 else NO
/-- is the value there -/
def hasV (v : Nat → Int32) (c : Nat) (x : Int32) : Bool := decide (pf (fun j => !decide (v j = x)) c 0 < c)
/-- a row with x put in at p, of c in use -/
def insA (k : Nat → Int32) (p c : Nat) (x : Int32) : Nat → Int32 := fun j => if j = p then x else if p < j ∧ j ≤ c then k (j - 1) else k j
/-- the loop of dropLeaving -/
def clp (G : Int32 → Bool) (e : Nat) : Nat → Nat → Nat → (Nat → Int32) → (Nat → Int32) → Nat × (Nat → Int32) × (Nat → Int32)
  | 0, _, t, k, v => (t, k, v)
  | n + 1, i, t, k, v => if (decide (i < e) && G (k i)) = true then clp G e n (i + 1) t k v else clp G e n (i + 1) (t + 1) (upd k t (k i)) (upd v t (v i))
/-- Math.floorMod -/
def fMod (x y : Int32) : Int32 := if x ^^^ y < 0 ∧ ¬ x - x / y * y = 0 then (x - x / y * y) + y else x - x / y * y
def gLeav (step rest : Int32) : Int32 → Bool := fun x => decide (fMod x step = rest)
def dlK (step rest : Int32) (b e c : Nat) (k v : Nat → Int32) : Nat × (Nat → Int32) × (Nat → Int32) := clp (gLeav step rest) e (c - b) b b k v
theorem clp_le (G : Int32 → Bool) (e : Nat) : ∀ (n i t : Nat) (k v : Nat → Int32), t ≤ (clp G e n i t k v).1 ∧ (clp G e n i t k v).1 ≤ t + n := by
  intro n
  induction n with
  | zero => intro i t k v; exact ⟨Nat.le_refl _, Nat.le_refl _⟩
  | succ n ih =>
    intro i t k v
    rw [clp]
    split
    · have := ih (i + 1) t k v; omega
    · have := ih (i + 1) (t + 1) (upd k t (k i)) (upd v t (v i)); omega
end
section
/-! the contracts of Entries' methods (written by wip/gen/x0.py) -/
abbrev eW (cy : ClassId) (aE aK aV : Nat) (k v : Nat → Int32) (c : Nat) : va_W := [(aE, .inr (0, [.ref aK, .ref aV, .int (nI c)])), (aK, .inl (cy, 512, .inl k)), (aV, .inl (cy, 512, .inl v))]
theorem atK_lt {k : Nat → Int32} {c j : Nat} {x : Int32} (h : atK k c j x = true) : j < c := by
  simp [atK] at h
  exact h.1
theorem kW_no {k : Nat → Int32} {z : Int} {b e : Nat} (h : ¬ ((b : Int) ≤ z ∧ z < (e : Int))) : kW k z b e = NO := if_neg h
theorem kW_yes {k : Nat → Int32} {j b e : Nat} (h : b ≤ j) (h2 : j < e) : kW k (j : Int) b e = (k j).toInt64 := by
  unfold kW
  rw [if_pos ⟨by omega, by omega⟩, Int.toNat_natCast]
def shA (k : Nat → Int32) (i c : Nat) : Nat → Int32 := fun q => if i < q ∧ q ≤ c then k (q - 1) else k q
theorem shA_c (k : Nat → Int32) (c : Nat) : shA k c c = k := by
  funext q
  exact if_neg (by omega)
theorem shA_s (k : Nat → Int32) {i c : Nat} (h : 0 < i) (hc : i ≤ c) : upd (shA k i c) i (shA k i c (i - 1)) = shA k (i - 1) c := by
  funext q
  unfold upd shA
  by_cases e : q = i
  · rw [if_pos e, if_neg (by omega), if_pos (by omega), e]
  · rw [if_neg e]
    by_cases w : i < q ∧ q ≤ c
    · rw [if_pos w, if_pos (by omega)]
    · rw [if_neg w, if_neg (by omega)]
theorem upd_sh (k : Nat → Int32) (i c : Nat) (x : Int32) : upd (shA k i c) i x = insA k i c x := rfl
def stK (k : Nat → Int32) (c : Nat) (x : Int32) : Nat → Int32 := if atK k c (plc k c x.toInt64) x = true then k else insA k (plc k c x.toInt64) c x
def stV (k v : Nat → Int32) (c : Nat) (x y : Int32) : Nat → Int32 := if atK k c (plc k c x.toInt64) x = true then upd v (plc k c x.toInt64) y else insA v (plc k c x.toInt64) c y
def stC (k : Nat → Int32) (c : Nat) (x : Int32) : Nat := if atK k c (plc k c x.toInt64) x = true then c else c + 1
def dlS (step rest : Int32) (b f c : Nat) (k v : Nat → Int32) : Nat × (Nat → Int32) × (Nat → Int32) := if step < 1 then (c, k, v) else dlK step rest b f c k v
def drp (k v : Nat → Int32) (c : Nat) (x : Int32) : Nat × (Nat → Int32) × (Nat → Int32) := if atK k c (plc k c x.toInt64) x = true then dlK 1 0 (plc k c x.toInt64) (plc k c x.toInt64 + 1) c k v else (c, k, v)
theorem clp_step {G : Int32 → Bool} {e c i t : Nat} {k v : Nat → Int32} (h : i < c) : clp G e (c - i) i t k v = if (decide (i < e) && G (k i)) = true then clp G e (c - (i + 1)) (i + 1) t k v else clp G e (c - (i + 1)) (i + 1) (t + 1) (upd k t (k i)) (upd v t (v i)) := by
  obtain ⟨n, hn⟩ : ∃ n, c - i = n + 1 := ⟨c - i - 1, by omega⟩
  rw [hn, show c - (i + 1) = n by omega, clp]
set_option maxHeartbeats 4000000 in
set_option maxRecDepth 100000 in
/-- count() -/
theorem c_X0_count (l : Launch) (D : va_G) (cy : ClassId) (aE aK aV : Nat) (k v : Nat → Int32) (c : Nat) (hc : c ≤ 512) : Met l yX0_count wsX0_count ({ frames := 0, cells := 0, slots := 0, locals := 0 } : Room) (pcW D [(cy, .int)] [.ref aE] [(aE, .inr (0, [.ref aK, .ref aV, .int (nI c)])), (aK, .inl (cy, 512, .inl k)), (aV, .inl (cy, 512, .inl v))]) (qR (.int (nI c))) 0 0 (fun _ => False) := by
  refine met_W (cc := cX0_count) (maxL := 1) (ret := (some .int)) (by decide +kernel) rfl (Nat.le_of_ble_eq_true rfl) ?_
  intro pM eM s mM below meth cM ls hx hb hr hts hown hlocks hml hnm hK hP hl
  have hown : s.vm.findClass RX0 = some mM.cls := hown
  have hl : lv_has ls 1 [(0, .ref aE)] := hl
  have hin_X0 : ∀ w ∈ wsX00, w ∈ wsX0_count := by decide +kernel
  have kf_18 := hts (.fieldLink RX0 18 "OrderedDesk$Entries" "count" "I") (by decide +kernel)
  have hP : va_P D vwCl [(aE, .inr (0, [.ref aK, .ref aV, .int (nI c)])), (aK, .inl (cy, 512, .inl k)), (aV, .inl (cy, 512, .inl v))] s.heap := hP
  refine lv_aload_n hx hb dX0_count_0 rfl (lv_at hl 0 rfl) ?_
  refine va_get (ci := 0) (v := .int (nI c)) (C := RX0) (T := TX0) (N := 3) hx hb hts hin_X0 hown hK hP 0 rfl rfl 2 (by decide) kf_18 (fun _ h9 => h9) rfl dX0_count_1 ?_
  exact ret_i hx hb hr hlocks dX0_count_4 rfl

set_option maxHeartbeats 4000000 in
set_option maxRecDepth 100000 in
/-- placeOf(key) -/
theorem c_X0_placeOf (l : Launch) (D : va_G) (cy : ClassId) (aE aK aV : Nat) (k v : Nat → Int32) (c : Nat) (hc : c ≤ 512) (key : Int64) : Met l yX0_placeOf wsX0_placeOf ({ frames := 0, cells := 0, slots := 0, locals := 0 } : Room) (pcW D [(cy, .int)] [.ref aE, .long key] [(aE, .inr (0, [.ref aK, .ref aV, .int (nI c)])), (aK, .inl (cy, 512, .inl k)), (aV, .inl (cy, 512, .inl v))]) (qR (.int (nI (plc k c key)))) 0 0 (fun _ => False) := by
  refine met_W (cc := cX0_placeOf) (maxL := 4) (ret := (some .int)) (by decide +kernel) rfl (Nat.le_of_ble_eq_true rfl) ?_
  intro pM eM s mM below meth cM ls hx hb hr hts hown hlocks hml hnm hK hP hl
  have hown : s.vm.findClass RX0 = some mM.cls := hown
  have hl : lv_has ls 4 [(0, .ref aE), (1, .long key)] := hl
  have hin_X0 : ∀ w ∈ wsX00, w ∈ wsX0_placeOf := by decide +kernel
  have kf_18 := hts (.fieldLink RX0 18 "OrderedDesk$Entries" "count" "I") (by decide +kernel)
  have kf_9 := hts (.fieldLink RX0 9 "OrderedDesk$Entries" "keys" "[I") (by decide +kernel)
  have hP : va_P D vwCl [(aE, .inr (0, [.ref aK, .ref aV, .int (nI c)])), (aK, .inl (cy, 512, .inl k)), (aV, .inl (cy, 512, .inl v))] s.heap := hP
  refine lv_iconst (v := nI 0) hx hb dX0_placeOf_0 (by decide) ?_
  refine lv_istore_n (lv' := [(3, .int (nI 0)), (0, .ref aE), (1, .long key)]) hx hb dX0_placeOf_1 rfl hl (by decide) rfl (fun ls hl => ?_)
  refine W_loopR (I := fun (i : Nat) (ls : Array Slot) => lv_has ls 4 [(0, .ref aE), (1, .long key), (3, .int (nI i))] ∧ i ≤ c ∧ plc k c key = pf (fun j => decide ((k j).toInt64 < key)) (c - i) i) (μ := fun i => c - i) (fun i ls h ih => ?_) 0 ⟨lv_sub hl [1, 2, 0] rfl, Nat.zero_le _, rfl⟩
  obtain ⟨hl, hi, hv⟩ := h
  refine lv_iload_n hx hb dX0_placeOf_2 rfl (lv_at hl 2 rfl) ?_
  refine lv_aload_n hx hb dX0_placeOf_3 rfl (lv_at hl 0 rfl) ?_
  refine va_get (ci := 0) (v := .int (nI c)) (C := RX0) (T := TX0) (N := 3) hx hb hts hin_X0 hown hK hP 0 rfl rfl 2 (by decide) kf_18 (fun _ h9 => h9) rfl dX0_placeOf_4 ?_
  refine n_ge (tgt := 28) (by omega) (by omega) hx hb dX0_placeOf_7 (by decide) (fun h7 => ?_) (fun h7 => ?_)
  · have hv2 : plc k c key = i := by rw [hv, pf_e h7]
    refine lv_iload_n hx hb dX0_placeOf_28 rfl (lv_at hl 2 rfl) ?_
    exact ret_i hx hb hr hlocks dX0_placeOf_29 (by rw [hv2])
  · refine lv_aload_n hx hb dX0_placeOf_10 rfl (lv_at hl 0 rfl) ?_
    refine va_get (ci := 0) (v := .ref aK) (C := RX0) (T := TX0) (N := 3) hx hb hts hin_X0 hown hK hP 0 rfl rfl 0 (by decide) kf_9 (fun _ h9 => h9) rfl dX0_placeOf_11 ?_
    refine lv_iload_n hx hb dX0_placeOf_14 rfl (lv_at hl 2 rfl) ?_
    refine a_ld hx hb hK hP 1 0 rfl rfl (by omega) (by decide) dX0_placeOf_15 ?_
    refine lv_i2l hx hb dX0_placeOf_16 rfl ?_
    refine lv_lload_n hx hb dX0_placeOf_17 rfl (lv_at hl 1 rfl) ?_
    refine l_ge (tgt := 28) hx hb dX0_placeOf_18 dX0_placeOf_19 (by decide) (fun h18 => ?_) (fun h18 => ?_)
    · have hv2 : plc k c key = i := by rw [hv, pf_f (by simpa using h18)]
      refine lv_iload_n hx hb dX0_placeOf_28 rfl (lv_at hl 2 rfl) ?_
      exact ret_i hx hb hr hlocks dX0_placeOf_29 (by rw [hv2])
    · refine lv_iinc (v := nI (i + 1)) (lv' := [(3, .int (nI (i + 1))), (0, .ref aE), (1, .long key)]) hx hb dX0_placeOf_22 hl (k := 2) rfl (by first | exact nI_1 _ | exact nI_add _ _) (by decide) rfl (fun ls hl => ?_)
      refine lv_goto (tgt := 2) hx hb dX0_placeOf_25 (by decide) ?_
      exact ih (i + 1) _ (by omega) ⟨lv_sub hl [1, 2, 0] rfl, by omega, by rw [hv, pf_t h7 (by simpa using h18)]⟩

set_option maxHeartbeats 4000000 in
set_option maxRecDepth 100000 in
/-- keyAt(place) -/
theorem c_X0_keyAt (l : Launch) (D : va_G) (cy : ClassId) (aE aK aV : Nat) (k v : Nat → Int32) (c : Nat) (hc : c ≤ 512) (x : Int32) : Met l yX0_keyAt wsX0_keyAt ({ frames := 0, cells := 0, slots := 0, locals := 0 } : Room) (pcW D [(cy, .int)] [.ref aE, .int x] [(aE, .inr (0, [.ref aK, .ref aV, .int (nI c)])), (aK, .inl (cy, 512, .inl k)), (aV, .inl (cy, 512, .inl v))]) (qR (.long (kW k x.toInt 0 c))) 0 0 (fun _ => False) := by
  refine met_W (cc := cX0_keyAt) (maxL := 2) (ret := (some .long)) (by decide +kernel) rfl (Nat.le_of_ble_eq_true rfl) ?_
  intro pM eM s mM below meth cM ls hx hb hr hts hown hlocks hml hnm hK hP hl
  have hown : s.vm.findClass RX0 = some mM.cls := hown
  have hl : lv_has ls 2 [(0, .ref aE), (1, .int x)] := hl
  have hin_X0 : ∀ w ∈ wsX00, w ∈ wsX0_keyAt := by decide +kernel
  have kf_18 := hts (.fieldLink RX0 18 "OrderedDesk$Entries" "count" "I") (by decide +kernel)
  have kf_9 := hts (.fieldLink RX0 9 "OrderedDesk$Entries" "keys" "[I") (by decide +kernel)
  have kc_22 := hts (.constantLong RX0 22 (1099511627776)) (by decide +kernel)
  have hP : va_P D vwCl [(aE, .inr (0, [.ref aK, .ref aV, .int (nI c)])), (aK, .inl (cy, 512, .inl k)), (aV, .inl (cy, 512, .inl v))] s.heap := hP
  refine lv_iload_n hx hb dX0_keyAt_0 rfl (lv_at hl 1 rfl) ?_
  refine lv_if_lt (tgt := 22) hx hb dX0_keyAt_1 (by decide) (fun h1 => ?_) (fun h1 => ?_)
  · have hz : kW k x.toInt 0 c = NO := kW_no (by rw [Int32.lt_iff_toInt_lt, Int32.toInt_zero] at h1; omega)
    refine lv_ldc2 hx hb hown kc_22 dX0_keyAt_22 ?_
    exact ret_l hx hb hr hlocks dX0_keyAt_25 (by rw [hz])
  · refine lv_iload_n hx hb dX0_keyAt_4 rfl (lv_at hl 1 rfl) ?_
    refine lv_aload_n hx hb dX0_keyAt_5 rfl (lv_at hl 0 rfl) ?_
    refine va_get (ci := 0) (v := .int (nI c)) (C := RX0) (T := TX0) (N := 3) hx hb hts hin_X0 hown hK hP 0 rfl rfl 2 (by decide) kf_18 (fun _ h9 => h9) rfl dX0_keyAt_6 ?_
    refine lv_icmp_ge (tgt := 22) hx hb dX0_keyAt_9 (by decide) (fun h9 => ?_) (fun h9 => ?_)
    · have hz : kW k x.toInt 0 c = NO := kW_no (by rw [Int32.le_iff_toInt_le, nI_toInt (by omega)] at h9; omega)
      refine lv_ldc2 hx hb hown kc_22 dX0_keyAt_22 ?_
      exact ret_l hx hb hr hlocks dX0_keyAt_25 (by rw [hz])
    · obtain ⟨j, hj, rfl⟩ : ∃ j : Nat, j < c ∧ x = nI j := by obtain ⟨j, h1, h2, -⟩ := pk_mu h1 h9 (by omega); exact ⟨j, h1, h2⟩
      have hz : kW k (nI j).toInt 0 c = (k j).toInt64 := by rw [nI_toInt (by omega)]; exact kW_yes (by omega) hj
      refine lv_aload_n hx hb dX0_keyAt_12 rfl (lv_at hl 0 rfl) ?_
      refine va_get (ci := 0) (v := .ref aK) (C := RX0) (T := TX0) (N := 3) hx hb hts hin_X0 hown hK hP 0 rfl rfl 0 (by decide) kf_9 (fun _ h9 => h9) rfl dX0_keyAt_13 ?_
      refine lv_iload_n hx hb dX0_keyAt_16 rfl (lv_at hl 1 rfl) ?_
      refine a_ld hx hb hK hP 1 0 rfl rfl (by omega) (by decide) dX0_keyAt_17 ?_
      refine lv_i2l hx hb dX0_keyAt_18 rfl ?_
      refine lv_goto (tgt := 25) hx hb dX0_keyAt_19 (by decide) ?_
      exact ret_l hx hb hr hlocks dX0_keyAt_25 (by rw [hz])

set_option maxHeartbeats 4000000 in
set_option maxRecDepth 100000 in
/-- isAt(place, key) -/
theorem c_X0_isAt (l : Launch) (D : va_G) (cy : ClassId) (aE aK aV : Nat) (k v : Nat → Int32) (c : Nat) (hc : c ≤ 512) (j : Nat) (hj : j ≤ 512) (x : Int32) : Met l yX0_isAt wsX0_isAt ({ frames := 0, cells := 0, slots := 0, locals := 0 } : Room) (pcW D [(cy, .int)] [.ref aE, .int (nI j), .int x] [(aE, .inr (0, [.ref aK, .ref aV, .int (nI c)])), (aK, .inl (cy, 512, .inl k)), (aV, .inl (cy, 512, .inl v))]) (qR (.int (bI (atK k c j x)))) 0 0 (fun _ => False) := by
  refine met_W (cc := cX0_isAt) (maxL := 3) (ret := (some .boolean)) (by decide +kernel) rfl (Nat.le_of_ble_eq_true rfl) ?_
  intro pM eM s mM below meth cM ls hx hb hr hts hown hlocks hml hnm hK hP hl
  have hown : s.vm.findClass RX0 = some mM.cls := hown
  have hl : lv_has ls 3 [(0, .ref aE), (1, .int (nI j)), (2, .int x)] := hl
  have hin_X0 : ∀ w ∈ wsX00, w ∈ wsX0_isAt := by decide +kernel
  have kf_18 := hts (.fieldLink RX0 18 "OrderedDesk$Entries" "count" "I") (by decide +kernel)
  have kf_9 := hts (.fieldLink RX0 9 "OrderedDesk$Entries" "keys" "[I") (by decide +kernel)
  have hP : va_P D vwCl [(aE, .inr (0, [.ref aK, .ref aV, .int (nI c)])), (aK, .inl (cy, 512, .inl k)), (aV, .inl (cy, 512, .inl v))] s.heap := hP
  refine lv_iload_n hx hb dX0_isAt_0 rfl (lv_at hl 1 rfl) ?_
  refine lv_aload_n hx hb dX0_isAt_1 rfl (lv_at hl 0 rfl) ?_
  refine va_get (ci := 0) (v := .int (nI c)) (C := RX0) (T := TX0) (N := 3) hx hb hts hin_X0 hown hK hP 0 rfl rfl 2 (by decide) kf_18 (fun _ h9 => h9) rfl dX0_isAt_2 ?_
  refine n_ge (tgt := 22) (by omega) (by omega) hx hb dX0_isAt_5 (by decide) (fun h5 => ?_) (fun h5 => ?_)
  · have hz : atK k c j x = false := by simp [atK, Nat.not_lt.mpr h5]
    refine lv_iconst (v := bI false) hx hb dX0_isAt_22 (by decide) ?_
    exact ret_z hx hb hr hlocks dX0_isAt_23 (by rw [hz])
  · refine lv_aload_n hx hb dX0_isAt_8 rfl (lv_at hl 0 rfl) ?_
    refine va_get (ci := 0) (v := .ref aK) (C := RX0) (T := TX0) (N := 3) hx hb hts hin_X0 hown hK hP 0 rfl rfl 0 (by decide) kf_9 (fun _ h9 => h9) rfl dX0_isAt_9 ?_
    refine lv_iload_n hx hb dX0_isAt_12 rfl (lv_at hl 1 rfl) ?_
    refine a_ld hx hb hK hP 1 0 rfl rfl (by omega) (by decide) dX0_isAt_13 ?_
    refine lv_iload_n hx hb dX0_isAt_14 rfl (lv_at hl 2 rfl) ?_
    refine lv_icmp_ne (tgt := 22) hx hb dX0_isAt_15 (by decide) (fun h15 => ?_) (fun h15 => ?_)
    · have hz : atK k c j x = false := by simp [atK, h15]
      refine lv_iconst (v := bI false) hx hb dX0_isAt_22 (by decide) ?_
      exact ret_z hx hb hr hlocks dX0_isAt_23 (by rw [hz])
    · have hz : atK k c j x = true := by simp [atK, h5, h15]
      refine lv_iconst (v := bI true) hx hb dX0_isAt_18 (by decide) ?_
      refine lv_goto (tgt := 23) hx hb dX0_isAt_19 (by decide) ?_
      exact ret_z hx hb hr hlocks dX0_isAt_23 (by rw [hz])

set_option maxHeartbeats 4000000 in
set_option maxRecDepth 100000 in
/-- valueOf(key) -/
theorem c_X0_valueOf (l : Launch) (D : va_G) (cy : ClassId) (aE aK aV : Nat) (k v : Nat → Int32) (c : Nat) (hc : c ≤ 512) (x : Int32) : Met l yX0_valueOf wsX0_valueOf ({ frames := 1, cells := 0, slots := 0, locals := 23 } : Room) (pcW D [(cy, .int)] [.ref aE, .int x] [(aE, .inr (0, [.ref aK, .ref aV, .int (nI c)])), (aK, .inl (cy, 512, .inl k)), (aV, .inl (cy, 512, .inl v))]) (qR (.long (vOf k v c x))) 0 0 (fun _ => False) := by
  refine met_W (cc := cX0_valueOf) (maxL := 3) (ret := (some .long)) (by decide +kernel) rfl (Nat.le_of_ble_eq_true rfl) ?_
  intro pM eM s mM below meth cM ls hx hb hr hts hown hlocks hml hnm hK hP hl
  have hown : s.vm.findClass RX0 = some mM.cls := hown
  have hl : lv_has ls 3 [(0, .ref aE), (1, .int x)] := hl
  have hin_X0 : ∀ w ∈ wsX00, w ∈ wsX0_valueOf := by decide +kernel
  have kf_15 := hts (.fieldLink RX0 15 "OrderedDesk$Entries" "values" "[I") (by decide +kernel)
  have kc_22 := hts (.constantLong RX0 22 (1099511627776)) (by decide +kernel)
  have hP : va_P D vwCl [(aE, .inr (0, [.ref aK, .ref aV, .int (nI c)])), (aK, .inl (cy, 512, .inl k)), (aV, .inl (cy, 512, .inl v))] s.heap := hP
  have hpl := plc_le k c x.toInt64
  refine lv_aload_n hx hb dX0_valueOf_0 rfl (lv_at hl 0 rfl) ?_
  refine lv_iload_n hx hb dX0_valueOf_1 rfl (lv_at hl 1 rfl) ?_
  refine lv_i2l hx hb dX0_valueOf_2 rfl ?_
  refine go_R (va_runV (As := [.long x.toInt64]) (rest := []) ⟨hx, hb, hml, hown, hts⟩ (c_X0_placeOf l D cy aE aK aV k v c (by omega) x.toInt64) (cwV 1 hts gX0_valueOf_X0_placeOf rfl rfl rfl (by decide +kernel) ⟨(Nat.le_of_ble_eq_true rfl), (Nat.le_of_ble_eq_true rfl)⟩) (preV_W hK (hP.sub [0, 1, 2] rfl) 0 0 rfl rfl) rfl rfl hl.1 rfl (lv_room (by decide)) dX0_valueOf_3 ⟨(Nat.le_of_ble_eq_true rfl), (Nat.le_of_ble_eq_true rfl)⟩) ?_
  refine lv_istore_n (lv' := [(2, .int (nI (plc k c x.toInt64))), (0, .ref aE), (1, .int x)]) hx hb dX0_valueOf_6 rfl hl (by decide) rfl (fun ls hl => ?_)
  refine lv_aload_n hx hb dX0_valueOf_7 rfl (lv_at hl 1 rfl) ?_
  refine lv_iload_n hx hb dX0_valueOf_8 rfl (lv_at hl 0 rfl) ?_
  refine lv_iload_n hx hb dX0_valueOf_9 rfl (lv_at hl 2 rfl) ?_
  refine go_R (va_runV (As := [.int (nI (plc k c x.toInt64)), .int x]) (rest := []) ⟨hx, hb, hml, hown, hts⟩ (c_X0_isAt l D cy aE aK aV k v c (by omega) (plc k c x.toInt64) (by omega) x) (cwV 2 hts gX0_valueOf_X0_isAt rfl rfl rfl (by decide +kernel) ⟨(Nat.le_of_ble_eq_true rfl), (Nat.le_of_ble_eq_true rfl)⟩) (preV_W hK (hP.sub [0, 1, 2] rfl) 0 0 rfl rfl) rfl rfl hl.1 rfl (lv_room (by decide)) dX0_valueOf_10 ⟨(Nat.le_of_ble_eq_true rfl), (Nat.le_of_ble_eq_true rfl)⟩) ?_
  refine b_eq (tgt := 26) hx hb dX0_valueOf_13 (by decide) (fun h13 => ?_) (fun h13 => ?_)
  · have hz : vOf k v c x = NO := by unfold vOf; rw [if_neg (by rw [h13]; decide)]
    refine lv_ldc2 hx hb hown kc_22 dX0_valueOf_26 ?_
    exact ret_l hx hb hr hlocks dX0_valueOf_29 (by rw [hz])
  · have hz : vOf k v c x = (v (plc k c x.toInt64)).toInt64 := by unfold vOf; rw [if_pos h13]
    refine lv_aload_n hx hb dX0_valueOf_16 rfl (lv_at hl 1 rfl) ?_
    refine va_get (ci := 0) (v := .ref aV) (C := RX0) (T := TX0) (N := 3) hx hb hts hin_X0 hown hK hP 0 rfl rfl 1 (by decide) kf_15 (fun _ h9 => h9) rfl dX0_valueOf_17 ?_
    refine lv_iload_n hx hb dX0_valueOf_20 rfl (lv_at hl 0 rfl) ?_
    refine a_ld hx hb hK hP 2 0 rfl rfl (by have := atK_lt h13; omega) (by decide) dX0_valueOf_21 ?_
    refine lv_i2l hx hb dX0_valueOf_22 rfl ?_
    refine lv_goto (tgt := 29) hx hb dX0_valueOf_23 (by decide) ?_
    exact ret_l hx hb hr hlocks dX0_valueOf_29 (by rw [hz])

set_option maxHeartbeats 4000000 in
set_option maxRecDepth 100000 in
/-- holdsValue(value) -/
theorem c_X0_holdsValue (l : Launch) (D : va_G) (cy : ClassId) (aE aK aV : Nat) (k v : Nat → Int32) (c : Nat) (hc : c ≤ 512) (x : Int32) : Met l yX0_holdsValue wsX0_holdsValue ({ frames := 0, cells := 0, slots := 0, locals := 0 } : Room) (pcW D [(cy, .int)] [.ref aE, .int x] [(aE, .inr (0, [.ref aK, .ref aV, .int (nI c)])), (aK, .inl (cy, 512, .inl k)), (aV, .inl (cy, 512, .inl v))]) (qR (.int (bI (hasV v c x)))) 0 0 (fun _ => False) := by
  refine met_W (cc := cX0_holdsValue) (maxL := 3) (ret := (some .boolean)) (by decide +kernel) rfl (Nat.le_of_ble_eq_true rfl) ?_
  intro pM eM s mM below meth cM ls hx hb hr hts hown hlocks hml hnm hK hP hl
  have hown : s.vm.findClass RX0 = some mM.cls := hown
  have hl : lv_has ls 3 [(0, .ref aE), (1, .int x)] := hl
  have hin_X0 : ∀ w ∈ wsX00, w ∈ wsX0_holdsValue := by decide +kernel
  have kf_15 := hts (.fieldLink RX0 15 "OrderedDesk$Entries" "values" "[I") (by decide +kernel)
  have kf_18 := hts (.fieldLink RX0 18 "OrderedDesk$Entries" "count" "I") (by decide +kernel)
  have hP : va_P D vwCl [(aE, .inr (0, [.ref aK, .ref aV, .int (nI c)])), (aK, .inl (cy, 512, .inl k)), (aV, .inl (cy, 512, .inl v))] s.heap := hP
  refine lv_iconst (v := nI 0) hx hb dX0_holdsValue_0 (by decide) ?_
  refine lv_istore_n (lv' := [(2, .int (nI 0)), (0, .ref aE), (1, .int x)]) hx hb dX0_holdsValue_1 rfl hl (by decide) rfl (fun ls hl => ?_)
  refine W_loopR (I := fun (i : Nat) (ls : Array Slot) => lv_has ls 3 [(0, .ref aE), (1, .int x), (2, .int (nI i))] ∧ i ≤ c ∧ pf (fun j => !decide (v j = x)) c 0 = pf (fun j => !decide (v j = x)) (c - i) i) (μ := fun i => c - i) (fun i ls h ih => ?_) 0 ⟨lv_sub hl [1, 2, 0] rfl, Nat.zero_le _, rfl⟩
  obtain ⟨hl, hi, hv⟩ := h
  refine lv_iload_n hx hb dX0_holdsValue_2 rfl (lv_at hl 2 rfl) ?_
  refine lv_aload_n hx hb dX0_holdsValue_3 rfl (lv_at hl 0 rfl) ?_
  refine va_get (ci := 0) (v := .int (nI c)) (C := RX0) (T := TX0) (N := 3) hx hb hts hin_X0 hown hK hP 0 rfl rfl 2 (by decide) kf_18 (fun _ h9 => h9) rfl dX0_holdsValue_4 ?_
  refine n_ge (tgt := 28) (by omega) (by omega) hx hb dX0_holdsValue_7 (by decide) (fun h7 => ?_) (fun h7 => ?_)
  · have hz : hasV v c x = false := by unfold hasV; rw [hv, pf_e h7]; simp; omega
    refine lv_iconst (v := bI false) hx hb dX0_holdsValue_28 (by decide) ?_
    exact ret_z hx hb hr hlocks dX0_holdsValue_29 (by rw [hz])
  · refine lv_aload_n hx hb dX0_holdsValue_10 rfl (lv_at hl 0 rfl) ?_
    refine va_get (ci := 0) (v := .ref aV) (C := RX0) (T := TX0) (N := 3) hx hb hts hin_X0 hown hK hP 0 rfl rfl 1 (by decide) kf_15 (fun _ h9 => h9) rfl dX0_holdsValue_11 ?_
    refine lv_iload_n hx hb dX0_holdsValue_14 rfl (lv_at hl 2 rfl) ?_
    refine a_ld hx hb hK hP 2 0 rfl rfl (by omega) (by decide) dX0_holdsValue_15 ?_
    refine lv_iload_n hx hb dX0_holdsValue_16 rfl (lv_at hl 1 rfl) ?_
    refine lv_icmp_ne (tgt := 22) hx hb dX0_holdsValue_17 (by decide) (fun h17 => ?_) (fun h17 => ?_)
    · refine lv_iinc (v := nI (i + 1)) (lv' := [(2, .int (nI (i + 1))), (0, .ref aE), (1, .int x)]) hx hb dX0_holdsValue_22 hl (k := 2) rfl (by first | exact nI_1 _ | exact nI_add _ _) (by decide) rfl (fun ls hl => ?_)
      refine lv_goto (tgt := 2) hx hb dX0_holdsValue_25 (by decide) ?_
      exact ih (i + 1) _ (by omega) ⟨lv_sub hl [1, 2, 0] rfl, by omega, by rw [hv, pf_t h7 (by simpa using h17)]⟩
    · have hz : hasV v c x = true := by unfold hasV; rw [hv, pf_f (by simpa using h17)]; simp; omega
      refine lv_iconst (v := bI true) hx hb dX0_holdsValue_20 (by decide) ?_
      exact ret_z hx hb hr hlocks dX0_holdsValue_21 (by rw [hz])

set_option maxHeartbeats 4000000 in
set_option maxRecDepth 100000 in
/-- insert(place, key, value) -/
theorem c_X0_insert (l : Launch) (D : va_G) (cy : ClassId) (aE aK aV : Nat) (k v : Nat → Int32) (c : Nat) (hc : c ≤ 512) (nd : ([aE, aK, aV] : List Nat).Nodup) (sz : Nat) (j : Nat) (hj : j ≤ c) (hc2 : c < 512) (x y : Int32) : Met l yX0_insert wsX0_insert ({ frames := 0, cells := 0, slots := 0, locals := 0 } : Room) (pcZ D [(cy, .int)] [.ref aE, .int (nI j), .int x, .int y] [(aE, .inr (0, [.ref aK, .ref aV, .int (nI c)])), (aK, .inl (cy, 512, .inl k)), (aV, .inl (cy, 512, .inl v))] sz) (qM none (fun H => va_P D vwCl (eW cy aE aK aV (insA k j c x) (insA v j c y) (c + 1)) H) (mA [aE, aK, aV] sz)) 0 0 (mA [aE, aK, aV] sz) := by
  refine met_Z (cc := cX0_insert) (maxL := 5) (ret := none) (by decide +kernel) rfl (Nat.le_of_ble_eq_true rfl) ?_
  intro pM eM s mM below meth cM ls hx hb hr hts hown hlocks hml hnm hsz hK hP hl
  have hown : s.vm.findClass RX0 = some mM.cls := hown
  have hl : lv_has ls 5 [(0, .ref aE), (1, .int (nI j)), (2, .int x), (3, .int y)] := hl
  have hin_X0 : ∀ w ∈ wsX00, w ∈ wsX0_insert := by decide +kernel
  have kf_15 := hts (.fieldLink RX0 15 "OrderedDesk$Entries" "values" "[I") (by decide +kernel)
  have kf_18 := hts (.fieldLink RX0 18 "OrderedDesk$Entries" "count" "I") (by decide +kernel)
  have kf_9 := hts (.fieldLink RX0 9 "OrderedDesk$Entries" "keys" "[I") (by decide +kernel)
  have hP : va_P D vwCl [(aE, .inr (0, [.ref aK, .ref aV, .int (nI c)])), (aK, .inl (cy, 512, .inl k)), (aV, .inl (cy, 512, .inl v))] s.heap := hP
  subst hsz
  have ndw := nd
  have hA : ∀ q : Nat, s.heap.size ≤ q → mA [aE, aK, aV] s.heap.size q := fun q h => Or.inr h
  have hAw : ∀ q ∈ ([aE, aK, aV] : List Nat), mA [aE, aK, aV] s.heap.size q := fun q h => Or.inl h
  have hS : va_S (mA [aE, aK, aV] s.heap.size) s.heap s.heap [] := va_S.rf
  have hD : va_D (mA [aE, aK, aV] s.heap.size) [(aE, .inr (0, [.ref aK, .ref aV, .int (nI c)])), (aK, .inl (cy, 512, .inl k)), (aV, .inl (cy, 512, .inl v))] := D_of ndw hAw
  simp only [List.nodup_cons, List.mem_cons, List.not_mem_nil, or_false, not_or, not_false_eq_true, List.nodup_nil, and_true] at nd
  refine lv_aload_n hx hb dX0_insert_0 rfl (lv_at hl 0 rfl) ?_
  refine va_get (ci := 0) (v := .int (nI c)) (C := RX0) (T := TX0) (N := 3) hx hb hts hin_X0 hown hK hP 0 rfl rfl 2 (by decide) kf_18 (fun _ h9 => h9) rfl dX0_insert_1 ?_
  refine lv_sipush (v := nI 512) hx hb dX0_insert_4 (by decide) ?_
  refine n_lt (tgt := 11) (by omega) (by omega) hx hb dX0_insert_7 (by decide) (fun h7 => ?_) (fun h7 => ?_)
  · refine lv_aload_n hx hb dX0_insert_11 rfl (lv_at hl 0 rfl) ?_
    refine va_get (ci := 0) (v := .int (nI c)) (C := RX0) (T := TX0) (N := 3) hx hb hts hin_X0 hown hK hP 0 rfl rfl 2 (by decide) kf_18 (fun _ h9 => h9) rfl dX0_insert_12 ?_
    refine lv_istore (lv' := [(4, .int (nI c)), (0, .ref aE), (1, .int (nI j)), (2, .int x), (3, .int y)]) hx hb dX0_insert_15 hl (by decide) rfl (fun ls hl => ?_)
    refine W_loop (I := fun (i : Nat) (H : Heap) (locs : List Loc) (ls : Array Slot) => lv_has ls 5 [(0, .ref aE), (1, .int (nI j)), (2, .int x), (3, .int y), (4, .int (nI i))] ∧ va_P D vwCl [(aE, .inr (0, [.ref aK, .ref aV, .int (nI c)])), (aK, .inl (cy, 512, .inl (shA k i c))), (aV, .inl (cy, 512, .inl (shA v i c)))] H ∧ va_S (mA [aE, aK, aV] s.heap.size) s.heap H locs ∧ i ≤ c ∧ j ≤ i) (μ := fun i => i) (fun i H locs ls h ih => ?_) c ⟨lv_sub hl [1, 2, 3, 4, 0] rfl, by rw [shA_c, shA_c]; exact hP, hS, Nat.le_refl _, hj⟩
    obtain ⟨hl, hP, hS, hi, hji⟩ := h
    have hD : va_D (mA [aE, aK, aV] s.heap.size) [(aE, .inr (0, [.ref aK, .ref aV, .int (nI c)])), (aK, .inl (cy, 512, .inl (shA k i c))), (aV, .inl (cy, 512, .inl (shA v i c)))] := D_of ndw hAw
    refine lv_iload hx hb dX0_insert_17 (lv_at hl 4 rfl) ?_
    refine lv_iload_n hx hb dX0_insert_19 rfl (lv_at hl 1 rfl) ?_
    refine n_le (tgt := 61) (by omega) (by omega) hx hb dX0_insert_20 (by decide) (fun h20 => ?_) (fun h20 => ?_)
    · have hij : i = j := by omega
      refine lv_aload_n hx hb dX0_insert_61 rfl (lv_at hl 0 rfl) ?_
      refine va_get (ci := 0) (v := .ref aK) (C := RX0) (T := TX0) (N := 3) hx hb hts hin_X0 hown hK hP 0 rfl rfl 0 (by decide) kf_9 (fun _ h9 => h9) rfl dX0_insert_62 ?_
      refine lv_iload_n hx hb dX0_insert_65 rfl (lv_at hl 1 rfl) ?_
      refine lv_iload_n hx hb dX0_insert_66 rfl (lv_at hl 2 rfl) ?_
      refine a_st hx hb hK hP hD hS 1 0 rfl rfl (by omega) (by decide) dX0_insert_67 (fun H locs hP hD hS => ?_)
      have hP : va_P D vwCl [(aE, .inr (0, [.ref aK, .ref aV, .int (nI c)])), (aK, .inl (cy, 512, .inl (upd (shA k i c) j x))), (aV, .inl (cy, 512, .inl (shA v i c)))] H := hP
      have hD : va_D _ [(aE, .inr (0, [.ref aK, .ref aV, .int (nI c)])), (aK, .inl (cy, 512, .inl (upd (shA k i c) j x))), (aV, .inl (cy, 512, .inl (shA v i c)))] := hD
      refine lv_aload_n hx hb dX0_insert_68 rfl (lv_at hl 0 rfl) ?_
      refine va_get (ci := 0) (v := .ref aV) (C := RX0) (T := TX0) (N := 3) hx hb hts hin_X0 hown hK hP 0 rfl rfl 1 (by decide) kf_15 (fun _ h9 => h9) rfl dX0_insert_69 ?_
      refine lv_iload_n hx hb dX0_insert_72 rfl (lv_at hl 1 rfl) ?_
      refine lv_iload_n hx hb dX0_insert_73 rfl (lv_at hl 3 rfl) ?_
      refine a_st hx hb hK hP hD hS 2 0 rfl rfl (by omega) (by decide) dX0_insert_74 (fun H locs hP hD hS => ?_)
      have hP : va_P D vwCl [(aE, .inr (0, [.ref aK, .ref aV, .int (nI c)])), (aK, .inl (cy, 512, .inl (upd (shA k i c) j x))), (aV, .inl (cy, 512, .inl (upd (shA v i c) j y)))] H := hP
      have hD : va_D _ [(aE, .inr (0, [.ref aK, .ref aV, .int (nI c)])), (aK, .inl (cy, 512, .inl (upd (shA k i c) j x))), (aV, .inl (cy, 512, .inl (upd (shA v i c) j y)))] := hD
      refine lv_aload_n hx hb dX0_insert_75 rfl (lv_at hl 0 rfl) ?_
      refine lv_dup hx hb dX0_insert_76 rfl ?_
      refine va_get (ci := 0) (v := .int (nI c)) (C := RX0) (T := TX0) (N := 3) hx hb hts hin_X0 hown hK hP 0 rfl rfl 2 (by decide) kf_18 (fun _ h9 => h9) rfl dX0_insert_77 ?_
      refine lv_iconst (v := nI 1) hx hb dX0_insert_80 (by decide) ?_
      refine lv_iadd hx hb dX0_insert_81 ?_
      refine top_i (y := nI (c + 1)) (nI_add _ _) ?_
      refine va_put (ci := 0) (v := .int (nI (c + 1))) (ty := .int) (C := RX0) (T := TX0) (N := 3) hx hb hts hin_X0 tyX0 tyX0_ok nmX0 hown hK hP hD hS 0 rfl rfl 2 (by decide) kf_18 (fun _ h9 => h9) rfl (by decide +kernel) rfl rfl (Nat.le_of_ble_eq_true rfl) dX0_insert_82 (fun H locs hP hD hS => ?_)
      have hP : va_P D vwCl [(aE, .inr (0, [.ref aK, .ref aV, .int (nI (c + 1))])), (aK, .inl (cy, 512, .inl (upd (shA k i c) j x))), (aV, .inl (cy, 512, .inl (upd (shA v i c) j y)))] H := hP
      have hD : va_D _ [(aE, .inr (0, [.ref aK, .ref aV, .int (nI (c + 1))])), (aK, .inl (cy, 512, .inl (upd (shA k i c) j x))), (aV, .inl (cy, 512, .inl (upd (shA v i c) j y)))] := hD
      exact ret_vM hx hb hr hlocks dX0_insert_85 hS (by rw [hij, upd_sh, upd_sh] at hP; exact hP)
    · refine lv_aload_n hx hb dX0_insert_23 rfl (lv_at hl 0 rfl) ?_
      refine va_get (ci := 0) (v := .ref aK) (C := RX0) (T := TX0) (N := 3) hx hb hts hin_X0 hown hK hP 0 rfl rfl 0 (by decide) kf_9 (fun _ h9 => h9) rfl dX0_insert_24 ?_
      refine lv_iload hx hb dX0_insert_27 (lv_at hl 4 rfl) ?_
      refine lv_aload_n hx hb dX0_insert_29 rfl (lv_at hl 0 rfl) ?_
      refine va_get (ci := 0) (v := .ref aK) (C := RX0) (T := TX0) (N := 3) hx hb hts hin_X0 hown hK hP 0 rfl rfl 0 (by decide) kf_9 (fun _ h9 => h9) rfl dX0_insert_30 ?_
      refine lv_iload hx hb dX0_insert_33 (lv_at hl 4 rfl) ?_
      refine lv_iconst (v := nI 1) hx hb dX0_insert_35 (by decide) ?_
      refine lv_isub hx hb dX0_insert_36 ?_
      refine top_i (y := nI (i - 1)) (pk_sub (by omega)) ?_
      refine a_ld hx hb hK hP 1 0 rfl rfl (by omega) (by decide) dX0_insert_37 ?_
      refine a_st hx hb hK hP hD hS 1 0 rfl rfl (by omega) (by decide) dX0_insert_38 (fun H locs hP hD hS => ?_)
      have hP : va_P D vwCl [(aE, .inr (0, [.ref aK, .ref aV, .int (nI c)])), (aK, .inl (cy, 512, .inl (upd (shA k i c) i ((shA k i c) (i - 1))))), (aV, .inl (cy, 512, .inl (shA v i c)))] H := hP
      have hD : va_D _ [(aE, .inr (0, [.ref aK, .ref aV, .int (nI c)])), (aK, .inl (cy, 512, .inl (upd (shA k i c) i ((shA k i c) (i - 1))))), (aV, .inl (cy, 512, .inl (shA v i c)))] := hD
      refine lv_aload_n hx hb dX0_insert_39 rfl (lv_at hl 0 rfl) ?_
      refine va_get (ci := 0) (v := .ref aV) (C := RX0) (T := TX0) (N := 3) hx hb hts hin_X0 hown hK hP 0 rfl rfl 1 (by decide) kf_15 (fun _ h9 => h9) rfl dX0_insert_40 ?_
      refine lv_iload hx hb dX0_insert_43 (lv_at hl 4 rfl) ?_
      refine lv_aload_n hx hb dX0_insert_45 rfl (lv_at hl 0 rfl) ?_
      refine va_get (ci := 0) (v := .ref aV) (C := RX0) (T := TX0) (N := 3) hx hb hts hin_X0 hown hK hP 0 rfl rfl 1 (by decide) kf_15 (fun _ h9 => h9) rfl dX0_insert_46 ?_
      refine lv_iload hx hb dX0_insert_49 (lv_at hl 4 rfl) ?_
      refine lv_iconst (v := nI 1) hx hb dX0_insert_51 (by decide) ?_
      refine lv_isub hx hb dX0_insert_52 ?_
      refine top_i (y := nI (i - 1)) (pk_sub (by omega)) ?_
      refine a_ld hx hb hK hP 2 0 rfl rfl (by omega) (by decide) dX0_insert_53 ?_
      refine a_st hx hb hK hP hD hS 2 0 rfl rfl (by omega) (by decide) dX0_insert_54 (fun H locs hP hD hS => ?_)
      have hP : va_P D vwCl [(aE, .inr (0, [.ref aK, .ref aV, .int (nI c)])), (aK, .inl (cy, 512, .inl (upd (shA k i c) i ((shA k i c) (i - 1))))), (aV, .inl (cy, 512, .inl (upd (shA v i c) i ((shA v i c) (i - 1)))))] H := hP
      have hD : va_D _ [(aE, .inr (0, [.ref aK, .ref aV, .int (nI c)])), (aK, .inl (cy, 512, .inl (upd (shA k i c) i ((shA k i c) (i - 1))))), (aV, .inl (cy, 512, .inl (upd (shA v i c) i ((shA v i c) (i - 1)))))] := hD
      refine lv_iinc (v := nI (i - 1)) (lv' := [(4, .int (nI (i - 1))), (0, .ref aE), (1, .int (nI j)), (2, .int x), (3, .int y)]) hx hb dX0_insert_55 hl (k := 4) rfl (sb_m1 (by omega)) (by decide) rfl (fun ls hl => ?_)
      refine lv_goto (tgt := 17) hx hb dX0_insert_58 (by decide) ?_
      exact ih (i - 1) _ _ _ (by omega) ⟨lv_sub hl [1, 2, 3, 4, 0] rfl, by rw [← shA_s k (by omega) hi, ← shA_s v (by omega) hi]; exact hP, hS, by omega, by omega⟩
  · exact absurd h7 (by omega)

set_option maxHeartbeats 4000000 in
set_option maxRecDepth 100000 in
/-- store(key, value) -/
theorem c_X0_store (l : Launch) (D : va_G) (cy : ClassId) (aE aK aV : Nat) (k v : Nat → Int32) (c : Nat) (hc : c ≤ 512) (nd : ([aE, aK, aV] : List Nat).Nodup) (sz : Nat) (hc2 : c < 512) (x y : Int32) : Met l yX0_store wsX0_store ({ frames := 1, cells := 0, slots := 0, locals := 24 } : Room) (pcZ D [(cy, .int)] [.ref aE, .int x, .int y] [(aE, .inr (0, [.ref aK, .ref aV, .int (nI c)])), (aK, .inl (cy, 512, .inl k)), (aV, .inl (cy, 512, .inl v))] sz) (qM (some (.long (vOf k v c x))) (fun H => va_P D vwCl (eW cy aE aK aV (stK k c x) (stV k v c x y) (stC k c x)) H) (mA [aE, aK, aV] sz)) 0 0 (mA [aE, aK, aV] sz) := by
  refine met_Z (cc := cX0_store) (maxL := 6) (ret := (some .long)) (by decide +kernel) rfl (Nat.le_of_ble_eq_true rfl) ?_
  intro pM eM s mM below meth cM ls hx hb hr hts hown hlocks hml hnm hsz hK hP hl
  have hown : s.vm.findClass RX0 = some mM.cls := hown
  have hl : lv_has ls 6 [(0, .ref aE), (1, .int x), (2, .int y)] := hl
  have hin_X0 : ∀ w ∈ wsX00, w ∈ wsX0_store := by decide +kernel
  have kf_15 := hts (.fieldLink RX0 15 "OrderedDesk$Entries" "values" "[I") (by decide +kernel)
  have kc_22 := hts (.constantLong RX0 22 (1099511627776)) (by decide +kernel)
  have hP : va_P D vwCl [(aE, .inr (0, [.ref aK, .ref aV, .int (nI c)])), (aK, .inl (cy, 512, .inl k)), (aV, .inl (cy, 512, .inl v))] s.heap := hP
  subst hsz
  have ndw := nd
  have hA : ∀ q : Nat, s.heap.size ≤ q → mA [aE, aK, aV] s.heap.size q := fun q h => Or.inr h
  have hAw : ∀ q ∈ ([aE, aK, aV] : List Nat), mA [aE, aK, aV] s.heap.size q := fun q h => Or.inl h
  have hS : va_S (mA [aE, aK, aV] s.heap.size) s.heap s.heap [] := va_S.rf
  have hD : va_D (mA [aE, aK, aV] s.heap.size) [(aE, .inr (0, [.ref aK, .ref aV, .int (nI c)])), (aK, .inl (cy, 512, .inl k)), (aV, .inl (cy, 512, .inl v))] := D_of ndw hAw
  simp only [List.nodup_cons, List.mem_cons, List.not_mem_nil, or_false, not_or, not_false_eq_true, List.nodup_nil, and_true] at nd
  have hpl := plc_le k c x.toInt64
  refine lv_aload_n hx hb dX0_store_0 rfl (lv_at hl 0 rfl) ?_
  refine lv_iload_n hx hb dX0_store_1 rfl (lv_at hl 1 rfl) ?_
  refine lv_i2l hx hb dX0_store_2 rfl ?_
  refine go_R (va_runV (As := [.long x.toInt64]) (rest := []) ⟨hx, hb, hml, hown, hts⟩ (c_X0_placeOf l D cy aE aK aV k v c (by omega) x.toInt64) (cwV 1 hts gX0_store_X0_placeOf rfl rfl rfl (by decide +kernel) ⟨(Nat.le_of_ble_eq_true rfl), (Nat.le_of_ble_eq_true rfl)⟩) (preV_W hK (hP.sub [0, 1, 2] rfl) 0 0 rfl rfl) rfl rfl hl.1 rfl (lv_room (by decide)) dX0_store_3 ⟨(Nat.le_of_ble_eq_true rfl), (Nat.le_of_ble_eq_true rfl)⟩) ?_
  refine lv_istore_n (lv' := [(3, .int (nI (plc k c x.toInt64))), (0, .ref aE), (1, .int x), (2, .int y)]) hx hb dX0_store_6 rfl hl (by decide) rfl (fun ls hl => ?_)
  refine lv_aload_n hx hb dX0_store_7 rfl (lv_at hl 1 rfl) ?_
  refine lv_iload_n hx hb dX0_store_8 rfl (lv_at hl 0 rfl) ?_
  refine lv_iload_n hx hb dX0_store_9 rfl (lv_at hl 2 rfl) ?_
  refine go_R (va_runV (As := [.int (nI (plc k c x.toInt64)), .int x]) (rest := []) ⟨hx, hb, hml, hown, hts⟩ (c_X0_isAt l D cy aE aK aV k v c (by omega) (plc k c x.toInt64) (by omega) x) (cwV 2 hts gX0_store_X0_isAt rfl rfl rfl (by decide +kernel) ⟨(Nat.le_of_ble_eq_true rfl), (Nat.le_of_ble_eq_true rfl)⟩) (preV_W hK (hP.sub [0, 1, 2] rfl) 0 0 rfl rfl) rfl rfl hl.1 rfl (lv_room (by decide)) dX0_store_10 ⟨(Nat.le_of_ble_eq_true rfl), (Nat.le_of_ble_eq_true rfl)⟩) ?_
  refine b_ne (tgt := 27) hx hb dX0_store_13 (by decide) (fun h13 => ?_) (fun h13 => ?_)
  · have hz : vOf k v c x = (v (plc k c x.toInt64)).toInt64 := by unfold vOf; rw [if_pos h13]
    have e1 : stK k c x = k := if_pos h13
    have e2 : stV k v c x y = upd v (plc k c x.toInt64) y := if_pos h13
    have e3 : stC k c x = c := if_pos h13
    refine lv_aload_n hx hb dX0_store_27 rfl (lv_at hl 1 rfl) ?_
    refine va_get (ci := 0) (v := .ref aV) (C := RX0) (T := TX0) (N := 3) hx hb hts hin_X0 hown hK hP 0 rfl rfl 1 (by decide) kf_15 (fun _ h9 => h9) rfl dX0_store_28 ?_
    refine lv_iload_n hx hb dX0_store_31 rfl (lv_at hl 0 rfl) ?_
    refine a_ld hx hb hK hP 2 0 rfl rfl (by have := atK_lt h13; omega) (by decide) dX0_store_32 ?_
    refine lv_i2l hx hb dX0_store_33 rfl ?_
    refine lv_lstore (lv' := [(4, .long ((v (plc k c x.toInt64)).toInt64)), (3, .int (nI (plc k c x.toInt64))), (0, .ref aE), (1, .int x), (2, .int y)]) hx hb dX0_store_34 hl (by decide) rfl (fun ls hl => ?_)
    refine lv_aload_n hx hb dX0_store_36 rfl (lv_at hl 2 rfl) ?_
    refine va_get (ci := 0) (v := .ref aV) (C := RX0) (T := TX0) (N := 3) hx hb hts hin_X0 hown hK hP 0 rfl rfl 1 (by decide) kf_15 (fun _ h9 => h9) rfl dX0_store_37 ?_
    refine lv_iload_n hx hb dX0_store_40 rfl (lv_at hl 1 rfl) ?_
    refine lv_iload_n hx hb dX0_store_41 rfl (lv_at hl 4 rfl) ?_
    refine a_st hx hb hK hP hD hS 2 0 rfl rfl (by have := atK_lt h13; omega) (by decide) dX0_store_42 (fun H locs hP hD hS => ?_)
    have hP : va_P D vwCl [(aE, .inr (0, [.ref aK, .ref aV, .int (nI c)])), (aK, .inl (cy, 512, .inl k)), (aV, .inl (cy, 512, .inl (upd v (plc k c x.toInt64) y)))] H := hP
    have hD : va_D _ [(aE, .inr (0, [.ref aK, .ref aV, .int (nI c)])), (aK, .inl (cy, 512, .inl k)), (aV, .inl (cy, 512, .inl (upd v (plc k c x.toInt64) y)))] := hD
    refine lv_lload hx hb dX0_store_43 (lv_at hl 0 rfl) ?_
    exact ret_lM hx hb hr hlocks dX0_store_45 hS (by rw [hz]) (by rw [e1, e2, e3]; exact hP)
  · have h13n : ¬ atK k c (plc k c x.toInt64) x = true := by rw [h13]; decide
    have hz : vOf k v c x = NO := if_neg h13n
    have e1 : stK k c x = insA k (plc k c x.toInt64) c x := if_neg h13n
    have e2 : stV k v c x y = insA v (plc k c x.toInt64) c y := if_neg h13n
    have e3 : stC k c x = c + 1 := if_neg h13n
    refine lv_aload_n hx hb dX0_store_16 rfl (lv_at hl 1 rfl) ?_
    refine lv_iload_n hx hb dX0_store_17 rfl (lv_at hl 0 rfl) ?_
    refine lv_iload_n hx hb dX0_store_18 rfl (lv_at hl 2 rfl) ?_
    refine lv_iload_n hx hb dX0_store_19 rfl (lv_at hl 3 rfl) ?_
    refine go_V (va_runV (As := [.int (nI (plc k c x.toInt64)), .int x, .int y]) (rest := []) ⟨hx, hb, hml, hown, hts⟩ (c_X0_insert l D cy aE aK aV k v c (by omega) (by simp; omega) _ (plc k c x.toInt64) (by omega) (by omega) x y) (cwV 3 hts gX0_store_X0_insert rfl rfl rfl (by decide +kernel) ⟨(Nat.le_of_ble_eq_true rfl), (Nat.le_of_ble_eq_true rfl)⟩) (preV_Z hK (hP.sub [0, 1, 2] rfl) 0 0 rfl rfl) rfl rfl hl.1 rfl (lv_room (by decide)) dX0_store_20 ⟨(Nat.le_of_ble_eq_true rfl), (Nat.le_of_ble_eq_true rfl)⟩) hS (fun q h => mA_sub [0, 1, 2] rfl hS.1 h) (fun H1 locs1 hB hzz hk hS => ?_)
    have hP : va_P D vwCl [(aE, .inr (0, [.ref aK, .ref aV, .int (nI (c + 1))])), (aK, .inl (cy, 512, .inl (insA k (plc k c x.toInt64) c x))), (aV, .inl (cy, 512, .inl (insA v (plc k c x.toInt64) c y)))] H1 := va_P.sub hB [0, 1, 2] rfl
    have hD : va_D (mA [aE, aK, aV] s.heap.size) [(aE, .inr (0, [.ref aK, .ref aV, .int (nI (c + 1))])), (aK, .inl (cy, 512, .inl (insA k (plc k c x.toInt64) c x))), (aV, .inl (cy, 512, .inl (insA v (plc k c x.toInt64) c y)))] := D_of ndw hAw
    clear hB
    generalize H1 = H at hP hS ⊢
    generalize locs1 = locs at hS ⊢
    refine lv_ldc2 hx hb hown kc_22 dX0_store_23 ?_
    exact ret_lM hx hb hr hlocks dX0_store_26 hS (by rw [hz]) (by rw [e1, e2, e3]; exact hP)

set_option maxHeartbeats 4000000 in
set_option maxRecDepth 100000 in
/-- Math.floorMod -/
theorem c_J9_floorMod_7cf53 (l : Launch) (D : va_G) (x y : Int32) (hy : ¬ y = 0) : Met l yJ9_floorMod_7cf53 wsJ9_floorMod_7cf53 ({ frames := 0, cells := 0, slots := 0, locals := 0 } : Room) (pcW D [] [.int x, .int y] []) (qR (.int (fMod x y))) 0 0 (fun _ => False) := by
  refine met_F (cc := cJ9_floorMod_7cf53) (maxL := 3) (ret := (some .int)) (by decide +kernel) rfl (Nat.le_of_ble_eq_true rfl) ?_
  intro pM eM s mM below meth cM ls hx hb hr hts hown hlocks hml hnm hK hP hl
  have hown : s.vm.findClass RJ9 = some mM.cls := hown
  have hl : lv_has ls 3 [(0, .int x), (1, .int y)] := hl
  have hP : va_P D vwCl [] s.heap := hP
  refine lv_iload_n hx hb dJ9_floorMod_7cf53_0 rfl (lv_at hl 0 rfl) ?_
  refine lv_iload_n hx hb dJ9_floorMod_7cf53_1 rfl (lv_at hl 1 rfl) ?_
  refine lv_irem hx hb dJ9_floorMod_7cf53_2 hy ?_
  refine lv_istore_n (lv' := [(2, .int (x - x / y * y)), (0, .int x), (1, .int y)]) hx hb dJ9_floorMod_7cf53_3 rfl hl (by decide) rfl (fun ls hl => ?_)
  refine lv_iload_n hx hb dJ9_floorMod_7cf53_4 rfl (lv_at hl 1 rfl) ?_
  refine lv_iload_n hx hb dJ9_floorMod_7cf53_5 rfl (lv_at hl 2 rfl) ?_
  refine lv_ixor hx hb dJ9_floorMod_7cf53_6 ?_
  refine lv_if_ge (tgt := 18) hx hb dJ9_floorMod_7cf53_7 (by decide) (fun h7 => ?_) (fun h7 => ?_)
  · have hz : fMod x y = x - x / y * y := by unfold fMod; exact if_neg (fun q => Int32.not_lt.mpr h7 q.1)
    refine lv_iload_n hx hb dJ9_floorMod_7cf53_18 rfl (lv_at hl 0 rfl) ?_
    exact ret_i hx hb hr hlocks dJ9_floorMod_7cf53_19 (by rw [hz])
  · refine lv_iload_n hx hb dJ9_floorMod_7cf53_10 rfl (lv_at hl 0 rfl) ?_
    refine lv_if_eq (tgt := 18) hx hb dJ9_floorMod_7cf53_11 (by decide) (fun h11 => ?_) (fun h11 => ?_)
    · have hz : fMod x y = x - x / y * y := by unfold fMod; exact if_neg (fun q => q.2 h11)
      refine lv_iload_n hx hb dJ9_floorMod_7cf53_18 rfl (lv_at hl 0 rfl) ?_
      exact ret_i hx hb hr hlocks dJ9_floorMod_7cf53_19 (by rw [hz])
    · have hz : fMod x y = (x - x / y * y) + y := by unfold fMod; exact if_pos ⟨Int32.not_le.mp h7, h11⟩
      refine lv_iload_n hx hb dJ9_floorMod_7cf53_14 rfl (lv_at hl 0 rfl) ?_
      refine lv_iload_n hx hb dJ9_floorMod_7cf53_15 rfl (lv_at hl 2 rfl) ?_
      refine lv_iadd hx hb dJ9_floorMod_7cf53_16 ?_
      exact ret_i hx hb hr hlocks dJ9_floorMod_7cf53_17 (by rw [hz])

set_option maxHeartbeats 4000000 in
set_option maxRecDepth 100000 in
/-- dropLeaving(step, rest, begin, end) -/
theorem c_X0_dropLeaving (l : Launch) (D : va_G) (cy : ClassId) (aE aK aV : Nat) (k v : Nat → Int32) (c : Nat) (hc : c ≤ 512) (nd : ([aE, aK, aV] : List Nat).Nodup) (sz : Nat) (step rest : Int32) (b f : Nat) (hb2 : b ≤ c) (hf2 : f ≤ 512) : Met l yX0_dropLeaving wsX0_dropLeaving ({ frames := 1, cells := 0, slots := 0, locals := 22 } : Room) (pcZ D [(cy, .int)] [.ref aE, .int step, .int rest, .int (nI b), .int (nI f)] [(aE, .inr (0, [.ref aK, .ref aV, .int (nI c)])), (aK, .inl (cy, 512, .inl k)), (aV, .inl (cy, 512, .inl v))] sz) (qM (some (.int (if step < 1 then (-1) else nI (c - (dlK step rest b f c k v).1)))) (fun H => va_P D vwCl (eW cy aE aK aV ((dlS step rest b f c k v).2.1) ((dlS step rest b f c k v).2.2) ((dlS step rest b f c k v).1)) H) (mA [aE, aK, aV] sz)) 0 0 (mA [aE, aK, aV] sz) := by
  refine met_Z (cc := cX0_dropLeaving) (maxL := 8) (ret := (some .int)) (by decide +kernel) rfl (Nat.le_of_ble_eq_true rfl) ?_
  intro pM eM s mM below meth cM ls hx hb hr hts hown hlocks hml hnm hsz hK hP hl
  have hown : s.vm.findClass RX0 = some mM.cls := hown
  have hl : lv_has ls 8 [(0, .ref aE), (1, .int step), (2, .int rest), (3, .int (nI b)), (4, .int (nI f))] := hl
  have hin_X0 : ∀ w ∈ wsX00, w ∈ wsX0_dropLeaving := by decide +kernel
  have kf_15 := hts (.fieldLink RX0 15 "OrderedDesk$Entries" "values" "[I") (by decide +kernel)
  have kf_18 := hts (.fieldLink RX0 18 "OrderedDesk$Entries" "count" "I") (by decide +kernel)
  have kf_9 := hts (.fieldLink RX0 9 "OrderedDesk$Entries" "keys" "[I") (by decide +kernel)
  have hP : va_P D vwCl [(aE, .inr (0, [.ref aK, .ref aV, .int (nI c)])), (aK, .inl (cy, 512, .inl k)), (aV, .inl (cy, 512, .inl v))] s.heap := hP
  subst hsz
  have ndw := nd
  have hA : ∀ q : Nat, s.heap.size ≤ q → mA [aE, aK, aV] s.heap.size q := fun q h => Or.inr h
  have hAw : ∀ q ∈ ([aE, aK, aV] : List Nat), mA [aE, aK, aV] s.heap.size q := fun q h => Or.inl h
  have hS : va_S (mA [aE, aK, aV] s.heap.size) s.heap s.heap [] := va_S.rf
  have hD : va_D (mA [aE, aK, aV] s.heap.size) [(aE, .inr (0, [.ref aK, .ref aV, .int (nI c)])), (aK, .inl (cy, 512, .inl k)), (aV, .inl (cy, 512, .inl v))] := D_of ndw hAw
  simp only [List.nodup_cons, List.mem_cons, List.not_mem_nil, or_false, not_or, not_false_eq_true, List.nodup_nil, and_true] at nd
  refine lv_iload_n hx hb dX0_dropLeaving_0 rfl (lv_at hl 1 rfl) ?_
  refine lv_iconst (v := 1) hx hb dX0_dropLeaving_1 (by decide) ?_
  refine lv_icmp_ge (tgt := 7) hx hb dX0_dropLeaving_2 (by decide) (fun h2 => ?_) (fun h2 => ?_)
  · have e0 : dlS step rest b f c k v = dlK step rest b f c k v := if_neg (Int32.not_lt.mpr h2)
    have hz : (if step < 1 then (-1) else nI (c - (dlK step rest b f c k v).1)) = nI (c - (dlK step rest b f c k v).1) := if_neg (Int32.not_lt.mpr h2)
    refine lv_iload_n hx hb dX0_dropLeaving_7 rfl (lv_at hl 3 rfl) ?_
    refine lv_istore (lv' := [(5, .int (nI b)), (0, .ref aE), (1, .int step), (2, .int rest), (3, .int (nI b)), (4, .int (nI f))]) hx hb dX0_dropLeaving_8 hl (by decide) rfl (fun ls hl => ?_)
    refine lv_iload_n hx hb dX0_dropLeaving_10 rfl (lv_at hl 4 rfl) ?_
    refine lv_istore (lv' := [(6, .int (nI b)), (5, .int (nI b)), (0, .ref aE), (1, .int step), (2, .int rest), (3, .int (nI b)), (4, .int (nI f))]) hx hb dX0_dropLeaving_11 hl (by decide) rfl (fun ls hl => ?_)
    refine W_loop (I := fun (i : Nat) (H : Heap) (locs : List Loc) (ls : Array Slot) => ∃ (t : Nat) (k2 : Nat → Int32) (v2 : Nat → Int32), lv_has ls 8 [(0, .ref aE), (1, .int step), (2, .int rest), (3, .int (nI b)), (4, .int (nI f)), (5, .int (nI t)), (6, .int (nI i))] ∧ va_P D vwCl [(aE, .inr (0, [.ref aK, .ref aV, .int (nI c)])), (aK, .inl (cy, 512, .inl k2)), (aV, .inl (cy, 512, .inl v2))] H ∧ va_S (mA [aE, aK, aV] s.heap.size) s.heap H locs ∧ i ≤ c ∧ b ≤ t ∧ t ≤ i ∧ dlK step rest b f c k v = clp (gLeav step rest) f (c - i) i t k2 v2) (μ := fun i => c - i) (fun i H locs ls h ih => ?_) b ⟨b, k, v, lv_sub hl [2, 3, 4, 5, 6, 1, 0] rfl, hP, hS, hb2, Nat.le_refl _, Nat.le_refl _, rfl⟩
    obtain ⟨t, k2, v2, hl, hP, hS, hi, hbi, hti, hv⟩ := h
    have hD : va_D (mA [aE, aK, aV] s.heap.size) [(aE, .inr (0, [.ref aK, .ref aV, .int (nI c)])), (aK, .inl (cy, 512, .inl k2)), (aV, .inl (cy, 512, .inl v2))] := D_of ndw hAw
    refine lv_iload hx hb dX0_dropLeaving_13 (lv_at hl 6 rfl) ?_
    refine lv_aload_n hx hb dX0_dropLeaving_15 rfl (lv_at hl 0 rfl) ?_
    refine va_get (ci := 0) (v := .int (nI c)) (C := RX0) (T := TX0) (N := 3) hx hb hts hin_X0 hown hK hP 0 rfl rfl 2 (by decide) kf_18 (fun _ h9 => h9) rfl dX0_dropLeaving_16 ?_
    refine n_ge (tgt := 93) (by omega) (by omega) hx hb dX0_dropLeaving_19 (by decide) (fun h19 => ?_) (fun h19 => ?_)
    · have hic : i = c := by omega
      rw [hic, Nat.sub_self] at hv
      have e1 : (dlK step rest b f c k v) = (t, k2, v2) := hv
      refine lv_aload_n hx hb dX0_dropLeaving_93 rfl (lv_at hl 0 rfl) ?_
      refine va_get (ci := 0) (v := .int (nI c)) (C := RX0) (T := TX0) (N := 3) hx hb hts hin_X0 hown hK hP 0 rfl rfl 2 (by decide) kf_18 (fun _ h9 => h9) rfl dX0_dropLeaving_94 ?_
      refine lv_iload hx hb dX0_dropLeaving_97 (lv_at hl 5 rfl) ?_
      refine lv_isub hx hb dX0_dropLeaving_99 ?_
      refine top_i (y := nI (c - t)) (pk_sub (by omega)) ?_
      refine lv_istore (lv' := [(6, .int (nI (c - t))), (0, .ref aE), (1, .int step), (2, .int rest), (3, .int (nI b)), (4, .int (nI f)), (5, .int (nI t))]) hx hb dX0_dropLeaving_100 hl (by decide) rfl (fun ls hl => ?_)
      refine lv_aload_n hx hb dX0_dropLeaving_102 rfl (lv_at hl 1 rfl) ?_
      refine lv_iload hx hb dX0_dropLeaving_103 (lv_at hl 6 rfl) ?_
      refine va_put (ci := 0) (v := .int (nI t)) (ty := .int) (C := RX0) (T := TX0) (N := 3) hx hb hts hin_X0 tyX0 tyX0_ok nmX0 hown hK hP hD hS 0 rfl rfl 2 (by decide) kf_18 (fun _ h9 => h9) rfl (by decide +kernel) rfl rfl (Nat.le_of_ble_eq_true rfl) dX0_dropLeaving_105 (fun H locs hP hD hS => ?_)
      have hP : va_P D vwCl [(aE, .inr (0, [.ref aK, .ref aV, .int (nI t)])), (aK, .inl (cy, 512, .inl k2)), (aV, .inl (cy, 512, .inl v2))] H := hP
      have hD : va_D _ [(aE, .inr (0, [.ref aK, .ref aV, .int (nI t)])), (aK, .inl (cy, 512, .inl k2)), (aV, .inl (cy, 512, .inl v2))] := hD
      refine lv_iload hx hb dX0_dropLeaving_108 (lv_at hl 0 rfl) ?_
      exact ret_iM hx hb hr hlocks dX0_dropLeaving_110 hS (by rw [hz, e1]) (by rw [e0, e1]; exact hP)
    · refine lv_iload hx hb dX0_dropLeaving_22 (lv_at hl 6 rfl) ?_
      refine lv_iload hx hb dX0_dropLeaving_24 (lv_at hl 4 rfl) ?_
      refine n_ge (tgt := 48) (by omega) (by omega) hx hb dX0_dropLeaving_26 (by decide) (fun h26 => ?_) (fun h26 => ?_)
      · have hg : (decide (i < f) && gLeav step rest (k2 i)) = false := by simp [Nat.not_lt.mpr h26]
        refine lv_iconst (v := bI false) hx hb dX0_dropLeaving_48 (by decide) ?_
        refine lv_istore (lv' := [(7, .int (bI false)), (0, .ref aE), (1, .int step), (2, .int rest), (3, .int (nI b)), (4, .int (nI f)), (5, .int (nI t)), (6, .int (nI i))]) hx hb dX0_dropLeaving_49 hl (by decide) rfl (fun ls hl => ?_)
        refine lv_iload hx hb dX0_dropLeaving_51 (lv_at hl 0 rfl) ?_
        refine b_ne (tgt := 87) hx hb dX0_dropLeaving_53 (by decide) (fun c_4 => ?_) (fun c_4 => ?_)
        · exact absurd c_4 (by decide)
        · refine lv_aload_n hx hb dX0_dropLeaving_56 rfl (lv_at hl 1 rfl) ?_
          refine va_get (ci := 0) (v := .ref aK) (C := RX0) (T := TX0) (N := 3) hx hb hts hin_X0 hown hK hP 0 rfl rfl 0 (by decide) kf_9 (fun _ h9 => h9) rfl dX0_dropLeaving_57 ?_
          refine lv_iload hx hb dX0_dropLeaving_60 (lv_at hl 6 rfl) ?_
          refine lv_aload_n hx hb dX0_dropLeaving_62 rfl (lv_at hl 1 rfl) ?_
          refine va_get (ci := 0) (v := .ref aK) (C := RX0) (T := TX0) (N := 3) hx hb hts hin_X0 hown hK hP 0 rfl rfl 0 (by decide) kf_9 (fun _ h9 => h9) rfl dX0_dropLeaving_63 ?_
          refine lv_iload hx hb dX0_dropLeaving_66 (lv_at hl 7 rfl) ?_
          refine a_ld hx hb hK hP 1 0 rfl rfl (by omega) (by decide) dX0_dropLeaving_68 ?_
          refine a_st hx hb hK hP hD hS 1 0 rfl rfl (by omega) (by decide) dX0_dropLeaving_69 (fun H locs hP hD hS => ?_)
          have hP : va_P D vwCl [(aE, .inr (0, [.ref aK, .ref aV, .int (nI c)])), (aK, .inl (cy, 512, .inl (upd k2 t (k2 i)))), (aV, .inl (cy, 512, .inl v2))] H := hP
          have hD : va_D _ [(aE, .inr (0, [.ref aK, .ref aV, .int (nI c)])), (aK, .inl (cy, 512, .inl (upd k2 t (k2 i)))), (aV, .inl (cy, 512, .inl v2))] := hD
          refine lv_aload_n hx hb dX0_dropLeaving_70 rfl (lv_at hl 1 rfl) ?_
          refine va_get (ci := 0) (v := .ref aV) (C := RX0) (T := TX0) (N := 3) hx hb hts hin_X0 hown hK hP 0 rfl rfl 1 (by decide) kf_15 (fun _ h9 => h9) rfl dX0_dropLeaving_71 ?_
          refine lv_iload hx hb dX0_dropLeaving_74 (lv_at hl 6 rfl) ?_
          refine lv_aload_n hx hb dX0_dropLeaving_76 rfl (lv_at hl 1 rfl) ?_
          refine va_get (ci := 0) (v := .ref aV) (C := RX0) (T := TX0) (N := 3) hx hb hts hin_X0 hown hK hP 0 rfl rfl 1 (by decide) kf_15 (fun _ h9 => h9) rfl dX0_dropLeaving_77 ?_
          refine lv_iload hx hb dX0_dropLeaving_80 (lv_at hl 7 rfl) ?_
          refine a_ld hx hb hK hP 2 0 rfl rfl (by omega) (by decide) dX0_dropLeaving_82 ?_
          refine a_st hx hb hK hP hD hS 2 0 rfl rfl (by omega) (by decide) dX0_dropLeaving_83 (fun H locs hP hD hS => ?_)
          have hP : va_P D vwCl [(aE, .inr (0, [.ref aK, .ref aV, .int (nI c)])), (aK, .inl (cy, 512, .inl (upd k2 t (k2 i)))), (aV, .inl (cy, 512, .inl (upd v2 t (v2 i))))] H := hP
          have hD : va_D _ [(aE, .inr (0, [.ref aK, .ref aV, .int (nI c)])), (aK, .inl (cy, 512, .inl (upd k2 t (k2 i)))), (aV, .inl (cy, 512, .inl (upd v2 t (v2 i))))] := hD
          refine lv_iinc (v := nI (t + 1)) (lv' := [(5, .int (nI (t + 1))), (7, .int (bI false)), (0, .ref aE), (1, .int step), (2, .int rest), (3, .int (nI b)), (4, .int (nI f)), (6, .int (nI i))]) hx hb dX0_dropLeaving_84 hl (k := 6) rfl (by first | exact nI_1 _ | exact nI_add _ _) (by decide) rfl (fun ls hl => ?_)
          refine lv_iinc (v := nI (i + 1)) (lv' := [(6, .int (nI (i + 1))), (5, .int (nI (t + 1))), (7, .int (bI false)), (0, .ref aE), (1, .int step), (2, .int rest), (3, .int (nI b)), (4, .int (nI f))]) hx hb dX0_dropLeaving_87 hl (k := 7) rfl (by first | exact nI_1 _ | exact nI_add _ _) (by decide) rfl (fun ls hl => ?_)
          refine lv_goto (tgt := 13) hx hb dX0_dropLeaving_90 (by decide) ?_
          exact ih (i + 1) _ _ _ (by omega) ⟨_, _, _, lv_sub hl [3, 4, 5, 6, 7, 1, 0] rfl, by exact hP, hS, by omega, by omega, by omega, by rw [hv, clp_step h19, hg]; rfl⟩
      · refine lv_aload_n hx hb dX0_dropLeaving_29 rfl (lv_at hl 0 rfl) ?_
        refine va_get (ci := 0) (v := .ref aK) (C := RX0) (T := TX0) (N := 3) hx hb hts hin_X0 hown hK hP 0 rfl rfl 0 (by decide) kf_9 (fun _ h9 => h9) rfl dX0_dropLeaving_30 ?_
        refine lv_iload hx hb dX0_dropLeaving_33 (lv_at hl 6 rfl) ?_
        refine a_ld hx hb hK hP 1 0 rfl rfl (by omega) (by decide) dX0_dropLeaving_35 ?_
        refine lv_iload_n hx hb dX0_dropLeaving_36 rfl (lv_at hl 1 rfl) ?_
        refine go_R (va_runS (As := [.int (k2 i), .int step]) (rest := []) ⟨hx, hb, hml, hown, hts⟩ (c_J9_floorMod_7cf53 l D (k2 i) step (by intro q; rw [q] at h2; exact absurd h2 (by decide))) (va_cwS 2 hts gX0_dropLeaving_J9_floorMod_7cf53 rfl rfl rfl (by decide +kernel) ⟨(Nat.le_of_ble_eq_true rfl), (Nat.le_of_ble_eq_true rfl)⟩) (preS_W (hK.sub [] rfl) (hP.sub [] rfl)) rfl rfl hl.1 rfl (lv_room (by decide)) dX0_dropLeaving_37 ⟨(Nat.le_of_ble_eq_true rfl), (Nat.le_of_ble_eq_true rfl)⟩) ?_
        refine lv_iload_n hx hb dX0_dropLeaving_40 rfl (lv_at hl 2 rfl) ?_
        refine lv_icmp_ne (tgt := 48) hx hb dX0_dropLeaving_41 (by decide) (fun h41 => ?_) (fun h41 => ?_)
        · have hg : (decide (i < f) && gLeav step rest (k2 i)) = false := by simp [gLeav, h41]
          refine lv_iconst (v := bI false) hx hb dX0_dropLeaving_48 (by decide) ?_
          refine lv_istore (lv' := [(7, .int (bI false)), (0, .ref aE), (1, .int step), (2, .int rest), (3, .int (nI b)), (4, .int (nI f)), (5, .int (nI t)), (6, .int (nI i))]) hx hb dX0_dropLeaving_49 hl (by decide) rfl (fun ls hl => ?_)
          refine lv_iload hx hb dX0_dropLeaving_51 (lv_at hl 0 rfl) ?_
          refine b_ne (tgt := 87) hx hb dX0_dropLeaving_53 (by decide) (fun c_6 => ?_) (fun c_6 => ?_)
          · exact absurd c_6 (by decide)
          · refine lv_aload_n hx hb dX0_dropLeaving_56 rfl (lv_at hl 1 rfl) ?_
            refine va_get (ci := 0) (v := .ref aK) (C := RX0) (T := TX0) (N := 3) hx hb hts hin_X0 hown hK hP 0 rfl rfl 0 (by decide) kf_9 (fun _ h9 => h9) rfl dX0_dropLeaving_57 ?_
            refine lv_iload hx hb dX0_dropLeaving_60 (lv_at hl 6 rfl) ?_
            refine lv_aload_n hx hb dX0_dropLeaving_62 rfl (lv_at hl 1 rfl) ?_
            refine va_get (ci := 0) (v := .ref aK) (C := RX0) (T := TX0) (N := 3) hx hb hts hin_X0 hown hK hP 0 rfl rfl 0 (by decide) kf_9 (fun _ h9 => h9) rfl dX0_dropLeaving_63 ?_
            refine lv_iload hx hb dX0_dropLeaving_66 (lv_at hl 7 rfl) ?_
            refine a_ld hx hb hK hP 1 0 rfl rfl (by omega) (by decide) dX0_dropLeaving_68 ?_
            refine a_st hx hb hK hP hD hS 1 0 rfl rfl (by omega) (by decide) dX0_dropLeaving_69 (fun H locs hP hD hS => ?_)
            have hP : va_P D vwCl [(aE, .inr (0, [.ref aK, .ref aV, .int (nI c)])), (aK, .inl (cy, 512, .inl (upd k2 t (k2 i)))), (aV, .inl (cy, 512, .inl v2))] H := hP
            have hD : va_D _ [(aE, .inr (0, [.ref aK, .ref aV, .int (nI c)])), (aK, .inl (cy, 512, .inl (upd k2 t (k2 i)))), (aV, .inl (cy, 512, .inl v2))] := hD
            refine lv_aload_n hx hb dX0_dropLeaving_70 rfl (lv_at hl 1 rfl) ?_
            refine va_get (ci := 0) (v := .ref aV) (C := RX0) (T := TX0) (N := 3) hx hb hts hin_X0 hown hK hP 0 rfl rfl 1 (by decide) kf_15 (fun _ h9 => h9) rfl dX0_dropLeaving_71 ?_
            refine lv_iload hx hb dX0_dropLeaving_74 (lv_at hl 6 rfl) ?_
            refine lv_aload_n hx hb dX0_dropLeaving_76 rfl (lv_at hl 1 rfl) ?_
            refine va_get (ci := 0) (v := .ref aV) (C := RX0) (T := TX0) (N := 3) hx hb hts hin_X0 hown hK hP 0 rfl rfl 1 (by decide) kf_15 (fun _ h9 => h9) rfl dX0_dropLeaving_77 ?_
            refine lv_iload hx hb dX0_dropLeaving_80 (lv_at hl 7 rfl) ?_
            refine a_ld hx hb hK hP 2 0 rfl rfl (by omega) (by decide) dX0_dropLeaving_82 ?_
            refine a_st hx hb hK hP hD hS 2 0 rfl rfl (by omega) (by decide) dX0_dropLeaving_83 (fun H locs hP hD hS => ?_)
            have hP : va_P D vwCl [(aE, .inr (0, [.ref aK, .ref aV, .int (nI c)])), (aK, .inl (cy, 512, .inl (upd k2 t (k2 i)))), (aV, .inl (cy, 512, .inl (upd v2 t (v2 i))))] H := hP
            have hD : va_D _ [(aE, .inr (0, [.ref aK, .ref aV, .int (nI c)])), (aK, .inl (cy, 512, .inl (upd k2 t (k2 i)))), (aV, .inl (cy, 512, .inl (upd v2 t (v2 i))))] := hD
            refine lv_iinc (v := nI (t + 1)) (lv' := [(5, .int (nI (t + 1))), (7, .int (bI false)), (0, .ref aE), (1, .int step), (2, .int rest), (3, .int (nI b)), (4, .int (nI f)), (6, .int (nI i))]) hx hb dX0_dropLeaving_84 hl (k := 6) rfl (by first | exact nI_1 _ | exact nI_add _ _) (by decide) rfl (fun ls hl => ?_)
            refine lv_iinc (v := nI (i + 1)) (lv' := [(6, .int (nI (i + 1))), (5, .int (nI (t + 1))), (7, .int (bI false)), (0, .ref aE), (1, .int step), (2, .int rest), (3, .int (nI b)), (4, .int (nI f))]) hx hb dX0_dropLeaving_87 hl (k := 7) rfl (by first | exact nI_1 _ | exact nI_add _ _) (by decide) rfl (fun ls hl => ?_)
            refine lv_goto (tgt := 13) hx hb dX0_dropLeaving_90 (by decide) ?_
            exact ih (i + 1) _ _ _ (by omega) ⟨_, _, _, lv_sub hl [3, 4, 5, 6, 7, 1, 0] rfl, by exact hP, hS, by omega, by omega, by omega, by rw [hv, clp_step h19, hg]; rfl⟩
        · have hg : (decide (i < f) && gLeav step rest (k2 i)) = true := by simp [gLeav, h26, h41]
          refine lv_iconst (v := bI true) hx hb dX0_dropLeaving_44 (by decide) ?_
          refine lv_goto (tgt := 49) hx hb dX0_dropLeaving_45 (by decide) ?_
          refine lv_istore (lv' := [(7, .int (bI true)), (0, .ref aE), (1, .int step), (2, .int rest), (3, .int (nI b)), (4, .int (nI f)), (5, .int (nI t)), (6, .int (nI i))]) hx hb dX0_dropLeaving_49 hl (by decide) rfl (fun ls hl => ?_)
          refine lv_iload hx hb dX0_dropLeaving_51 (lv_at hl 0 rfl) ?_
          refine b_ne (tgt := 87) hx hb dX0_dropLeaving_53 (by decide) (fun c_7 => ?_) (fun c_7 => ?_)
          · refine lv_iinc (v := nI (i + 1)) (lv' := [(6, .int (nI (i + 1))), (7, .int (bI true)), (0, .ref aE), (1, .int step), (2, .int rest), (3, .int (nI b)), (4, .int (nI f)), (5, .int (nI t))]) hx hb dX0_dropLeaving_87 hl (k := 7) rfl (by first | exact nI_1 _ | exact nI_add _ _) (by decide) rfl (fun ls hl => ?_)
            refine lv_goto (tgt := 13) hx hb dX0_dropLeaving_90 (by decide) ?_
            exact ih (i + 1) _ _ _ (by omega) ⟨_, _, _, lv_sub hl [2, 3, 4, 5, 6, 7, 0] rfl, by exact hP, hS, by omega, by omega, by omega, by rw [hv, clp_step h19, hg]; rfl⟩
          · exact absurd c_7 (by decide)
  · have h2n : step < 1 := Int32.not_le.mp h2
    have hz : (if step < 1 then (-1) else nI (c - (dlK step rest b f c k v).1)) = (-1) := if_pos h2n
    have e0 : dlS step rest b f c k v = (c, k, v) := if_pos h2n
    refine lv_iconst (v := (-1)) hx hb dX0_dropLeaving_5 (by decide) ?_
    exact ret_iM hx hb hr hlocks dX0_dropLeaving_6 hS (by rw [hz]) (by rw [e0]; exact hP)

set_option maxHeartbeats 4000000 in
set_option maxRecDepth 100000 in
/-- dropPlaces(begin, end) -/
theorem c_X0_dropPlaces (l : Launch) (D : va_G) (cy : ClassId) (aE aK aV : Nat) (k v : Nat → Int32) (c : Nat) (hc : c ≤ 512) (nd : ([aE, aK, aV] : List Nat).Nodup) (sz : Nat) (b f : Nat) (hb2 : b ≤ c) (hf2 : f ≤ 512) : Met l yX0_dropPlaces wsX0_dropPlaces ({ frames := 2, cells := 0, slots := 0, locals := 49 } : Room) (pcZ D [(cy, .int)] [.ref aE, .int (nI b), .int (nI f)] [(aE, .inr (0, [.ref aK, .ref aV, .int (nI c)])), (aK, .inl (cy, 512, .inl k)), (aV, .inl (cy, 512, .inl v))] sz) (qM (some (.int (nI (c - (dlK 1 0 b f c k v).1)))) (fun H => va_P D vwCl (eW cy aE aK aV ((dlK 1 0 b f c k v).2.1) ((dlK 1 0 b f c k v).2.2) ((dlK 1 0 b f c k v).1)) H) (mA [aE, aK, aV] sz)) 0 0 (mA [aE, aK, aV] sz) := by
  refine met_Z (cc := cX0_dropPlaces) (maxL := 3) (ret := (some .int)) (by decide +kernel) rfl (Nat.le_of_ble_eq_true rfl) ?_
  intro pM eM s mM below meth cM ls hx hb hr hts hown hlocks hml hnm hsz hK hP hl
  have hown : s.vm.findClass RX0 = some mM.cls := hown
  have hl : lv_has ls 3 [(0, .ref aE), (1, .int (nI b)), (2, .int (nI f))] := hl
  have hP : va_P D vwCl [(aE, .inr (0, [.ref aK, .ref aV, .int (nI c)])), (aK, .inl (cy, 512, .inl k)), (aV, .inl (cy, 512, .inl v))] s.heap := hP
  subst hsz
  have ndw := nd
  have hA : ∀ q : Nat, s.heap.size ≤ q → mA [aE, aK, aV] s.heap.size q := fun q h => Or.inr h
  have hAw : ∀ q ∈ ([aE, aK, aV] : List Nat), mA [aE, aK, aV] s.heap.size q := fun q h => Or.inl h
  have hS : va_S (mA [aE, aK, aV] s.heap.size) s.heap s.heap [] := va_S.rf
  have hD : va_D (mA [aE, aK, aV] s.heap.size) [(aE, .inr (0, [.ref aK, .ref aV, .int (nI c)])), (aK, .inl (cy, 512, .inl k)), (aV, .inl (cy, 512, .inl v))] := D_of ndw hAw
  simp only [List.nodup_cons, List.mem_cons, List.not_mem_nil, or_false, not_or, not_false_eq_true, List.nodup_nil, and_true] at nd
  refine lv_aload_n hx hb dX0_dropPlaces_0 rfl (lv_at hl 0 rfl) ?_
  refine lv_iconst (v := 1) hx hb dX0_dropPlaces_1 (by decide) ?_
  refine lv_iconst (v := 0) hx hb dX0_dropPlaces_2 (by decide) ?_
  refine lv_iload_n hx hb dX0_dropPlaces_3 rfl (lv_at hl 1 rfl) ?_
  refine lv_iload_n hx hb dX0_dropPlaces_4 rfl (lv_at hl 2 rfl) ?_
  refine go_M (va_runV (As := [.int 1, .int 0, .int (nI b), .int (nI f)]) (rest := []) ⟨hx, hb, hml, hown, hts⟩ (c_X0_dropLeaving l D cy aE aK aV k v c (by omega) (by simp; omega) _ 1 0 b f (by omega) (by omega)) (cwV 4 hts gX0_dropPlaces_X0_dropLeaving rfl rfl rfl (by decide +kernel) ⟨(Nat.le_of_ble_eq_true rfl), (Nat.le_of_ble_eq_true rfl)⟩) (preV_Z hK (hP.sub [0, 1, 2] rfl) 0 0 rfl rfl) rfl rfl hl.1 rfl (lv_room (by decide)) dX0_dropPlaces_5 ⟨(Nat.le_of_ble_eq_true rfl), (Nat.le_of_ble_eq_true rfl)⟩) hS (fun q h => mA_sub [0, 1, 2] rfl hS.1 h) (fun H1 locs1 hB hzz hk hS => ?_)
  have hP : va_P D vwCl [(aE, .inr (0, [.ref aK, .ref aV, .int (nI ((dlS 1 0 b f c k v).1))])), (aK, .inl (cy, 512, .inl ((dlS 1 0 b f c k v).2.1))), (aV, .inl (cy, 512, .inl ((dlS 1 0 b f c k v).2.2)))] H1 := va_P.sub hB [0, 1, 2] rfl
  have hD : va_D (mA [aE, aK, aV] s.heap.size) [(aE, .inr (0, [.ref aK, .ref aV, .int (nI ((dlS 1 0 b f c k v).1))])), (aK, .inl (cy, 512, .inl ((dlS 1 0 b f c k v).2.1))), (aV, .inl (cy, 512, .inl ((dlS 1 0 b f c k v).2.2)))] := D_of ndw hAw
  clear hB
  generalize H1 = H at hP hS ⊢
  generalize locs1 = locs at hS ⊢
  exact ret_iM hx hb hr hlocks dX0_dropPlaces_8 hS (if_neg (by decide)) hP

set_option maxHeartbeats 4000000 in
set_option maxRecDepth 100000 in
/-- drop(key) -/
theorem c_X0_drop (l : Launch) (D : va_G) (cy : ClassId) (aE aK aV : Nat) (k v : Nat → Int32) (c : Nat) (hc : c ≤ 512) (nd : ([aE, aK, aV] : List Nat).Nodup) (sz : Nat) (x : Int32) : Met l yX0_drop wsX0_drop ({ frames := 3, cells := 0, slots := 0, locals := 71 } : Room) (pcZ D [(cy, .int)] [.ref aE, .int x] [(aE, .inr (0, [.ref aK, .ref aV, .int (nI c)])), (aK, .inl (cy, 512, .inl k)), (aV, .inl (cy, 512, .inl v))] sz) (qM (some (.long (vOf k v c x))) (fun H => va_P D vwCl (eW cy aE aK aV ((drp k v c x).2.1) ((drp k v c x).2.2) ((drp k v c x).1)) H) (mA [aE, aK, aV] sz)) 0 0 (mA [aE, aK, aV] sz) := by
  refine met_Z (cc := cX0_drop) (maxL := 5) (ret := (some .long)) (by decide +kernel) rfl (Nat.le_of_ble_eq_true rfl) ?_
  intro pM eM s mM below meth cM ls hx hb hr hts hown hlocks hml hnm hsz hK hP hl
  have hown : s.vm.findClass RX0 = some mM.cls := hown
  have hl : lv_has ls 5 [(0, .ref aE), (1, .int x)] := hl
  have hin_X0 : ∀ w ∈ wsX00, w ∈ wsX0_drop := by decide +kernel
  have kf_15 := hts (.fieldLink RX0 15 "OrderedDesk$Entries" "values" "[I") (by decide +kernel)
  have kc_22 := hts (.constantLong RX0 22 (1099511627776)) (by decide +kernel)
  have hP : va_P D vwCl [(aE, .inr (0, [.ref aK, .ref aV, .int (nI c)])), (aK, .inl (cy, 512, .inl k)), (aV, .inl (cy, 512, .inl v))] s.heap := hP
  subst hsz
  have ndw := nd
  have hA : ∀ q : Nat, s.heap.size ≤ q → mA [aE, aK, aV] s.heap.size q := fun q h => Or.inr h
  have hAw : ∀ q ∈ ([aE, aK, aV] : List Nat), mA [aE, aK, aV] s.heap.size q := fun q h => Or.inl h
  have hS : va_S (mA [aE, aK, aV] s.heap.size) s.heap s.heap [] := va_S.rf
  have hD : va_D (mA [aE, aK, aV] s.heap.size) [(aE, .inr (0, [.ref aK, .ref aV, .int (nI c)])), (aK, .inl (cy, 512, .inl k)), (aV, .inl (cy, 512, .inl v))] := D_of ndw hAw
  simp only [List.nodup_cons, List.mem_cons, List.not_mem_nil, or_false, not_or, not_false_eq_true, List.nodup_nil, and_true] at nd
  have hpl := plc_le k c x.toInt64
  refine lv_aload_n hx hb dX0_drop_0 rfl (lv_at hl 0 rfl) ?_
  refine lv_iload_n hx hb dX0_drop_1 rfl (lv_at hl 1 rfl) ?_
  refine lv_i2l hx hb dX0_drop_2 rfl ?_
  refine go_R (va_runV (As := [.long x.toInt64]) (rest := []) ⟨hx, hb, hml, hown, hts⟩ (c_X0_placeOf l D cy aE aK aV k v c (by omega) x.toInt64) (cwV 1 hts gX0_drop_X0_placeOf rfl rfl rfl (by decide +kernel) ⟨(Nat.le_of_ble_eq_true rfl), (Nat.le_of_ble_eq_true rfl)⟩) (preV_W hK (hP.sub [0, 1, 2] rfl) 0 0 rfl rfl) rfl rfl hl.1 rfl (lv_room (by decide)) dX0_drop_3 ⟨(Nat.le_of_ble_eq_true rfl), (Nat.le_of_ble_eq_true rfl)⟩) ?_
  refine lv_istore_n (lv' := [(2, .int (nI (plc k c x.toInt64))), (0, .ref aE), (1, .int x)]) hx hb dX0_drop_6 rfl hl (by decide) rfl (fun ls hl => ?_)
  refine lv_aload_n hx hb dX0_drop_7 rfl (lv_at hl 1 rfl) ?_
  refine lv_iload_n hx hb dX0_drop_8 rfl (lv_at hl 0 rfl) ?_
  refine lv_iload_n hx hb dX0_drop_9 rfl (lv_at hl 2 rfl) ?_
  refine go_R (va_runV (As := [.int (nI (plc k c x.toInt64)), .int x]) (rest := []) ⟨hx, hb, hml, hown, hts⟩ (c_X0_isAt l D cy aE aK aV k v c (by omega) (plc k c x.toInt64) (by omega) x) (cwV 2 hts gX0_drop_X0_isAt rfl rfl rfl (by decide +kernel) ⟨(Nat.le_of_ble_eq_true rfl), (Nat.le_of_ble_eq_true rfl)⟩) (preV_W hK (hP.sub [0, 1, 2] rfl) 0 0 rfl rfl) rfl rfl hl.1 rfl (lv_room (by decide)) dX0_drop_10 ⟨(Nat.le_of_ble_eq_true rfl), (Nat.le_of_ble_eq_true rfl)⟩) ?_
  refine b_ne (tgt := 20) hx hb dX0_drop_13 (by decide) (fun h13 => ?_) (fun h13 => ?_)
  · have hlt := atK_lt h13
    have hz : vOf k v c x = (v (plc k c x.toInt64)).toInt64 := if_pos h13
    have e1 : drp k v c x = dlK 1 0 (plc k c x.toInt64) ((plc k c x.toInt64) + 1) c k v := if_pos h13
    refine lv_aload_n hx hb dX0_drop_20 rfl (lv_at hl 1 rfl) ?_
    refine va_get (ci := 0) (v := .ref aV) (C := RX0) (T := TX0) (N := 3) hx hb hts hin_X0 hown hK hP 0 rfl rfl 1 (by decide) kf_15 (fun _ h9 => h9) rfl dX0_drop_21 ?_
    refine lv_iload_n hx hb dX0_drop_24 rfl (lv_at hl 0 rfl) ?_
    refine a_ld hx hb hK hP 2 0 rfl rfl (by have := atK_lt h13; omega) (by decide) dX0_drop_25 ?_
    refine lv_i2l hx hb dX0_drop_26 rfl ?_
    refine lv_lstore_n (lv' := [(3, .long ((v (plc k c x.toInt64)).toInt64)), (2, .int (nI (plc k c x.toInt64))), (0, .ref aE), (1, .int x)]) hx hb dX0_drop_27 rfl hl (by decide) rfl (fun ls hl => ?_)
    refine lv_aload_n hx hb dX0_drop_28 rfl (lv_at hl 2 rfl) ?_
    refine lv_iload_n hx hb dX0_drop_29 rfl (lv_at hl 1 rfl) ?_
    refine lv_iload_n hx hb dX0_drop_30 rfl (lv_at hl 1 rfl) ?_
    refine lv_iconst (v := nI 1) hx hb dX0_drop_31 (by decide) ?_
    refine lv_iadd hx hb dX0_drop_32 ?_
    refine top_i (y := nI ((plc k c x.toInt64) + 1)) (nI_add _ _) ?_
    refine go_M (va_runV (As := [.int (nI (plc k c x.toInt64)), .int (nI ((plc k c x.toInt64) + 1))]) (rest := []) ⟨hx, hb, hml, hown, hts⟩ (c_X0_dropPlaces l D cy aE aK aV k v c (by omega) (by simp; omega) _ (plc k c x.toInt64) ((plc k c x.toInt64) + 1) (by omega) (by omega)) (cwV 2 hts gX0_drop_X0_dropPlaces rfl rfl rfl (by decide +kernel) ⟨(Nat.le_of_ble_eq_true rfl), (Nat.le_of_ble_eq_true rfl)⟩) (preV_Z hK (hP.sub [0, 1, 2] rfl) 0 0 rfl rfl) rfl rfl hl.1 rfl (lv_room (by decide)) dX0_drop_33 ⟨(Nat.le_of_ble_eq_true rfl), (Nat.le_of_ble_eq_true rfl)⟩) hS (fun q h => mA_sub [0, 1, 2] rfl hS.1 h) (fun H1 locs1 hB hzz hk hS => ?_)
    have hP : va_P D vwCl [(aE, .inr (0, [.ref aK, .ref aV, .int (nI ((dlK 1 0 (plc k c x.toInt64) ((plc k c x.toInt64) + 1) c k v).1))])), (aK, .inl (cy, 512, .inl ((dlK 1 0 (plc k c x.toInt64) ((plc k c x.toInt64) + 1) c k v).2.1))), (aV, .inl (cy, 512, .inl ((dlK 1 0 (plc k c x.toInt64) ((plc k c x.toInt64) + 1) c k v).2.2)))] H1 := va_P.sub hB [0, 1, 2] rfl
    have hD : va_D (mA [aE, aK, aV] s.heap.size) [(aE, .inr (0, [.ref aK, .ref aV, .int (nI ((dlK 1 0 (plc k c x.toInt64) ((plc k c x.toInt64) + 1) c k v).1))])), (aK, .inl (cy, 512, .inl ((dlK 1 0 (plc k c x.toInt64) ((plc k c x.toInt64) + 1) c k v).2.1))), (aV, .inl (cy, 512, .inl ((dlK 1 0 (plc k c x.toInt64) ((plc k c x.toInt64) + 1) c k v).2.2)))] := D_of ndw hAw
    clear hB
    generalize H1 = H at hP hS ⊢
    generalize locs1 = locs at hS ⊢
    refine lv_pop hx hb dX0_drop_36 rfl ?_
    refine lv_lload_n hx hb dX0_drop_37 rfl (lv_at hl 0 rfl) ?_
    exact ret_lM hx hb hr hlocks dX0_drop_38 hS (by rw [hz]) (by rw [e1]; exact hP)
  · have h13n : ¬ atK k c (plc k c x.toInt64) x = true := by rw [h13]; decide
    have hz : vOf k v c x = NO := if_neg h13n
    have e1 : drp k v c x = (c, k, v) := if_neg h13n
    refine lv_ldc2 hx hb hown kc_22 dX0_drop_16 ?_
    exact ret_lM hx hb hr hlocks dX0_drop_19 hS (by rw [hz]) (by rw [e1]; exact hP)
end
section
/-! the contracts of Range's methods (written by wip/gen/x1.py) -/
def stR (lo : Int64) (li : Bool) : Int64 := if li = true then lo else lo + 1
def spR (hi : Int64) (hn : Bool) : Int64 := if hn = true then hi + 1 else hi
def hR (lo : Int64) (li : Bool) (hi : Int64) (hn : Bool) (x : Int64) : Bool := decide (stR lo li ≤ x) && decide (x < spR hi hn)
def mR (lo : Int64) (li : Bool) (hi : Int64) (hn : Bool) (x : Int64) (i : Bool) : Bool := if i = true then hR lo li hi hn x else decide (lo ≤ x) && decide (x ≤ hi)
abbrev rgW (a : Nat) (lo : Int64) (li : Bool) (hi : Int64) (hn : Bool) : va_W := [(a, .inr (1, [.long lo, .int (bI li), .long hi, .int (bI hn)]))]
def wE (up : Bool) (x : Int64) (i : Bool) (r : Int64 × Bool × Int64 × Bool) : Int64 × Bool × Int64 × Bool := (if up = true then r.1 else x, if up = true then r.2.1 else i, if up = true then x else r.2.2.1, if up = true then i else r.2.2.2)
def prt (lo : Int64) (li : Bool) (hi : Int64) (hn : Bool) (kind f : Int32) (fi : Bool) (t : Int32) (ti fl : Bool) : Option (Int64 × Bool × Int64 × Bool) :=
  if kind = 0 then some (lo, li, hi, hn)
  else if kind = 1 then (if mR lo li hi hn t.toInt64 ti = true then some (wE (!fl) t.toInt64 ti (lo, li, hi, hn)) else none)
  else if kind = 2 then (if mR lo li hi hn f.toInt64 fi = true then some (wE fl f.toInt64 fi (lo, li, hi, hn)) else none)
  else if kind = 3 then (if mR lo li hi hn f.toInt64 fi = true then (if mR lo li hi hn t.toInt64 ti = true then (if (if fl = true then f < t else t < f) then none else some (wE (!fl) t.toInt64 ti (wE fl f.toInt64 fi (lo, li, hi, hn)))) else none) else none)
  else none
def ptB (D : va_G) (aR sz : Nat) (r : Option (Int64 × Bool × Int64 × Bool)) (u : Option Nat) (H : Heap) : Prop := match r with
  | none => u = none
  | some r => ∃ a, u = some a ∧ (a = aR ∨ sz ≤ a) ∧ va_P D vwCl (rgW a r.1 r.2.1 r.2.2.1 r.2.2.2) H
theorem pt_lt {lo : Int64} {li : Bool} {hi : Int64} {hn : Bool} {kind f : Int32} {fi : Bool} {t : Int32} {ti fl : Bool} (h : kind < 0) : prt lo li hi hn kind f fi t ti fl = none := by
  unfold prt
  rw [if_neg (fun q => by rw [q] at h; exact absurd h (by decide)), if_neg (fun q => by rw [q] at h; exact absurd h (by decide)), if_neg (fun q => by rw [q] at h; exact absurd h (by decide)), if_neg (fun q => by rw [q] at h; exact absurd h (by decide))]
theorem pt_gt {lo : Int64} {li : Bool} {hi : Int64} {hn : Bool} {kind f : Int32} {fi : Bool} {t : Int32} {ti fl : Bool} (h : ¬ kind ≤ 3) : prt lo li hi hn kind f fi t ti fl = none := by
  unfold prt
  rw [if_neg (fun q => by rw [q] at h; exact absurd (by decide) h), if_neg (fun q => by rw [q] at h; exact absurd (by decide) h), if_neg (fun q => by rw [q] at h; exact absurd (by decide) h), if_neg (fun q => by rw [q] at h; exact absurd (by decide) h)]
theorem pt_k {kind : Int32} (h1 : ¬ kind < 0) (h6 : kind ≤ 3) : kind = 0 ∨ kind = 1 ∨ kind = 2 ∨ kind = 3 := by
  obtain ⟨j, hj, rfl⟩ := nI_of2 (n := 3) (by decide) h1 h6
  rcases (show j = 0 ∨ j = 1 ∨ j = 2 ∨ j = 3 by omega) with rfl | rfl | rfl | rfl
  · exact Or.inl rfl
  · exact Or.inr (Or.inl rfl)
  · exact Or.inr (Or.inr (Or.inl rfl))
  · exact Or.inr (Or.inr (Or.inr rfl))
theorem P_keepS {D : va_G} {cl : List vw_C} {ws : va_W} {L : List Nat} {H0 H : Heap} {locs : List Loc} (h : va_P D cl ws H0) (hn : ∀ q ∈ ws.map Prod.fst, ¬ q ∈ L) (hS : va_S (mA L H0.size) H0 H locs) : va_P D cl ws H := P_keepM h hn hS.2.1
theorem D_nil {A : Nat → Prop} : va_D A [] := ⟨fun i j p q h => by simp at h, fun k q h => by simp at h⟩
theorem ret_aX {p : Program} {l : Launch} {e : Env} {R : Room} {s : State} {m : MethodId} {args : Array Value} {below : List Frame} {meth : Method} {c : Code} {H : Heap} {locs : List Loc} {cells slots : Nat} {cc : ByteArray} {pc : Nat} {ls : Array Slot} {A : Nat → Prop} {S : Type} {vf : S → Option Value} {B : S → State → Prop} {v : Value} {rt : FieldType} (hx : p.tables.exec = Jvm.exec) (hb : c.code = cc) (hr : meth.sig.returnType = some rt) (hrt : (∃ n, rt = .object n) ∨ ∃ t, rt = .array t) (hlocks : meth.locks = false) (hdg : decode cc pc = .ok (.areturn, 1)) (hS : va_S A s.heap H locs) (u : S) (hv : vf u = some v) (hvr : v = .null ∨ ∃ a, v = .ref a) (hB : ∀ t : State, t.heap = H → B u t) : W p l e R s m args below meth c H locs cells slots (MQ below (qX vf B A) args s cells slots A) (F0 m pc ls [v]) :=
  W.aret hx hb hr hrt hvr (fun t ht _ => ⟨⟨u, by rw [hv], hB t ht⟩, hS.F ht⟩) hS.2.2 hdg hlocks
set_option maxHeartbeats 4000000 in
set_option maxRecDepth 100000 in
/-- start() -/
theorem c_X1_start (l : Launch) (D : va_G) (cy : ClassId) (aR : Nat) (lo : Int64) (li : Bool) (hi : Int64) (hn : Bool) : Met l yX1_start wsX1_start ({ frames := 0, cells := 0, slots := 0, locals := 0 } : Room) (pcW D [(cy, .int)] [.ref aR] [(aR, .inr (1, [.long lo, .int (bI li), .long hi, .int (bI hn)]))]) (qR (.long (stR lo li))) 0 0 (fun _ => False) := by
  refine met_W (cc := cX1_start) (maxL := 1) (ret := (some .long)) (by decide +kernel) rfl (Nat.le_of_ble_eq_true rfl) ?_
  intro pM eM s mM below meth cM ls hx hb hr hts hown hlocks hml hnm hK hP hl
  have hown : s.vm.findClass RX1 = some mM.cls := hown
  have hl : lv_has ls 1 [(0, .ref aR)] := hl
  have hin_X1 : ∀ w ∈ wsX10, w ∈ wsX1_start := by decide +kernel
  have kf_13 := hts (.fieldLink RX1 13 "OrderedDesk$Range" "lowIn" "Z") (by decide +kernel)
  have kf_7 := hts (.fieldLink RX1 7 "OrderedDesk$Range" "low" "J") (by decide +kernel)
  have hP : va_P D vwCl [(aR, .inr (1, [.long lo, .int (bI li), .long hi, .int (bI hn)]))] s.heap := hP
  refine lv_aload_n hx hb dX1_start_0 rfl (lv_at hl 0 rfl) ?_
  refine va_get (ci := 1) (v := .int (bI li)) (C := RX1) (T := TX1) (N := 4) hx hb hts hin_X1 hown hK hP 0 rfl rfl 1 (by decide) kf_13 (fun _ h9 => h9) rfl dX1_start_1 ?_
  refine b_eq (tgt := 14) hx hb dX1_start_4 (by decide) (fun h4 => ?_) (fun h4 => ?_)
  · have hz : stR lo li = lo + 1 := if_neg (by rw [h4]; decide)
    refine lv_aload_n hx hb dX1_start_14 rfl (lv_at hl 0 rfl) ?_
    refine va_get (ci := 1) (v := .long lo) (C := RX1) (T := TX1) (N := 4) hx hb hts hin_X1 hown hK hP 0 rfl rfl 0 (by decide) kf_7 (fun _ h9 => h9) rfl dX1_start_15 ?_
    refine lv_lconst (v := 1) hx hb dX1_start_18 (by decide) ?_
    refine lv_ladd hx hb dX1_start_19 ?_
    exact ret_l hx hb hr hlocks dX1_start_20 hz.symm
  · have hz : stR lo li = lo := if_pos h4
    refine lv_aload_n hx hb dX1_start_7 rfl (lv_at hl 0 rfl) ?_
    refine va_get (ci := 1) (v := .long lo) (C := RX1) (T := TX1) (N := 4) hx hb hts hin_X1 hown hK hP 0 rfl rfl 0 (by decide) kf_7 (fun _ h9 => h9) rfl dX1_start_8 ?_
    refine lv_goto (tgt := 20) hx hb dX1_start_11 (by decide) ?_
    exact ret_l hx hb hr hlocks dX1_start_20 hz.symm

set_option maxHeartbeats 4000000 in
set_option maxRecDepth 100000 in
/-- stop() -/
theorem c_X1_stop (l : Launch) (D : va_G) (cy : ClassId) (aR : Nat) (lo : Int64) (li : Bool) (hi : Int64) (hn : Bool) : Met l yX1_stop wsX1_stop ({ frames := 0, cells := 0, slots := 0, locals := 0 } : Room) (pcW D [(cy, .int)] [.ref aR] [(aR, .inr (1, [.long lo, .int (bI li), .long hi, .int (bI hn)]))]) (qR (.long (spR hi hn))) 0 0 (fun _ => False) := by
  refine met_W (cc := cX1_stop) (maxL := 1) (ret := (some .long)) (by decide +kernel) rfl (Nat.le_of_ble_eq_true rfl) ?_
  intro pM eM s mM below meth cM ls hx hb hr hts hown hlocks hml hnm hK hP hl
  have hown : s.vm.findClass RX1 = some mM.cls := hown
  have hl : lv_has ls 1 [(0, .ref aR)] := hl
  have hin_X1 : ∀ w ∈ wsX10, w ∈ wsX1_stop := by decide +kernel
  have kf_17 := hts (.fieldLink RX1 17 "OrderedDesk$Range" "high" "J") (by decide +kernel)
  have kf_20 := hts (.fieldLink RX1 20 "OrderedDesk$Range" "highIn" "Z") (by decide +kernel)
  have hP : va_P D vwCl [(aR, .inr (1, [.long lo, .int (bI li), .long hi, .int (bI hn)]))] s.heap := hP
  refine lv_aload_n hx hb dX1_stop_0 rfl (lv_at hl 0 rfl) ?_
  refine va_get (ci := 1) (v := .int (bI hn)) (C := RX1) (T := TX1) (N := 4) hx hb hts hin_X1 hown hK hP 0 rfl rfl 3 (by decide) kf_20 (fun _ h9 => h9) rfl dX1_stop_1 ?_
  refine b_eq (tgt := 16) hx hb dX1_stop_4 (by decide) (fun h4 => ?_) (fun h4 => ?_)
  · have hz : spR hi hn = hi := if_neg (by rw [h4]; decide)
    refine lv_aload_n hx hb dX1_stop_16 rfl (lv_at hl 0 rfl) ?_
    refine va_get (ci := 1) (v := .long hi) (C := RX1) (T := TX1) (N := 4) hx hb hts hin_X1 hown hK hP 0 rfl rfl 2 (by decide) kf_17 (fun _ h9 => h9) rfl dX1_stop_17 ?_
    exact ret_l hx hb hr hlocks dX1_stop_20 hz.symm
  · have hz : spR hi hn = hi + 1 := if_pos h4
    refine lv_aload_n hx hb dX1_stop_7 rfl (lv_at hl 0 rfl) ?_
    refine va_get (ci := 1) (v := .long hi) (C := RX1) (T := TX1) (N := 4) hx hb hts hin_X1 hown hK hP 0 rfl rfl 2 (by decide) kf_17 (fun _ h9 => h9) rfl dX1_stop_8 ?_
    refine lv_lconst (v := 1) hx hb dX1_stop_11 (by decide) ?_
    refine lv_ladd hx hb dX1_stop_12 ?_
    refine lv_goto (tgt := 20) hx hb dX1_stop_13 (by decide) ?_
    exact ret_l hx hb hr hlocks dX1_stop_20 hz.symm

set_option maxHeartbeats 4000000 in
set_option maxRecDepth 100000 in
/-- holds(key) -/
theorem c_X1_holds (l : Launch) (D : va_G) (cy : ClassId) (aR : Nat) (lo : Int64) (li : Bool) (hi : Int64) (hn : Bool) (x : Int64) : Met l yX1_holds wsX1_holds ({ frames := 1, cells := 0, slots := 0, locals := 20 } : Room) (pcW D [(cy, .int)] [.ref aR, .long x] [(aR, .inr (1, [.long lo, .int (bI li), .long hi, .int (bI hn)]))]) (qR (.int (bI (hR lo li hi hn x)))) 0 0 (fun _ => False) := by
  refine met_W (cc := cX1_holds) (maxL := 3) (ret := (some .boolean)) (by decide +kernel) rfl (Nat.le_of_ble_eq_true rfl) ?_
  intro pM eM s mM below meth cM ls hx hb hr hts hown hlocks hml hnm hK hP hl
  have hown : s.vm.findClass RX1 = some mM.cls := hown
  have hl : lv_has ls 3 [(0, .ref aR), (1, .long x)] := hl
  have hP : va_P D vwCl [(aR, .inr (1, [.long lo, .int (bI li), .long hi, .int (bI hn)]))] s.heap := hP
  refine lv_lload_n hx hb dX1_holds_0 rfl (lv_at hl 1 rfl) ?_
  refine lv_aload_n hx hb dX1_holds_1 rfl (lv_at hl 0 rfl) ?_
  refine go_R (va_runV (As := []) (rest := [.long x]) ⟨hx, hb, hml, hown, hts⟩ (c_X1_start l D cy aR lo li hi hn) (cwV 0 hts gX1_holds_X1_start rfl rfl rfl (by decide +kernel) ⟨(Nat.le_of_ble_eq_true rfl), (Nat.le_of_ble_eq_true rfl)⟩) (preV_W hK (hP.sub [0] rfl) 0 1 rfl rfl) rfl rfl hl.1 rfl (lv_room (Nat.le_of_ble_eq_true rfl)) dX1_holds_2 ⟨(Nat.le_of_ble_eq_true rfl), (Nat.le_of_ble_eq_true rfl)⟩) ?_
  refine l_lt (tgt := 22) hx hb dX1_holds_5 dX1_holds_6 (by decide) (fun h5 => ?_) (fun h5 => ?_)
  · have hz : hR lo li hi hn x = false := by unfold hR; rw [decide_eq_false (Int64.not_le.mpr h5)]; rfl
    refine lv_iconst (v := bI false) hx hb dX1_holds_22 (by decide) ?_
    exact ret_z hx hb hr hlocks dX1_holds_23 (by rw [hz])
  · refine lv_lload_n hx hb dX1_holds_9 rfl (lv_at hl 1 rfl) ?_
    refine lv_aload_n hx hb dX1_holds_10 rfl (lv_at hl 0 rfl) ?_
    refine go_R (va_runV (As := []) (rest := [.long x]) ⟨hx, hb, hml, hown, hts⟩ (c_X1_stop l D cy aR lo li hi hn) (cwV 0 hts gX1_holds_X1_stop rfl rfl rfl (by decide +kernel) ⟨(Nat.le_of_ble_eq_true rfl), (Nat.le_of_ble_eq_true rfl)⟩) (preV_W hK (hP.sub [0] rfl) 0 1 rfl rfl) rfl rfl hl.1 rfl (lv_room (Nat.le_of_ble_eq_true rfl)) dX1_holds_11 ⟨(Nat.le_of_ble_eq_true rfl), (Nat.le_of_ble_eq_true rfl)⟩) ?_
    refine l_ge (tgt := 22) hx hb dX1_holds_14 dX1_holds_15 (by decide) (fun h14 => ?_) (fun h14 => ?_)
    · have hz : hR lo li hi hn x = false := by unfold hR; rw [decide_eq_false (Int64.not_lt.mpr h14), Bool.and_false]
      refine lv_iconst (v := bI false) hx hb dX1_holds_22 (by decide) ?_
      exact ret_z hx hb hr hlocks dX1_holds_23 (by rw [hz])
    · have hz : hR lo li hi hn x = true := by unfold hR; rw [decide_eq_true h5, decide_eq_true h14]; rfl
      refine lv_iconst (v := bI true) hx hb dX1_holds_18 (by decide) ?_
      refine lv_goto (tgt := 23) hx hb dX1_holds_19 (by decide) ?_
      exact ret_z hx hb hr hlocks dX1_holds_23 (by rw [hz])

set_option maxHeartbeats 4000000 in
set_option maxRecDepth 100000 in
/-- mayEndAt(key, in) -/
theorem c_X1_mayEndAt (l : Launch) (D : va_G) (cy : ClassId) (aR : Nat) (lo : Int64) (li : Bool) (hi : Int64) (hn : Bool) (x : Int64) (i : Bool) : Met l yX1_mayEndAt wsX1_mayEndAt ({ frames := 2, cells := 0, slots := 0, locals := 42 } : Room) (pcW D [(cy, .int)] [.ref aR, .long x, .int (bI i)] [(aR, .inr (1, [.long lo, .int (bI li), .long hi, .int (bI hn)]))]) (qR (.int (bI (mR lo li hi hn x i)))) 0 0 (fun _ => False) := by
  refine met_W (cc := cX1_mayEndAt) (maxL := 4) (ret := (some .boolean)) (by decide +kernel) rfl (Nat.le_of_ble_eq_true rfl) ?_
  intro pM eM s mM below meth cM ls hx hb hr hts hown hlocks hml hnm hK hP hl
  have hown : s.vm.findClass RX1 = some mM.cls := hown
  have hl : lv_has ls 4 [(0, .ref aR), (1, .long x), (3, .int (bI i))] := hl
  have hin_X1 : ∀ w ∈ wsX10, w ∈ wsX1_mayEndAt := by decide +kernel
  have kf_17 := hts (.fieldLink RX1 17 "OrderedDesk$Range" "high" "J") (by decide +kernel)
  have kf_7 := hts (.fieldLink RX1 7 "OrderedDesk$Range" "low" "J") (by decide +kernel)
  have hP : va_P D vwCl [(aR, .inr (1, [.long lo, .int (bI li), .long hi, .int (bI hn)]))] s.heap := hP
  refine lv_iload_n hx hb dX1_mayEndAt_0 rfl (lv_at hl 2 rfl) ?_
  refine b_eq (tgt := 12) hx hb dX1_mayEndAt_1 (by decide) (fun h1 => ?_) (fun h1 => ?_)
  · have hz0 : mR lo li hi hn x i = (decide (lo ≤ x) && decide (x ≤ hi)) := if_neg (by rw [h1]; decide)
    refine lv_lload_n hx hb dX1_mayEndAt_12 rfl (lv_at hl 1 rfl) ?_
    refine lv_aload_n hx hb dX1_mayEndAt_13 rfl (lv_at hl 0 rfl) ?_
    refine va_get (ci := 1) (v := .long lo) (C := RX1) (T := TX1) (N := 4) hx hb hts hin_X1 hown hK hP 0 rfl rfl 0 (by decide) kf_7 (fun _ h9 => h9) rfl dX1_mayEndAt_14 ?_
    refine l_lt (tgt := 34) hx hb dX1_mayEndAt_17 dX1_mayEndAt_18 (by decide) (fun h17 => ?_) (fun h17 => ?_)
    · have hz : mR lo li hi hn x i = false := by rw [hz0, decide_eq_false (Int64.not_le.mpr h17)]; rfl
      refine lv_iconst (v := bI false) hx hb dX1_mayEndAt_34 (by decide) ?_
      exact ret_z hx hb hr hlocks dX1_mayEndAt_35 (by rw [hz])
    · refine lv_lload_n hx hb dX1_mayEndAt_21 rfl (lv_at hl 1 rfl) ?_
      refine lv_aload_n hx hb dX1_mayEndAt_22 rfl (lv_at hl 0 rfl) ?_
      refine va_get (ci := 1) (v := .long hi) (C := RX1) (T := TX1) (N := 4) hx hb hts hin_X1 hown hK hP 0 rfl rfl 2 (by decide) kf_17 (fun _ h9 => h9) rfl dX1_mayEndAt_23 ?_
      refine l_gt (tgt := 34) hx hb dX1_mayEndAt_26 dX1_mayEndAt_27 (by decide) (fun h26 => ?_) (fun h26 => ?_)
      · have hz : mR lo li hi hn x i = false := by rw [hz0, decide_eq_false (Int64.not_le.mpr h26), Bool.and_false]
        refine lv_iconst (v := bI false) hx hb dX1_mayEndAt_34 (by decide) ?_
        exact ret_z hx hb hr hlocks dX1_mayEndAt_35 (by rw [hz])
      · have hz : mR lo li hi hn x i = true := by rw [hz0, decide_eq_true h17, decide_eq_true h26]; rfl
        refine lv_iconst (v := bI true) hx hb dX1_mayEndAt_30 (by decide) ?_
        refine lv_goto (tgt := 35) hx hb dX1_mayEndAt_31 (by decide) ?_
        exact ret_z hx hb hr hlocks dX1_mayEndAt_35 (by rw [hz])
  · have hz : mR lo li hi hn x i = hR lo li hi hn x := if_pos h1
    refine lv_aload_n hx hb dX1_mayEndAt_4 rfl (lv_at hl 0 rfl) ?_
    refine lv_lload_n hx hb dX1_mayEndAt_5 rfl (lv_at hl 1 rfl) ?_
    refine go_R (va_runV (As := [.long x]) (rest := []) ⟨hx, hb, hml, hown, hts⟩ (c_X1_holds l D cy aR lo li hi hn x) (cwV 1 hts gX1_mayEndAt_X1_holds rfl rfl rfl (by decide +kernel) ⟨(Nat.le_of_ble_eq_true rfl), (Nat.le_of_ble_eq_true rfl)⟩) (preV_W hK (hP.sub [0] rfl) 0 1 rfl rfl) rfl rfl hl.1 rfl (lv_room (Nat.le_of_ble_eq_true rfl)) dX1_mayEndAt_6 ⟨(Nat.le_of_ble_eq_true rfl), (Nat.le_of_ble_eq_true rfl)⟩) ?_
    refine lv_goto (tgt := 35) hx hb dX1_mayEndAt_9 (by decide) ?_
    exact ret_z hx hb hr hlocks dX1_mayEndAt_35 (by rw [hz])

set_option maxHeartbeats 4000000 in
set_option maxRecDepth 100000 in
/-- Range(low, lowIn, high, highIn) -/
theorem c_X1_init (l : Launch) (D : va_G) (cy : ClassId) (aR : Nat) (lo : Int64) (li : Bool) (hi : Int64) (hn : Bool) (sz : Nat) : Met l yX1_init wsX1_init ({ frames := 1, cells := 0, slots := 0, locals := 12 } : Room) (pcZ D [(cy, .int)] [.ref aR, .long lo, .int (bI li), .long hi, .int (bI hn)] [(aR, .inr (1, [.long 0, .int 0, .long 0, .int 0]))] sz) (qM none (fun H => va_P D vwCl (rgW aR lo li hi hn) H) (mA [aR] sz)) 0 0 (mA [aR] sz) := by
  refine met_Z (cc := cX1_init) (maxL := 7) (ret := none) (by decide +kernel) rfl (Nat.le_of_ble_eq_true rfl) ?_
  intro pM eM s mM below meth cM ls hx hb hr hts hown hlocks hml hnm hsz hK hP hl
  have hown : s.vm.findClass RX1 = some mM.cls := hown
  have hl : lv_has ls 7 [(0, .ref aR), (1, .long lo), (3, .int (bI li)), (4, .long hi), (6, .int (bI hn))] := hl
  have hin_X1 : ∀ w ∈ wsX10, w ∈ wsX1_init := by decide +kernel
  have kf_13 := hts (.fieldLink RX1 13 "OrderedDesk$Range" "lowIn" "Z") (by decide +kernel)
  have kf_17 := hts (.fieldLink RX1 17 "OrderedDesk$Range" "high" "J") (by decide +kernel)
  have kf_20 := hts (.fieldLink RX1 20 "OrderedDesk$Range" "highIn" "Z") (by decide +kernel)
  have kf_7 := hts (.fieldLink RX1 7 "OrderedDesk$Range" "low" "J") (by decide +kernel)
  have hP : va_P D vwCl [(aR, .inr (1, [.long 0, .int 0, .long 0, .int 0]))] s.heap := hP
  subst hsz
  have ndw := (List.nodup_cons.mpr ⟨List.not_mem_nil, List.nodup_nil⟩ : ([aR] : List Nat).Nodup)
  have hA : ∀ q : Nat, s.heap.size ≤ q → mA [aR] s.heap.size q := fun q h => Or.inr h
  have hAw : ∀ q ∈ ([aR] : List Nat), mA [aR] s.heap.size q := fun q h => Or.inl h
  have hS : va_S (mA [aR] s.heap.size) s.heap s.heap [] := va_S.rf
  have hD : va_D (mA [aR] s.heap.size) [(aR, .inr (1, [.long 0, .int 0, .long 0, .int 0]))] := D_of ndw hAw
  refine lv_aload_n hx hb dX1_init_0 rfl (lv_at hl 0 rfl) ?_
  refine W.objInit hx hb hown (hts (.methodLink RX1 1 objectInit) (by decide +kernel)) (hts (.instanceMethod objectInit) (by decide +kernel)) (hts (.code objectInit ⟨#[0xb1]⟩ 1 none) (by decide +kernel)) rfl (by rw [hml]; exact hl.1) rfl dX1_init_1 (Nat.le_of_ble_eq_true rfl) (Nat.le_of_ble_eq_true rfl) ?_
  refine W.eq (g2 := F0 mM 4 ls []) rfl ?_
  refine lv_aload_n hx hb dX1_init_4 rfl (lv_at hl 0 rfl) ?_
  refine lv_lload_n hx hb dX1_init_5 rfl (lv_at hl 1 rfl) ?_
  refine va_putF (ci := 1) (v := .long lo) (ty := .long) (C := RX1) (T := TX1) (N := 4) hx hb hts hin_X1 tyX1 tyX1_ok nmX1 hown hK hP hD hS 0 rfl rfl 0 (by decide) kf_7 (fun _ h9 => h9) rfl hnm rfl (by decide +kernel) rfl rfl (Nat.le_of_ble_eq_true rfl) dX1_init_6 (fun H locs hP hD hS => ?_)
  have hP : va_P D vwCl [(aR, .inr (1, [.long lo, .int 0, .long 0, .int 0]))] H := hP
  have hD : va_D _ [(aR, .inr (1, [.long lo, .int 0, .long 0, .int 0]))] := hD
  refine lv_aload_n hx hb dX1_init_9 rfl (lv_at hl 0 rfl) ?_
  refine lv_iload_n hx hb dX1_init_10 rfl (lv_at hl 2 rfl) ?_
  refine va_putF (ci := 1) (v := .int (bI li)) (ty := .boolean) (C := RX1) (T := TX1) (N := 4) hx hb hts hin_X1 tyX1 tyX1_ok nmX1 hown hK hP hD hS 0 rfl rfl 1 (by decide) kf_13 (fun _ h9 => h9) rfl hnm rfl (by decide +kernel) (bI_nar _) (bI_fit _) (Nat.le_of_ble_eq_true rfl) dX1_init_11 (fun H locs hP hD hS => ?_)
  have hP : va_P D vwCl [(aR, .inr (1, [.long lo, .int (bI li), .long 0, .int 0]))] H := hP
  have hD : va_D _ [(aR, .inr (1, [.long lo, .int (bI li), .long 0, .int 0]))] := hD
  refine lv_aload_n hx hb dX1_init_14 rfl (lv_at hl 0 rfl) ?_
  refine lv_lload hx hb dX1_init_15 (lv_at hl 3 rfl) ?_
  refine va_putF (ci := 1) (v := .long hi) (ty := .long) (C := RX1) (T := TX1) (N := 4) hx hb hts hin_X1 tyX1 tyX1_ok nmX1 hown hK hP hD hS 0 rfl rfl 2 (by decide) kf_17 (fun _ h9 => h9) rfl hnm rfl (by decide +kernel) rfl rfl (Nat.le_of_ble_eq_true rfl) dX1_init_17 (fun H locs hP hD hS => ?_)
  have hP : va_P D vwCl [(aR, .inr (1, [.long lo, .int (bI li), .long hi, .int 0]))] H := hP
  have hD : va_D _ [(aR, .inr (1, [.long lo, .int (bI li), .long hi, .int 0]))] := hD
  refine lv_aload_n hx hb dX1_init_20 rfl (lv_at hl 0 rfl) ?_
  refine lv_iload hx hb dX1_init_21 (lv_at hl 4 rfl) ?_
  refine va_putF (ci := 1) (v := .int (bI hn)) (ty := .boolean) (C := RX1) (T := TX1) (N := 4) hx hb hts hin_X1 tyX1 tyX1_ok nmX1 hown hK hP hD hS 0 rfl rfl 3 (by decide) kf_20 (fun _ h9 => h9) rfl hnm rfl (by decide +kernel) (bI_nar _) (bI_fit _) (Nat.le_of_ble_eq_true rfl) dX1_init_23 (fun H locs hP hD hS => ?_)
  have hP : va_P D vwCl [(aR, .inr (1, [.long lo, .int (bI li), .long hi, .int (bI hn)]))] H := hP
  have hD : va_D _ [(aR, .inr (1, [.long lo, .int (bI li), .long hi, .int (bI hn)]))] := hD
  exact ret_vM hx hb hr hlocks dX1_init_26 hS hP

set_option maxHeartbeats 4000000 in
set_option maxRecDepth 100000 in
/-- withEnd(upper, key, in) -/
theorem c_X1_withEnd (l : Launch) (D : va_G) (cy : ClassId) (aR : Nat) (lo : Int64) (li : Bool) (hi : Int64) (hn : Bool) (sz : Nat) (up : Bool) (x : Int64) (i : Bool) : Met l yX1_withEnd wsX1_withEnd ({ frames := 2, cells := 1, slots := 4, locals := 38 } : Room) (pcZ D [(cy, .int)] [.ref aR, .int (bI up), .long x, .int (bI i)] [(aR, .inr (1, [.long lo, .int (bI li), .long hi, .int (bI hn)]))] sz) (qX (fun a : Nat => some (.ref a)) (fun a t => sz ≤ a ∧ va_P D vwCl (rgW a (if up = true then lo else x) (if up = true then li else i) (if up = true then x else hi) (if up = true then i else hn)) t.heap) (mA [] sz)) 1 4 (mA [] sz) := by
  refine met_Z (cc := cX1_withEnd) (maxL := 5) (ret := (some (.object "OrderedDesk$Range"))) (by decide +kernel) rfl (Nat.le_of_ble_eq_true rfl) ?_
  intro pM eM s mM below meth cM ls hx hb hr hts hown hlocks hml hnm hsz hK hP hl
  have hown : s.vm.findClass RX1 = some mM.cls := hown
  have hl : lv_has ls 5 [(0, .ref aR), (1, .int (bI up)), (2, .long x), (4, .int (bI i))] := hl
  have hin_X1 : ∀ w ∈ wsX10, w ∈ wsX1_withEnd := by decide +kernel
  have kf_13 := hts (.fieldLink RX1 13 "OrderedDesk$Range" "lowIn" "Z") (by decide +kernel)
  have kf_17 := hts (.fieldLink RX1 17 "OrderedDesk$Range" "high" "J") (by decide +kernel)
  have kf_20 := hts (.fieldLink RX1 20 "OrderedDesk$Range" "highIn" "Z") (by decide +kernel)
  have kf_7 := hts (.fieldLink RX1 7 "OrderedDesk$Range" "low" "J") (by decide +kernel)
  have hP : va_P D vwCl [(aR, .inr (1, [.long lo, .int (bI li), .long hi, .int (bI hn)]))] s.heap := hP
  subst hsz
  have hP0 := hP
  have hA : ∀ q : Nat, s.heap.size ≤ q → mA [] s.heap.size q := fun q h => Or.inr h
  have hS : va_S (mA [] s.heap.size) s.heap s.heap [] := va_S.rf
  refine lv_iload_n hx hb dX1_withEnd_0 rfl (lv_at hl 1 rfl) ?_
  refine b_eq (tgt := 25) hx hb dX1_withEnd_1 (by decide) (fun h1 => ?_) (fun h1 => ?_)
  · obtain rfl : false = up := h1.symm
    refine va_new (ci := 1) (fs := [.long 0, .int 0, .long 0, .int 0]) (C := RX1) (T := TX1) (N := 4) hx hb hts hin_X1 tyX1 tyX1_ok hown (hts (.classLink RX1 8 RX1) (by decide +kernel)) (hts (.instantiable RX1 4) (by decide +kernel)) (hts (.initialized RX1) (by decide +kernel)) hK (hP.sub (ws' := []) [] rfl) D_nil hS hA rfl (fun j hj => by rcases (show j = 0 ∨ j = 1 ∨ j = 2 ∨ j = 3 by omega) with rfl | rfl | rfl | rfl <;> rfl) (Nat.le_of_ble_eq_true rfl) (Nat.le_of_ble_eq_true rfl) dX1_withEnd_25 (fun qN H hPn hDn hS => ?_)
    have hqN : s.heap.size ≤ qN := (hDn.2 0 _ rfl).elim (fun h => absurd h List.not_mem_nil) id
    have hP : va_P D vwCl [(aR, .inr (1, [.long lo, .int (bI li), .long hi, .int (bI hn)])), (qN, .inr (1, [.long 0, .int 0, .long 0, .int 0]))] H := (P_keepS hP0 (fun q _ => List.not_mem_nil) hS).app hPn
    refine W.widen (k := 1) (n := 4) (by decide) (by decide) ?_
    refine lv_dup hx hb dX1_withEnd_28 rfl ?_
    refine lv_lload_n hx hb dX1_withEnd_29 rfl (lv_at hl 2 rfl) ?_
    refine lv_iload hx hb dX1_withEnd_30 (lv_at hl 3 rfl) ?_
    refine lv_aload_n hx hb dX1_withEnd_32 rfl (lv_at hl 0 rfl) ?_
    refine va_get (ci := 1) (v := .long hi) (C := RX1) (T := TX1) (N := 4) hx hb hts hin_X1 hown hK hP 0 rfl rfl 2 (by decide) kf_17 (fun _ h9 => h9) rfl dX1_withEnd_33 ?_
    refine lv_aload_n hx hb dX1_withEnd_36 rfl (lv_at hl 0 rfl) ?_
    refine va_get (ci := 1) (v := .int (bI hn)) (C := RX1) (T := TX1) (N := 4) hx hb hts hin_X1 hown hK hP 0 rfl rfl 3 (by decide) kf_20 (fun _ h9 => h9) rfl dX1_withEnd_37 ?_
    refine go_V (va_runI (As := [.long x, .int (bI i), .long hi, .int (bI hn)]) (rest := [.ref qN]) ⟨hx, hb, hml, hown, hts⟩ (c_X1_init l D cy qN x i hi hn H.size) (cwI 4 hts gX1_withEnd_X1_init rfl rfl rfl (hts (.initialized RX1) (by decide +kernel)) (hts (.methodLink RX1 42 yX1_init) (by decide +kernel)) (hts (.instanceMethod yX1_init) (by decide +kernel)) rfl (by decide +kernel) ⟨Nat.le_of_ble_eq_true rfl, Nat.le_of_ble_eq_true rfl⟩) (preS_Z hK (hP.sub [1] rfl)) rfl rfl hl.1 rfl (lv_room (Nat.le_of_ble_eq_true rfl)) dX1_withEnd_40 ⟨Nat.le_of_ble_eq_true rfl, Nat.le_of_ble_eq_true rfl⟩) hS (fun q h => h.elim (fun z => Or.inr (by rw [List.mem_singleton.mp z]; exact hqN)) (fun z => Or.inr (Nat.le_trans hS.1 z))) (fun H1 locs1 hB hzz hk hS => ?_)
    exact ret_aX hx hb hr (Or.inl ⟨_, rfl⟩) hlocks dX1_withEnd_43 hS qN rfl (Or.inr ⟨_, rfl⟩) (fun t ht => ⟨hqN, by rw [ht]; exact hB⟩)
  · obtain rfl : true = up := h1.symm
    refine va_new (ci := 1) (fs := [.long 0, .int 0, .long 0, .int 0]) (C := RX1) (T := TX1) (N := 4) hx hb hts hin_X1 tyX1 tyX1_ok hown (hts (.classLink RX1 8 RX1) (by decide +kernel)) (hts (.instantiable RX1 4) (by decide +kernel)) (hts (.initialized RX1) (by decide +kernel)) hK (hP.sub (ws' := []) [] rfl) D_nil hS hA rfl (fun j hj => by rcases (show j = 0 ∨ j = 1 ∨ j = 2 ∨ j = 3 by omega) with rfl | rfl | rfl | rfl <;> rfl) (Nat.le_of_ble_eq_true rfl) (Nat.le_of_ble_eq_true rfl) dX1_withEnd_4 (fun qN H hPn hDn hS => ?_)
    have hqN : s.heap.size ≤ qN := (hDn.2 0 _ rfl).elim (fun h => absurd h List.not_mem_nil) id
    have hP : va_P D vwCl [(aR, .inr (1, [.long lo, .int (bI li), .long hi, .int (bI hn)])), (qN, .inr (1, [.long 0, .int 0, .long 0, .int 0]))] H := (P_keepS hP0 (fun q _ => List.not_mem_nil) hS).app hPn
    refine W.widen (k := 1) (n := 4) (by decide) (by decide) ?_
    refine lv_dup hx hb dX1_withEnd_7 rfl ?_
    refine lv_aload_n hx hb dX1_withEnd_8 rfl (lv_at hl 0 rfl) ?_
    refine va_get (ci := 1) (v := .long lo) (C := RX1) (T := TX1) (N := 4) hx hb hts hin_X1 hown hK hP 0 rfl rfl 0 (by decide) kf_7 (fun _ h9 => h9) rfl dX1_withEnd_9 ?_
    refine lv_aload_n hx hb dX1_withEnd_12 rfl (lv_at hl 0 rfl) ?_
    refine va_get (ci := 1) (v := .int (bI li)) (C := RX1) (T := TX1) (N := 4) hx hb hts hin_X1 hown hK hP 0 rfl rfl 1 (by decide) kf_13 (fun _ h9 => h9) rfl dX1_withEnd_13 ?_
    refine lv_lload_n hx hb dX1_withEnd_16 rfl (lv_at hl 2 rfl) ?_
    refine lv_iload hx hb dX1_withEnd_17 (lv_at hl 3 rfl) ?_
    refine go_V (va_runI (As := [.long lo, .int (bI li), .long x, .int (bI i)]) (rest := [.ref qN]) ⟨hx, hb, hml, hown, hts⟩ (c_X1_init l D cy qN lo li x i H.size) (cwI 4 hts gX1_withEnd_X1_init rfl rfl rfl (hts (.initialized RX1) (by decide +kernel)) (hts (.methodLink RX1 42 yX1_init) (by decide +kernel)) (hts (.instanceMethod yX1_init) (by decide +kernel)) rfl (by decide +kernel) ⟨Nat.le_of_ble_eq_true rfl, Nat.le_of_ble_eq_true rfl⟩) (preS_Z hK (hP.sub [1] rfl)) rfl rfl hl.1 rfl (lv_room (Nat.le_of_ble_eq_true rfl)) dX1_withEnd_19 ⟨Nat.le_of_ble_eq_true rfl, Nat.le_of_ble_eq_true rfl⟩) hS (fun q h => h.elim (fun z => Or.inr (by rw [List.mem_singleton.mp z]; exact hqN)) (fun z => Or.inr (Nat.le_trans hS.1 z))) (fun H1 locs1 hB hzz hk hS => ?_)
    refine lv_goto (tgt := 43) hx hb dX1_withEnd_22 (by decide) ?_
    exact ret_aX hx hb hr (Or.inl ⟨_, rfl⟩) hlocks dX1_withEnd_43 hS qN rfl (Or.inr ⟨_, rfl⟩) (fun t ht => ⟨hqN, by rw [ht]; exact hB⟩)

set_option maxHeartbeats 4000000 in
set_option maxRecDepth 100000 in
/-- part(kind, from, fromIn, to, toIn, falling) -/
theorem c_X1_part (l : Launch) (D : va_G) (cy : ClassId) (aR : Nat) (lo : Int64) (li : Bool) (hi : Int64) (hn : Bool) (sz : Nat) (kind f : Int32) (fi : Bool) (t : Int32) (ti fl : Bool) : Met l yX1_part wsX1_part ({ frames := 3, cells := 2, slots := 8, locals := 65 } : Room) (pcZ D [(cy, .int)] [.ref aR, .int kind, .int f, .int (bI fi), .int t, .int (bI ti), .int (bI fl)] [(aR, .inr (1, [.long lo, .int (bI li), .long hi, .int (bI hn)]))] sz) (qX (fun u : Option Nat => some (va_rf u)) (fun u t2 => ptB D aR sz (prt lo li hi hn kind f fi t ti fl) u t2.heap) (mA [] sz)) 2 8 (mA [] sz) := by
  refine met_Z (cc := cX1_part) (maxL := 10) (ret := (some (.object "OrderedDesk$Range"))) (by decide +kernel) rfl (Nat.le_of_ble_eq_true rfl) ?_
  intro pM eM s mM below meth cM ls hx hb hr hts hown hlocks hml hnm hsz hK hP hl
  have hown : s.vm.findClass RX1 = some mM.cls := hown
  have hl : lv_has ls 10 [(0, .ref aR), (1, .int kind), (2, .int f), (3, .int (bI fi)), (4, .int t), (5, .int (bI ti)), (6, .int (bI fl))] := hl
  have hP : va_P D vwCl [(aR, .inr (1, [.long lo, .int (bI li), .long hi, .int (bI hn)]))] s.heap := hP
  subst hsz
  have hP0 := hP
  have hS1 : s.heap.size ≤ s.heap.size := Nat.le_refl _
  have hA : ∀ q : Nat, s.heap.size ≤ q → mA [] s.heap.size q := fun q h => Or.inr h
  have hS : va_S (mA [] s.heap.size) s.heap s.heap [] := va_S.rf
  refine lv_iload_n hx hb dX1_part_0 rfl (lv_at hl 1 rfl) ?_
  refine lv_if_lt (tgt := 9) hx hb dX1_part_1 (by decide) (fun h1 => ?_) (fun h1 => ?_)
  · have hz : prt lo li hi hn kind f fi t ti fl = none := pt_lt h1
    refine lv_null hx hb dX1_part_9 ?_
    refine W.widen (k := 2) (n := 8) (by decide) (by decide) ?_
    exact ret_aX hx hb hr (Or.inl ⟨_, rfl⟩) hlocks dX1_part_10 hS none rfl (Or.inl rfl) (fun t ht => by rw [hz]; rfl)
  · refine lv_iload_n hx hb dX1_part_4 rfl (lv_at hl 1 rfl) ?_
    refine lv_iconst (v := 3) hx hb dX1_part_5 (by decide) ?_
    refine lv_icmp_le (tgt := 11) hx hb dX1_part_6 (by decide) (fun h6 => ?_) (fun h6 => ?_)
    · rcases pt_k h1 h6 with rfl | rfl | rfl | rfl
      · have hk0 : True := trivial
        refine lv_iload_n hx hb dX1_part_11 rfl (lv_at hl 1 rfl) ?_
        refine lv_iconst (v := 2) hx hb dX1_part_12 (by decide) ?_
        refine lv_icmp_eq (tgt := 21) hx hb dX1_part_13 (by decide) (fun c_3 => ?_) (fun c_3 => ?_)
        · exact absurd c_3 (by decide)
        · refine lv_iload_n hx hb dX1_part_16 rfl (lv_at hl 1 rfl) ?_
          refine lv_iconst (v := 3) hx hb dX1_part_17 (by decide) ?_
          refine lv_icmp_ne (tgt := 25) hx hb dX1_part_18 (by decide) (fun c_4 => ?_) (fun c_4 => ?_)
          · refine lv_iconst (v := bI false) hx hb dX1_part_25 (by decide) ?_
            refine lv_istore (lv' := [(7, .int (bI false)), (0, .ref aR), (1, .int 0), (2, .int f), (3, .int (bI fi)), (4, .int t), (5, .int (bI ti)), (6, .int (bI fl))]) hx hb dX1_part_26 hl (by decide) rfl (fun ls hl => ?_)
            refine lv_iload_n hx hb dX1_part_28 rfl (lv_at hl 2 rfl) ?_
            refine lv_iconst (v := 1) hx hb dX1_part_29 (by decide) ?_
            refine lv_icmp_eq (tgt := 38) hx hb dX1_part_30 (by decide) (fun c_5 => ?_) (fun c_5 => ?_)
            · exact absurd c_5 (by decide)
            · refine lv_iload_n hx hb dX1_part_33 rfl (lv_at hl 2 rfl) ?_
              refine lv_iconst (v := 3) hx hb dX1_part_34 (by decide) ?_
              refine lv_icmp_ne (tgt := 42) hx hb dX1_part_35 (by decide) (fun c_6 => ?_) (fun c_6 => ?_)
              · refine lv_iconst (v := bI false) hx hb dX1_part_42 (by decide) ?_
                refine lv_istore (lv' := [(8, .int (bI false)), (7, .int (bI false)), (0, .ref aR), (1, .int 0), (2, .int f), (3, .int (bI fi)), (4, .int t), (5, .int (bI ti)), (6, .int (bI fl))]) hx hb dX1_part_43 hl (by decide) rfl (fun ls hl => ?_)
                refine lv_iload hx hb dX1_part_45 (lv_at hl 1 rfl) ?_
                refine b_eq (tgt := 60) hx hb dX1_part_47 (by decide) (fun c_7 => ?_) (fun c_7 => ?_)
                · refine lv_iload hx hb dX1_part_60 (lv_at hl 0 rfl) ?_
                  refine b_eq (tgt := 79) hx hb dX1_part_62 (by decide) (fun c_8 => ?_) (fun c_8 => ?_)
                  · refine lv_iload hx hb dX1_part_79 (lv_at hl 1 rfl) ?_
                    refine b_eq (tgt := 111) hx hb dX1_part_81 (by decide) (fun c_9 => ?_) (fun c_9 => ?_)
                    · refine lv_iload hx hb dX1_part_111 (lv_at hl 1 rfl) ?_
                      refine b_eq (tgt := 128) hx hb dX1_part_113 (by decide) (fun c_10 => ?_) (fun c_10 => ?_)
                      · refine lv_aload_n hx hb dX1_part_128 rfl (lv_at hl 2 rfl) ?_
                        refine lv_astore (lv' := [(9, .ref aR), (8, .int (bI false)), (7, .int (bI false)), (0, .ref aR), (1, .int 0), (2, .int f), (3, .int (bI fi)), (4, .int t), (5, .int (bI ti)), (6, .int (bI fl))]) hx hb dX1_part_129 hl (by decide) rfl (fun ls hl => ?_)
                        refine lv_iload hx hb dX1_part_131 (lv_at hl 1 rfl) ?_
                        refine b_eq (tgt := 159) hx hb dX1_part_133 (by decide) (fun c_11 => ?_) (fun c_11 => ?_)
                        · refine lv_aload hx hb dX1_part_159 (lv_at hl 0 rfl) ?_
                          have hz : prt lo li hi hn 0 f fi t ti fl = some (lo, li, hi, hn) := rfl
                          refine W.widen (k := 2) (n := 8) (by decide) (by decide) ?_
                          exact ret_aX hx hb hr (Or.inl ⟨_, rfl⟩) hlocks dX1_part_161 hS (some aR) rfl (Or.inr ⟨_, rfl⟩) (fun t ht => by rw [hz]; exact ⟨aR, rfl, Or.inl rfl, by rw [ht]; exact hP.sub [0] rfl⟩)
                        · exact absurd c_11 (by decide)
                      · exact absurd c_10 (by decide)
                    · exact absurd c_9 (by decide)
                  · exact absurd c_8 (by decide)
                · exact absurd c_7 (by decide)
              · exact absurd c_6 (by decide)
          · exact absurd c_4 (by decide)
      · have hk0 : True := trivial
        refine lv_iload_n hx hb dX1_part_11 rfl (lv_at hl 1 rfl) ?_
        refine lv_iconst (v := 2) hx hb dX1_part_12 (by decide) ?_
        refine lv_icmp_eq (tgt := 21) hx hb dX1_part_13 (by decide) (fun c_12 => ?_) (fun c_12 => ?_)
        · exact absurd c_12 (by decide)
        · refine lv_iload_n hx hb dX1_part_16 rfl (lv_at hl 1 rfl) ?_
          refine lv_iconst (v := 3) hx hb dX1_part_17 (by decide) ?_
          refine lv_icmp_ne (tgt := 25) hx hb dX1_part_18 (by decide) (fun c_13 => ?_) (fun c_13 => ?_)
          · refine lv_iconst (v := bI false) hx hb dX1_part_25 (by decide) ?_
            refine lv_istore (lv' := [(7, .int (bI false)), (0, .ref aR), (1, .int 1), (2, .int f), (3, .int (bI fi)), (4, .int t), (5, .int (bI ti)), (6, .int (bI fl))]) hx hb dX1_part_26 hl (by decide) rfl (fun ls hl => ?_)
            refine lv_iload_n hx hb dX1_part_28 rfl (lv_at hl 2 rfl) ?_
            refine lv_iconst (v := 1) hx hb dX1_part_29 (by decide) ?_
            refine lv_icmp_eq (tgt := 38) hx hb dX1_part_30 (by decide) (fun c_14 => ?_) (fun c_14 => ?_)
            · refine lv_iconst (v := bI true) hx hb dX1_part_38 (by decide) ?_
              refine lv_goto (tgt := 43) hx hb dX1_part_39 (by decide) ?_
              refine lv_istore (lv' := [(8, .int (bI true)), (7, .int (bI false)), (0, .ref aR), (1, .int 1), (2, .int f), (3, .int (bI fi)), (4, .int t), (5, .int (bI ti)), (6, .int (bI fl))]) hx hb dX1_part_43 hl (by decide) rfl (fun ls hl => ?_)
              refine lv_iload hx hb dX1_part_45 (lv_at hl 1 rfl) ?_
              refine b_eq (tgt := 60) hx hb dX1_part_47 (by decide) (fun c_15 => ?_) (fun c_15 => ?_)
              · refine lv_iload hx hb dX1_part_60 (lv_at hl 0 rfl) ?_
                refine b_eq (tgt := 79) hx hb dX1_part_62 (by decide) (fun c_16 => ?_) (fun c_16 => ?_)
                · exact absurd c_16 (by decide)
                · refine lv_aload_n hx hb dX1_part_65 rfl (lv_at hl 2 rfl) ?_
                  refine lv_iload hx hb dX1_part_66 (lv_at hl 6 rfl) ?_
                  refine lv_i2l hx hb dX1_part_68 rfl ?_
                  refine lv_iload hx hb dX1_part_69 (lv_at hl 7 rfl) ?_
                  refine go_R (va_runV (As := [.long t.toInt64, .int (bI ti)]) (rest := []) ⟨hx, hb, hml, hown, hts⟩ (c_X1_mayEndAt l D cy aR lo li hi hn t.toInt64 ti) (cwV 2 hts gX1_part_X1_mayEndAt rfl rfl rfl (by decide +kernel) ⟨(Nat.le_of_ble_eq_true rfl), (Nat.le_of_ble_eq_true rfl)⟩) (preV_W hK (hP.sub [0] rfl) 0 1 rfl rfl) rfl rfl hl.1 rfl (lv_room (Nat.le_of_ble_eq_true rfl)) dX1_part_71 ⟨(Nat.le_of_ble_eq_true rfl), (Nat.le_of_ble_eq_true rfl)⟩) ?_
                  refine b_ne (tgt := 79) hx hb dX1_part_74 (by decide) (fun ht1 => ?_) (fun ht1 => ?_)
                  · refine lv_iload hx hb dX1_part_79 (lv_at hl 1 rfl) ?_
                    refine b_eq (tgt := 111) hx hb dX1_part_81 (by decide) (fun c_18 => ?_) (fun c_18 => ?_)
                    · refine lv_iload hx hb dX1_part_111 (lv_at hl 1 rfl) ?_
                      refine b_eq (tgt := 128) hx hb dX1_part_113 (by decide) (fun c_19 => ?_) (fun c_19 => ?_)
                      · refine lv_aload_n hx hb dX1_part_128 rfl (lv_at hl 2 rfl) ?_
                        refine lv_astore (lv' := [(9, .ref aR), (8, .int (bI true)), (7, .int (bI false)), (0, .ref aR), (1, .int 1), (2, .int f), (3, .int (bI fi)), (4, .int t), (5, .int (bI ti)), (6, .int (bI fl))]) hx hb dX1_part_129 hl (by decide) rfl (fun ls hl => ?_)
                        refine lv_iload hx hb dX1_part_131 (lv_at hl 1 rfl) ?_
                        refine b_eq (tgt := 159) hx hb dX1_part_133 (by decide) (fun c_20 => ?_) (fun c_20 => ?_)
                        · exact absurd c_20 (by decide)
                        · refine lv_aload hx hb dX1_part_136 (lv_at hl 0 rfl) ?_
                          refine lv_iload hx hb dX1_part_138 (lv_at hl 9 rfl) ?_
                          refine b_ne (tgt := 147) hx hb dX1_part_140 (by decide) (fun hfl2 => ?_) (fun hfl2 => ?_)
                          · refine lv_iconst (v := bI false) hx hb dX1_part_147 (by decide) ?_
                            refine lv_iload hx hb dX1_part_148 (lv_at hl 7 rfl) ?_
                            refine lv_i2l hx hb dX1_part_150 rfl ?_
                            refine lv_iload hx hb dX1_part_151 (lv_at hl 8 rfl) ?_
                            refine go_X (va_runV (As := [.int (bI false), .long t.toInt64, .int (bI ti)]) (rest := []) ⟨hx, hb, hml, hown, hts⟩ (c_X1_withEnd l D cy aR lo li hi hn _ false t.toInt64 ti) (cwV 3 hts gX1_part_X1_withEnd rfl rfl rfl (by decide +kernel) ⟨Nat.le_of_ble_eq_true rfl, Nat.le_of_ble_eq_true rfl⟩) (preV_Z hK (hP.sub [0] rfl) 0 1 rfl rfl) rfl rfl hl.1 rfl (lv_room (Nat.le_of_ble_eq_true rfl)) dX1_part_153 ⟨Nat.le_of_ble_eq_true rfl, Nat.le_of_ble_eq_true rfl⟩) hS (fun q h => mA_sub [] rfl hS.1 h) (fun qN22 tt H1 locs1 ht hvm hB hzz hk hS => ?_)
                            obtain ⟨hqN22, hPn⟩ := hB
                            rw [ht] at hPn
                            have hqN22 : s.heap.size ≤ qN22 := by omega
                            have hP : va_P D vwCl [(aR, .inr (1, [.long lo, .int (bI li), .long hi, .int (bI hn)])), (qN22, .inr (1, [.long (if false = true then lo else t.toInt64), .int (bI (if false = true then li else ti)), .long (if false = true then t.toInt64 else hi), .int (bI (if false = true then ti else hn))]))] H1 := (P_keepS hP0 (fun q _ => List.not_mem_nil) hS).app hPn
                            have hS1 := hS.1
                            generalize H1 = H at hP hS hS1 ⊢
                            generalize locs1 = locs at hS ⊢
                            refine W.eq (g2 := F0 mM 156 ls (.ref qN22 :: [])) rfl ?_
                            refine lv_goto (tgt := 161) hx hb dX1_part_156 (by decide) ?_
                            have hz : prt lo li hi hn 1 f fi t ti fl = some (if false = true then lo else t.toInt64, (if false = true then li else ti), if false = true then t.toInt64 else hi, (if false = true then ti else hn)) := by simp [prt, ht1, wE, hfl2]
                            refine W.widen (k := 2) (n := 8) (by decide) (by decide) ?_
                            exact ret_aX hx hb hr (Or.inl ⟨_, rfl⟩) hlocks dX1_part_161 hS (some qN22) rfl (Or.inr ⟨_, rfl⟩) (fun t ht => by rw [hz]; exact ⟨qN22, rfl, Or.inr hqN22, by rw [ht]; exact hP.sub [1] rfl⟩)
                          · refine lv_iconst (v := bI true) hx hb dX1_part_143 (by decide) ?_
                            refine lv_goto (tgt := 148) hx hb dX1_part_144 (by decide) ?_
                            refine lv_iload hx hb dX1_part_148 (lv_at hl 7 rfl) ?_
                            refine lv_i2l hx hb dX1_part_150 rfl ?_
                            refine lv_iload hx hb dX1_part_151 (lv_at hl 8 rfl) ?_
                            refine go_X (va_runV (As := [.int (bI true), .long t.toInt64, .int (bI ti)]) (rest := []) ⟨hx, hb, hml, hown, hts⟩ (c_X1_withEnd l D cy aR lo li hi hn _ true t.toInt64 ti) (cwV 3 hts gX1_part_X1_withEnd rfl rfl rfl (by decide +kernel) ⟨Nat.le_of_ble_eq_true rfl, Nat.le_of_ble_eq_true rfl⟩) (preV_Z hK (hP.sub [0] rfl) 0 1 rfl rfl) rfl rfl hl.1 rfl (lv_room (Nat.le_of_ble_eq_true rfl)) dX1_part_153 ⟨Nat.le_of_ble_eq_true rfl, Nat.le_of_ble_eq_true rfl⟩) hS (fun q h => mA_sub [] rfl hS.1 h) (fun qN23 tt H1 locs1 ht hvm hB hzz hk hS => ?_)
                            obtain ⟨hqN23, hPn⟩ := hB
                            rw [ht] at hPn
                            have hqN23 : s.heap.size ≤ qN23 := by omega
                            have hP : va_P D vwCl [(aR, .inr (1, [.long lo, .int (bI li), .long hi, .int (bI hn)])), (qN23, .inr (1, [.long (if true = true then lo else t.toInt64), .int (bI (if true = true then li else ti)), .long (if true = true then t.toInt64 else hi), .int (bI (if true = true then ti else hn))]))] H1 := (P_keepS hP0 (fun q _ => List.not_mem_nil) hS).app hPn
                            have hS1 := hS.1
                            generalize H1 = H at hP hS hS1 ⊢
                            generalize locs1 = locs at hS ⊢
                            refine W.eq (g2 := F0 mM 156 ls (.ref qN23 :: [])) rfl ?_
                            refine lv_goto (tgt := 161) hx hb dX1_part_156 (by decide) ?_
                            have hz : prt lo li hi hn 1 f fi t ti fl = some (if true = true then lo else t.toInt64, (if true = true then li else ti), if true = true then t.toInt64 else hi, (if true = true then ti else hn)) := by simp [prt, ht1, wE, hfl2]
                            refine W.widen (k := 2) (n := 8) (by decide) (by decide) ?_
                            exact ret_aX hx hb hr (Or.inl ⟨_, rfl⟩) hlocks dX1_part_161 hS (some qN23) rfl (Or.inr ⟨_, rfl⟩) (fun t ht => by rw [hz]; exact ⟨qN23, rfl, Or.inr hqN23, by rw [ht]; exact hP.sub [1] rfl⟩)
                      · exact absurd c_19 (by decide)
                    · exact absurd c_18 (by decide)
                  · have hz : prt lo li hi hn 1 f fi t ti fl = none := by simp [prt, ht1]
                    refine lv_null hx hb dX1_part_77 ?_
                    refine W.widen (k := 2) (n := 8) (by decide) (by decide) ?_
                    exact ret_aX hx hb hr (Or.inl ⟨_, rfl⟩) hlocks dX1_part_78 hS none rfl (Or.inl rfl) (fun t ht => by rw [hz]; rfl)
              · exact absurd c_15 (by decide)
            · exact absurd c_14 (by decide)
          · exact absurd c_13 (by decide)
      · have hk0 : True := trivial
        refine lv_iload_n hx hb dX1_part_11 rfl (lv_at hl 1 rfl) ?_
        refine lv_iconst (v := 2) hx hb dX1_part_12 (by decide) ?_
        refine lv_icmp_eq (tgt := 21) hx hb dX1_part_13 (by decide) (fun c_24 => ?_) (fun c_24 => ?_)
        · refine lv_iconst (v := bI true) hx hb dX1_part_21 (by decide) ?_
          refine lv_goto (tgt := 26) hx hb dX1_part_22 (by decide) ?_
          refine lv_istore (lv' := [(7, .int (bI true)), (0, .ref aR), (1, .int 2), (2, .int f), (3, .int (bI fi)), (4, .int t), (5, .int (bI ti)), (6, .int (bI fl))]) hx hb dX1_part_26 hl (by decide) rfl (fun ls hl => ?_)
          refine lv_iload_n hx hb dX1_part_28 rfl (lv_at hl 2 rfl) ?_
          refine lv_iconst (v := 1) hx hb dX1_part_29 (by decide) ?_
          refine lv_icmp_eq (tgt := 38) hx hb dX1_part_30 (by decide) (fun c_25 => ?_) (fun c_25 => ?_)
          · exact absurd c_25 (by decide)
          · refine lv_iload_n hx hb dX1_part_33 rfl (lv_at hl 2 rfl) ?_
            refine lv_iconst (v := 3) hx hb dX1_part_34 (by decide) ?_
            refine lv_icmp_ne (tgt := 42) hx hb dX1_part_35 (by decide) (fun c_26 => ?_) (fun c_26 => ?_)
            · refine lv_iconst (v := bI false) hx hb dX1_part_42 (by decide) ?_
              refine lv_istore (lv' := [(8, .int (bI false)), (7, .int (bI true)), (0, .ref aR), (1, .int 2), (2, .int f), (3, .int (bI fi)), (4, .int t), (5, .int (bI ti)), (6, .int (bI fl))]) hx hb dX1_part_43 hl (by decide) rfl (fun ls hl => ?_)
              refine lv_iload hx hb dX1_part_45 (lv_at hl 1 rfl) ?_
              refine b_eq (tgt := 60) hx hb dX1_part_47 (by decide) (fun c_27 => ?_) (fun c_27 => ?_)
              · exact absurd c_27 (by decide)
              · refine lv_aload_n hx hb dX1_part_50 rfl (lv_at hl 2 rfl) ?_
                refine lv_iload_n hx hb dX1_part_51 rfl (lv_at hl 4 rfl) ?_
                refine lv_i2l hx hb dX1_part_52 rfl ?_
                refine lv_iload_n hx hb dX1_part_53 rfl (lv_at hl 5 rfl) ?_
                refine go_R (va_runV (As := [.long f.toInt64, .int (bI fi)]) (rest := []) ⟨hx, hb, hml, hown, hts⟩ (c_X1_mayEndAt l D cy aR lo li hi hn f.toInt64 fi) (cwV 2 hts gX1_part_X1_mayEndAt rfl rfl rfl (by decide +kernel) ⟨(Nat.le_of_ble_eq_true rfl), (Nat.le_of_ble_eq_true rfl)⟩) (preV_W hK (hP.sub [0] rfl) 0 1 rfl rfl) rfl rfl hl.1 rfl (lv_room (Nat.le_of_ble_eq_true rfl)) dX1_part_54 ⟨(Nat.le_of_ble_eq_true rfl), (Nat.le_of_ble_eq_true rfl)⟩) ?_
                refine b_eq (tgt := 77) hx hb dX1_part_57 (by decide) (fun hf => ?_) (fun hf => ?_)
                · have hz : prt lo li hi hn 2 f fi t ti fl = none := by simp [prt, hf]
                  refine lv_null hx hb dX1_part_77 ?_
                  refine W.widen (k := 2) (n := 8) (by decide) (by decide) ?_
                  exact ret_aX hx hb hr (Or.inl ⟨_, rfl⟩) hlocks dX1_part_78 hS none rfl (Or.inl rfl) (fun t ht => by rw [hz]; rfl)
                · refine lv_iload hx hb dX1_part_60 (lv_at hl 0 rfl) ?_
                  refine b_eq (tgt := 79) hx hb dX1_part_62 (by decide) (fun c_29 => ?_) (fun c_29 => ?_)
                  · refine lv_iload hx hb dX1_part_79 (lv_at hl 1 rfl) ?_
                    refine b_eq (tgt := 111) hx hb dX1_part_81 (by decide) (fun c_30 => ?_) (fun c_30 => ?_)
                    · exact absurd c_30 (by decide)
                    · refine lv_iload hx hb dX1_part_84 (lv_at hl 0 rfl) ?_
                      refine b_eq (tgt := 111) hx hb dX1_part_86 (by decide) (fun c_31 => ?_) (fun c_31 => ?_)
                      · refine lv_iload hx hb dX1_part_111 (lv_at hl 1 rfl) ?_
                        refine b_eq (tgt := 128) hx hb dX1_part_113 (by decide) (fun c_32 => ?_) (fun c_32 => ?_)
                        · exact absurd c_32 (by decide)
                        · refine lv_aload_n hx hb dX1_part_116 rfl (lv_at hl 2 rfl) ?_
                          refine lv_iload hx hb dX1_part_117 (lv_at hl 8 rfl) ?_
                          refine lv_iload_n hx hb dX1_part_119 rfl (lv_at hl 4 rfl) ?_
                          refine lv_i2l hx hb dX1_part_120 rfl ?_
                          refine lv_iload_n hx hb dX1_part_121 rfl (lv_at hl 5 rfl) ?_
                          refine go_X (va_runV (As := [.int (bI fl), .long f.toInt64, .int (bI fi)]) (rest := []) ⟨hx, hb, hml, hown, hts⟩ (c_X1_withEnd l D cy aR lo li hi hn _ fl f.toInt64 fi) (cwV 3 hts gX1_part_X1_withEnd rfl rfl rfl (by decide +kernel) ⟨Nat.le_of_ble_eq_true rfl, Nat.le_of_ble_eq_true rfl⟩) (preV_Z hK (hP.sub [0] rfl) 0 1 rfl rfl) rfl rfl hl.1 rfl (lv_room (Nat.le_of_ble_eq_true rfl)) dX1_part_122 ⟨Nat.le_of_ble_eq_true rfl, Nat.le_of_ble_eq_true rfl⟩) hS (fun q h => mA_sub [] rfl hS.1 h) (fun qN33 tt H1 locs1 ht hvm hB hzz hk hS => ?_)
                          obtain ⟨hqN33, hPn⟩ := hB
                          rw [ht] at hPn
                          have hqN33 : s.heap.size ≤ qN33 := by omega
                          have hP : va_P D vwCl [(aR, .inr (1, [.long lo, .int (bI li), .long hi, .int (bI hn)])), (qN33, .inr (1, [.long (if fl = true then lo else f.toInt64), .int (bI (if fl = true then li else fi)), .long (if fl = true then f.toInt64 else hi), .int (bI (if fl = true then fi else hn))]))] H1 := (P_keepS hP0 (fun q _ => List.not_mem_nil) hS).app hPn
                          have hS1 := hS.1
                          generalize H1 = H at hP hS hS1 ⊢
                          generalize locs1 = locs at hS ⊢
                          refine W.eq (g2 := F0 mM 125 ls (.ref qN33 :: [])) rfl ?_
                          refine lv_goto (tgt := 129) hx hb dX1_part_125 (by decide) ?_
                          refine lv_astore (lv' := [(9, .ref qN33), (8, .int (bI false)), (7, .int (bI true)), (0, .ref aR), (1, .int 2), (2, .int f), (3, .int (bI fi)), (4, .int t), (5, .int (bI ti)), (6, .int (bI fl))]) hx hb dX1_part_129 hl (by decide) rfl (fun ls hl => ?_)
                          refine lv_iload hx hb dX1_part_131 (lv_at hl 1 rfl) ?_
                          refine b_eq (tgt := 159) hx hb dX1_part_133 (by decide) (fun c_34 => ?_) (fun c_34 => ?_)
                          · refine lv_aload hx hb dX1_part_159 (lv_at hl 0 rfl) ?_
                            have hz : prt lo li hi hn 2 f fi t ti fl = some (if fl = true then lo else f.toInt64, (if fl = true then li else fi), if fl = true then f.toInt64 else hi, (if fl = true then fi else hn)) := by simp [prt, hf, wE]
                            refine W.widen (k := 2) (n := 8) (by decide) (by decide) ?_
                            exact ret_aX hx hb hr (Or.inl ⟨_, rfl⟩) hlocks dX1_part_161 hS (some qN33) rfl (Or.inr ⟨_, rfl⟩) (fun t ht => by rw [hz]; exact ⟨qN33, rfl, Or.inr hqN33, by rw [ht]; exact hP.sub [1] rfl⟩)
                          · exact absurd c_34 (by decide)
                      · exact absurd c_31 (by decide)
                  · exact absurd c_29 (by decide)
            · exact absurd c_26 (by decide)
        · exact absurd c_24 (by decide)
      · have hk0 : True := trivial
        refine lv_iload_n hx hb dX1_part_11 rfl (lv_at hl 1 rfl) ?_
        refine lv_iconst (v := 2) hx hb dX1_part_12 (by decide) ?_
        refine lv_icmp_eq (tgt := 21) hx hb dX1_part_13 (by decide) (fun c_35 => ?_) (fun c_35 => ?_)
        · exact absurd c_35 (by decide)
        · refine lv_iload_n hx hb dX1_part_16 rfl (lv_at hl 1 rfl) ?_
          refine lv_iconst (v := 3) hx hb dX1_part_17 (by decide) ?_
          refine lv_icmp_ne (tgt := 25) hx hb dX1_part_18 (by decide) (fun c_36 => ?_) (fun c_36 => ?_)
          · exact absurd c_36 (by decide)
          · refine lv_iconst (v := bI true) hx hb dX1_part_21 (by decide) ?_
            refine lv_goto (tgt := 26) hx hb dX1_part_22 (by decide) ?_
            refine lv_istore (lv' := [(7, .int (bI true)), (0, .ref aR), (1, .int 3), (2, .int f), (3, .int (bI fi)), (4, .int t), (5, .int (bI ti)), (6, .int (bI fl))]) hx hb dX1_part_26 hl (by decide) rfl (fun ls hl => ?_)
            refine lv_iload_n hx hb dX1_part_28 rfl (lv_at hl 2 rfl) ?_
            refine lv_iconst (v := 1) hx hb dX1_part_29 (by decide) ?_
            refine lv_icmp_eq (tgt := 38) hx hb dX1_part_30 (by decide) (fun c_37 => ?_) (fun c_37 => ?_)
            · exact absurd c_37 (by decide)
            · refine lv_iload_n hx hb dX1_part_33 rfl (lv_at hl 2 rfl) ?_
              refine lv_iconst (v := 3) hx hb dX1_part_34 (by decide) ?_
              refine lv_icmp_ne (tgt := 42) hx hb dX1_part_35 (by decide) (fun c_38 => ?_) (fun c_38 => ?_)
              · exact absurd c_38 (by decide)
              · refine lv_iconst (v := bI true) hx hb dX1_part_38 (by decide) ?_
                refine lv_goto (tgt := 43) hx hb dX1_part_39 (by decide) ?_
                refine lv_istore (lv' := [(8, .int (bI true)), (7, .int (bI true)), (0, .ref aR), (1, .int 3), (2, .int f), (3, .int (bI fi)), (4, .int t), (5, .int (bI ti)), (6, .int (bI fl))]) hx hb dX1_part_43 hl (by decide) rfl (fun ls hl => ?_)
                refine lv_iload hx hb dX1_part_45 (lv_at hl 1 rfl) ?_
                refine b_eq (tgt := 60) hx hb dX1_part_47 (by decide) (fun c_39 => ?_) (fun c_39 => ?_)
                · exact absurd c_39 (by decide)
                · refine lv_aload_n hx hb dX1_part_50 rfl (lv_at hl 2 rfl) ?_
                  refine lv_iload_n hx hb dX1_part_51 rfl (lv_at hl 4 rfl) ?_
                  refine lv_i2l hx hb dX1_part_52 rfl ?_
                  refine lv_iload_n hx hb dX1_part_53 rfl (lv_at hl 5 rfl) ?_
                  refine go_R (va_runV (As := [.long f.toInt64, .int (bI fi)]) (rest := []) ⟨hx, hb, hml, hown, hts⟩ (c_X1_mayEndAt l D cy aR lo li hi hn f.toInt64 fi) (cwV 2 hts gX1_part_X1_mayEndAt rfl rfl rfl (by decide +kernel) ⟨(Nat.le_of_ble_eq_true rfl), (Nat.le_of_ble_eq_true rfl)⟩) (preV_W hK (hP.sub [0] rfl) 0 1 rfl rfl) rfl rfl hl.1 rfl (lv_room (Nat.le_of_ble_eq_true rfl)) dX1_part_54 ⟨(Nat.le_of_ble_eq_true rfl), (Nat.le_of_ble_eq_true rfl)⟩) ?_
                  refine b_eq (tgt := 77) hx hb dX1_part_57 (by decide) (fun hf => ?_) (fun hf => ?_)
                  · have hz : prt lo li hi hn 3 f fi t ti fl = none := by simp [prt, hf]
                    refine lv_null hx hb dX1_part_77 ?_
                    refine W.widen (k := 2) (n := 8) (by decide) (by decide) ?_
                    exact ret_aX hx hb hr (Or.inl ⟨_, rfl⟩) hlocks dX1_part_78 hS none rfl (Or.inl rfl) (fun t ht => by rw [hz]; rfl)
                  · refine lv_iload hx hb dX1_part_60 (lv_at hl 0 rfl) ?_
                    refine b_eq (tgt := 79) hx hb dX1_part_62 (by decide) (fun c_41 => ?_) (fun c_41 => ?_)
                    · exact absurd c_41 (by decide)
                    · refine lv_aload_n hx hb dX1_part_65 rfl (lv_at hl 2 rfl) ?_
                      refine lv_iload hx hb dX1_part_66 (lv_at hl 6 rfl) ?_
                      refine lv_i2l hx hb dX1_part_68 rfl ?_
                      refine lv_iload hx hb dX1_part_69 (lv_at hl 7 rfl) ?_
                      refine go_R (va_runV (As := [.long t.toInt64, .int (bI ti)]) (rest := []) ⟨hx, hb, hml, hown, hts⟩ (c_X1_mayEndAt l D cy aR lo li hi hn t.toInt64 ti) (cwV 2 hts gX1_part_X1_mayEndAt rfl rfl rfl (by decide +kernel) ⟨(Nat.le_of_ble_eq_true rfl), (Nat.le_of_ble_eq_true rfl)⟩) (preV_W hK (hP.sub [0] rfl) 0 1 rfl rfl) rfl rfl hl.1 rfl (lv_room (Nat.le_of_ble_eq_true rfl)) dX1_part_71 ⟨(Nat.le_of_ble_eq_true rfl), (Nat.le_of_ble_eq_true rfl)⟩) ?_
                      refine b_ne (tgt := 79) hx hb dX1_part_74 (by decide) (fun ht1 => ?_) (fun ht1 => ?_)
                      · refine lv_iload hx hb dX1_part_79 (lv_at hl 1 rfl) ?_
                        refine b_eq (tgt := 111) hx hb dX1_part_81 (by decide) (fun c_43 => ?_) (fun c_43 => ?_)
                        · exact absurd c_43 (by decide)
                        · refine lv_iload hx hb dX1_part_84 (lv_at hl 0 rfl) ?_
                          refine b_eq (tgt := 111) hx hb dX1_part_86 (by decide) (fun c_44 => ?_) (fun c_44 => ?_)
                          · exact absurd c_44 (by decide)
                          · refine lv_iload hx hb dX1_part_89 (lv_at hl 8 rfl) ?_
                            refine b_eq (tgt := 103) hx hb dX1_part_91 (by decide) (fun hfl => ?_) (fun hfl => ?_)
                            · refine lv_iload_n hx hb dX1_part_103 rfl (lv_at hl 4 rfl) ?_
                              refine lv_iload hx hb dX1_part_104 (lv_at hl 6 rfl) ?_
                              refine lv_icmp_le (tgt := 111) hx hb dX1_part_106 (by decide) (fun hft => ?_) (fun hft => ?_)
                              · refine lv_iload hx hb dX1_part_111 (lv_at hl 1 rfl) ?_
                                refine b_eq (tgt := 128) hx hb dX1_part_113 (by decide) (fun c_47 => ?_) (fun c_47 => ?_)
                                · exact absurd c_47 (by decide)
                                · refine lv_aload_n hx hb dX1_part_116 rfl (lv_at hl 2 rfl) ?_
                                  refine lv_iload hx hb dX1_part_117 (lv_at hl 8 rfl) ?_
                                  refine lv_iload_n hx hb dX1_part_119 rfl (lv_at hl 4 rfl) ?_
                                  refine lv_i2l hx hb dX1_part_120 rfl ?_
                                  refine lv_iload_n hx hb dX1_part_121 rfl (lv_at hl 5 rfl) ?_
                                  refine go_X (va_runV (As := [.int (bI fl), .long f.toInt64, .int (bI fi)]) (rest := []) ⟨hx, hb, hml, hown, hts⟩ (c_X1_withEnd l D cy aR lo li hi hn _ fl f.toInt64 fi) (cwV 3 hts gX1_part_X1_withEnd rfl rfl rfl (by decide +kernel) ⟨Nat.le_of_ble_eq_true rfl, Nat.le_of_ble_eq_true rfl⟩) (preV_Z hK (hP.sub [0] rfl) 0 1 rfl rfl) rfl rfl hl.1 rfl (lv_room (Nat.le_of_ble_eq_true rfl)) dX1_part_122 ⟨Nat.le_of_ble_eq_true rfl, Nat.le_of_ble_eq_true rfl⟩) hS (fun q h => mA_sub [] rfl hS.1 h) (fun qN48 tt H1 locs1 ht hvm hB hzz hk hS => ?_)
                                  obtain ⟨hqN48, hPn⟩ := hB
                                  rw [ht] at hPn
                                  have hqN48 : s.heap.size ≤ qN48 := by omega
                                  have hP : va_P D vwCl [(aR, .inr (1, [.long lo, .int (bI li), .long hi, .int (bI hn)])), (qN48, .inr (1, [.long (if fl = true then lo else f.toInt64), .int (bI (if fl = true then li else fi)), .long (if fl = true then f.toInt64 else hi), .int (bI (if fl = true then fi else hn))]))] H1 := (P_keepS hP0 (fun q _ => List.not_mem_nil) hS).app hPn
                                  have hS1 := hS.1
                                  generalize H1 = H at hP hS hS1 ⊢
                                  generalize locs1 = locs at hS ⊢
                                  refine W.eq (g2 := F0 mM 125 ls (.ref qN48 :: [])) rfl ?_
                                  refine lv_goto (tgt := 129) hx hb dX1_part_125 (by decide) ?_
                                  refine lv_astore (lv' := [(9, .ref qN48), (8, .int (bI true)), (7, .int (bI true)), (0, .ref aR), (1, .int 3), (2, .int f), (3, .int (bI fi)), (4, .int t), (5, .int (bI ti)), (6, .int (bI fl))]) hx hb dX1_part_129 hl (by decide) rfl (fun ls hl => ?_)
                                  refine lv_iload hx hb dX1_part_131 (lv_at hl 1 rfl) ?_
                                  refine b_eq (tgt := 159) hx hb dX1_part_133 (by decide) (fun c_49 => ?_) (fun c_49 => ?_)
                                  · exact absurd c_49 (by decide)
                                  · refine lv_aload hx hb dX1_part_136 (lv_at hl 0 rfl) ?_
                                    refine lv_iload hx hb dX1_part_138 (lv_at hl 9 rfl) ?_
                                    refine b_ne (tgt := 147) hx hb dX1_part_140 (by decide) (fun hfl2 => ?_) (fun hfl2 => ?_)
                                    · refine lv_iconst (v := bI false) hx hb dX1_part_147 (by decide) ?_
                                      refine lv_iload hx hb dX1_part_148 (lv_at hl 7 rfl) ?_
                                      refine lv_i2l hx hb dX1_part_150 rfl ?_
                                      refine lv_iload hx hb dX1_part_151 (lv_at hl 8 rfl) ?_
                                      refine go_X (va_runV (As := [.int (bI false), .long t.toInt64, .int (bI ti)]) (rest := []) ⟨hx, hb, hml, hown, hts⟩ (c_X1_withEnd l D cy qN48 (if fl = true then lo else f.toInt64) ((if fl = true then li else fi)) (if fl = true then f.toInt64 else hi) ((if fl = true then fi else hn)) _ false t.toInt64 ti) (cwV 3 hts gX1_part_X1_withEnd rfl rfl rfl (by decide +kernel) ⟨Nat.le_of_ble_eq_true rfl, Nat.le_of_ble_eq_true rfl⟩) (preV_Z hK (hP.sub [1] rfl) 0 1 rfl rfl) rfl rfl hl.1 rfl (lv_room (Nat.le_of_ble_eq_true rfl)) dX1_part_153 ⟨Nat.le_of_ble_eq_true rfl, Nat.le_of_ble_eq_true rfl⟩) hS (fun q h => mA_sub [] rfl hS.1 h) (fun qN51 tt H1 locs1 ht hvm hB hzz hk hS => ?_)
                                      obtain ⟨hqN51, hPn⟩ := hB
                                      rw [ht] at hPn
                                      have hqN51 : s.heap.size ≤ qN51 := by omega
                                      have hP : va_P D vwCl [(aR, .inr (1, [.long lo, .int (bI li), .long hi, .int (bI hn)])), (qN51, .inr (1, [.long (if false = true then (if fl = true then lo else f.toInt64) else t.toInt64), .int (bI (if false = true then ((if fl = true then li else fi)) else ti)), .long (if false = true then t.toInt64 else (if fl = true then f.toInt64 else hi)), .int (bI (if false = true then ti else ((if fl = true then fi else hn))))]))] H1 := (P_keepS hP0 (fun q _ => List.not_mem_nil) hS).app hPn
                                      have hS1 := hS.1
                                      generalize H1 = H at hP hS hS1 ⊢
                                      generalize locs1 = locs at hS ⊢
                                      refine W.eq (g2 := F0 mM 156 ls (.ref qN51 :: [])) rfl ?_
                                      refine lv_goto (tgt := 161) hx hb dX1_part_156 (by decide) ?_
                                      have hz : prt lo li hi hn 3 f fi t ti fl = some (if false = true then (if fl = true then lo else f.toInt64) else t.toInt64, (if false = true then ((if fl = true then li else fi)) else ti), if false = true then t.toInt64 else (if fl = true then f.toInt64 else hi), (if false = true then ti else ((if fl = true then fi else hn)))) := by first | exact absurd (hfl.symm.trans hfl2) (by decide) | (simp [prt, hf, ht1, hfl, Int32.not_lt.mpr hft, wE]; done)
                                      refine W.widen (k := 2) (n := 8) (by decide) (by decide) ?_
                                      exact ret_aX hx hb hr (Or.inl ⟨_, rfl⟩) hlocks dX1_part_161 hS (some qN51) rfl (Or.inr ⟨_, rfl⟩) (fun t ht => by rw [hz]; exact ⟨qN51, rfl, Or.inr hqN51, by rw [ht]; exact hP.sub [1] rfl⟩)
                                    · refine lv_iconst (v := bI true) hx hb dX1_part_143 (by decide) ?_
                                      refine lv_goto (tgt := 148) hx hb dX1_part_144 (by decide) ?_
                                      refine lv_iload hx hb dX1_part_148 (lv_at hl 7 rfl) ?_
                                      refine lv_i2l hx hb dX1_part_150 rfl ?_
                                      refine lv_iload hx hb dX1_part_151 (lv_at hl 8 rfl) ?_
                                      refine go_X (va_runV (As := [.int (bI true), .long t.toInt64, .int (bI ti)]) (rest := []) ⟨hx, hb, hml, hown, hts⟩ (c_X1_withEnd l D cy qN48 (if fl = true then lo else f.toInt64) ((if fl = true then li else fi)) (if fl = true then f.toInt64 else hi) ((if fl = true then fi else hn)) _ true t.toInt64 ti) (cwV 3 hts gX1_part_X1_withEnd rfl rfl rfl (by decide +kernel) ⟨Nat.le_of_ble_eq_true rfl, Nat.le_of_ble_eq_true rfl⟩) (preV_Z hK (hP.sub [1] rfl) 0 1 rfl rfl) rfl rfl hl.1 rfl (lv_room (Nat.le_of_ble_eq_true rfl)) dX1_part_153 ⟨Nat.le_of_ble_eq_true rfl, Nat.le_of_ble_eq_true rfl⟩) hS (fun q h => mA_sub [] rfl hS.1 h) (fun qN52 tt H1 locs1 ht hvm hB hzz hk hS => ?_)
                                      obtain ⟨hqN52, hPn⟩ := hB
                                      rw [ht] at hPn
                                      have hqN52 : s.heap.size ≤ qN52 := by omega
                                      have hP : va_P D vwCl [(aR, .inr (1, [.long lo, .int (bI li), .long hi, .int (bI hn)])), (qN52, .inr (1, [.long (if true = true then (if fl = true then lo else f.toInt64) else t.toInt64), .int (bI (if true = true then ((if fl = true then li else fi)) else ti)), .long (if true = true then t.toInt64 else (if fl = true then f.toInt64 else hi)), .int (bI (if true = true then ti else ((if fl = true then fi else hn))))]))] H1 := (P_keepS hP0 (fun q _ => List.not_mem_nil) hS).app hPn
                                      have hS1 := hS.1
                                      generalize H1 = H at hP hS hS1 ⊢
                                      generalize locs1 = locs at hS ⊢
                                      refine W.eq (g2 := F0 mM 156 ls (.ref qN52 :: [])) rfl ?_
                                      refine lv_goto (tgt := 161) hx hb dX1_part_156 (by decide) ?_
                                      have hz : prt lo li hi hn 3 f fi t ti fl = some (if true = true then (if fl = true then lo else f.toInt64) else t.toInt64, (if true = true then ((if fl = true then li else fi)) else ti), if true = true then t.toInt64 else (if fl = true then f.toInt64 else hi), (if true = true then ti else ((if fl = true then fi else hn)))) := by first | exact absurd (hfl.symm.trans hfl2) (by decide) | (simp [prt, hf, ht1, hfl, Int32.not_lt.mpr hft, wE]; done)
                                      refine W.widen (k := 2) (n := 8) (by decide) (by decide) ?_
                                      exact ret_aX hx hb hr (Or.inl ⟨_, rfl⟩) hlocks dX1_part_161 hS (some qN52) rfl (Or.inr ⟨_, rfl⟩) (fun t ht => by rw [hz]; exact ⟨qN52, rfl, Or.inr hqN52, by rw [ht]; exact hP.sub [1] rfl⟩)
                              · have hz : prt lo li hi hn 3 f fi t ti fl = none := by simp [prt, hf, ht1, hfl, Int32.not_le.mp hft]
                                refine lv_null hx hb dX1_part_109 ?_
                                refine W.widen (k := 2) (n := 8) (by decide) (by decide) ?_
                                exact ret_aX hx hb hr (Or.inl ⟨_, rfl⟩) hlocks dX1_part_110 hS none rfl (Or.inl rfl) (fun t ht => by rw [hz]; rfl)
                            · refine lv_iload_n hx hb dX1_part_94 rfl (lv_at hl 4 rfl) ?_
                              refine lv_iload hx hb dX1_part_95 (lv_at hl 6 rfl) ?_
                              refine lv_icmp_ge (tgt := 111) hx hb dX1_part_97 (by decide) (fun hft => ?_) (fun hft => ?_)
                              · refine lv_iload hx hb dX1_part_111 (lv_at hl 1 rfl) ?_
                                refine b_eq (tgt := 128) hx hb dX1_part_113 (by decide) (fun c_54 => ?_) (fun c_54 => ?_)
                                · exact absurd c_54 (by decide)
                                · refine lv_aload_n hx hb dX1_part_116 rfl (lv_at hl 2 rfl) ?_
                                  refine lv_iload hx hb dX1_part_117 (lv_at hl 8 rfl) ?_
                                  refine lv_iload_n hx hb dX1_part_119 rfl (lv_at hl 4 rfl) ?_
                                  refine lv_i2l hx hb dX1_part_120 rfl ?_
                                  refine lv_iload_n hx hb dX1_part_121 rfl (lv_at hl 5 rfl) ?_
                                  refine go_X (va_runV (As := [.int (bI fl), .long f.toInt64, .int (bI fi)]) (rest := []) ⟨hx, hb, hml, hown, hts⟩ (c_X1_withEnd l D cy aR lo li hi hn _ fl f.toInt64 fi) (cwV 3 hts gX1_part_X1_withEnd rfl rfl rfl (by decide +kernel) ⟨Nat.le_of_ble_eq_true rfl, Nat.le_of_ble_eq_true rfl⟩) (preV_Z hK (hP.sub [0] rfl) 0 1 rfl rfl) rfl rfl hl.1 rfl (lv_room (Nat.le_of_ble_eq_true rfl)) dX1_part_122 ⟨Nat.le_of_ble_eq_true rfl, Nat.le_of_ble_eq_true rfl⟩) hS (fun q h => mA_sub [] rfl hS.1 h) (fun qN55 tt H1 locs1 ht hvm hB hzz hk hS => ?_)
                                  obtain ⟨hqN55, hPn⟩ := hB
                                  rw [ht] at hPn
                                  have hqN55 : s.heap.size ≤ qN55 := by omega
                                  have hP : va_P D vwCl [(aR, .inr (1, [.long lo, .int (bI li), .long hi, .int (bI hn)])), (qN55, .inr (1, [.long (if fl = true then lo else f.toInt64), .int (bI (if fl = true then li else fi)), .long (if fl = true then f.toInt64 else hi), .int (bI (if fl = true then fi else hn))]))] H1 := (P_keepS hP0 (fun q _ => List.not_mem_nil) hS).app hPn
                                  have hS1 := hS.1
                                  generalize H1 = H at hP hS hS1 ⊢
                                  generalize locs1 = locs at hS ⊢
                                  refine W.eq (g2 := F0 mM 125 ls (.ref qN55 :: [])) rfl ?_
                                  refine lv_goto (tgt := 129) hx hb dX1_part_125 (by decide) ?_
                                  refine lv_astore (lv' := [(9, .ref qN55), (8, .int (bI true)), (7, .int (bI true)), (0, .ref aR), (1, .int 3), (2, .int f), (3, .int (bI fi)), (4, .int t), (5, .int (bI ti)), (6, .int (bI fl))]) hx hb dX1_part_129 hl (by decide) rfl (fun ls hl => ?_)
                                  refine lv_iload hx hb dX1_part_131 (lv_at hl 1 rfl) ?_
                                  refine b_eq (tgt := 159) hx hb dX1_part_133 (by decide) (fun c_56 => ?_) (fun c_56 => ?_)
                                  · exact absurd c_56 (by decide)
                                  · refine lv_aload hx hb dX1_part_136 (lv_at hl 0 rfl) ?_
                                    refine lv_iload hx hb dX1_part_138 (lv_at hl 9 rfl) ?_
                                    refine b_ne (tgt := 147) hx hb dX1_part_140 (by decide) (fun hfl2 => ?_) (fun hfl2 => ?_)
                                    · refine lv_iconst (v := bI false) hx hb dX1_part_147 (by decide) ?_
                                      refine lv_iload hx hb dX1_part_148 (lv_at hl 7 rfl) ?_
                                      refine lv_i2l hx hb dX1_part_150 rfl ?_
                                      refine lv_iload hx hb dX1_part_151 (lv_at hl 8 rfl) ?_
                                      refine go_X (va_runV (As := [.int (bI false), .long t.toInt64, .int (bI ti)]) (rest := []) ⟨hx, hb, hml, hown, hts⟩ (c_X1_withEnd l D cy qN55 (if fl = true then lo else f.toInt64) ((if fl = true then li else fi)) (if fl = true then f.toInt64 else hi) ((if fl = true then fi else hn)) _ false t.toInt64 ti) (cwV 3 hts gX1_part_X1_withEnd rfl rfl rfl (by decide +kernel) ⟨Nat.le_of_ble_eq_true rfl, Nat.le_of_ble_eq_true rfl⟩) (preV_Z hK (hP.sub [1] rfl) 0 1 rfl rfl) rfl rfl hl.1 rfl (lv_room (Nat.le_of_ble_eq_true rfl)) dX1_part_153 ⟨Nat.le_of_ble_eq_true rfl, Nat.le_of_ble_eq_true rfl⟩) hS (fun q h => mA_sub [] rfl hS.1 h) (fun qN58 tt H1 locs1 ht hvm hB hzz hk hS => ?_)
                                      obtain ⟨hqN58, hPn⟩ := hB
                                      rw [ht] at hPn
                                      have hqN58 : s.heap.size ≤ qN58 := by omega
                                      have hP : va_P D vwCl [(aR, .inr (1, [.long lo, .int (bI li), .long hi, .int (bI hn)])), (qN58, .inr (1, [.long (if false = true then (if fl = true then lo else f.toInt64) else t.toInt64), .int (bI (if false = true then ((if fl = true then li else fi)) else ti)), .long (if false = true then t.toInt64 else (if fl = true then f.toInt64 else hi)), .int (bI (if false = true then ti else ((if fl = true then fi else hn))))]))] H1 := (P_keepS hP0 (fun q _ => List.not_mem_nil) hS).app hPn
                                      have hS1 := hS.1
                                      generalize H1 = H at hP hS hS1 ⊢
                                      generalize locs1 = locs at hS ⊢
                                      refine W.eq (g2 := F0 mM 156 ls (.ref qN58 :: [])) rfl ?_
                                      refine lv_goto (tgt := 161) hx hb dX1_part_156 (by decide) ?_
                                      have hz : prt lo li hi hn 3 f fi t ti fl = some (if false = true then (if fl = true then lo else f.toInt64) else t.toInt64, (if false = true then ((if fl = true then li else fi)) else ti), if false = true then t.toInt64 else (if fl = true then f.toInt64 else hi), (if false = true then ti else ((if fl = true then fi else hn)))) := by first | exact absurd (hfl.symm.trans hfl2) (by decide) | (simp [prt, hf, ht1, hfl, Int32.not_lt.mpr hft, wE]; done)
                                      refine W.widen (k := 2) (n := 8) (by decide) (by decide) ?_
                                      exact ret_aX hx hb hr (Or.inl ⟨_, rfl⟩) hlocks dX1_part_161 hS (some qN58) rfl (Or.inr ⟨_, rfl⟩) (fun t ht => by rw [hz]; exact ⟨qN58, rfl, Or.inr hqN58, by rw [ht]; exact hP.sub [1] rfl⟩)
                                    · refine lv_iconst (v := bI true) hx hb dX1_part_143 (by decide) ?_
                                      refine lv_goto (tgt := 148) hx hb dX1_part_144 (by decide) ?_
                                      refine lv_iload hx hb dX1_part_148 (lv_at hl 7 rfl) ?_
                                      refine lv_i2l hx hb dX1_part_150 rfl ?_
                                      refine lv_iload hx hb dX1_part_151 (lv_at hl 8 rfl) ?_
                                      refine go_X (va_runV (As := [.int (bI true), .long t.toInt64, .int (bI ti)]) (rest := []) ⟨hx, hb, hml, hown, hts⟩ (c_X1_withEnd l D cy qN55 (if fl = true then lo else f.toInt64) ((if fl = true then li else fi)) (if fl = true then f.toInt64 else hi) ((if fl = true then fi else hn)) _ true t.toInt64 ti) (cwV 3 hts gX1_part_X1_withEnd rfl rfl rfl (by decide +kernel) ⟨Nat.le_of_ble_eq_true rfl, Nat.le_of_ble_eq_true rfl⟩) (preV_Z hK (hP.sub [1] rfl) 0 1 rfl rfl) rfl rfl hl.1 rfl (lv_room (Nat.le_of_ble_eq_true rfl)) dX1_part_153 ⟨Nat.le_of_ble_eq_true rfl, Nat.le_of_ble_eq_true rfl⟩) hS (fun q h => mA_sub [] rfl hS.1 h) (fun qN59 tt H1 locs1 ht hvm hB hzz hk hS => ?_)
                                      obtain ⟨hqN59, hPn⟩ := hB
                                      rw [ht] at hPn
                                      have hqN59 : s.heap.size ≤ qN59 := by omega
                                      have hP : va_P D vwCl [(aR, .inr (1, [.long lo, .int (bI li), .long hi, .int (bI hn)])), (qN59, .inr (1, [.long (if true = true then (if fl = true then lo else f.toInt64) else t.toInt64), .int (bI (if true = true then ((if fl = true then li else fi)) else ti)), .long (if true = true then t.toInt64 else (if fl = true then f.toInt64 else hi)), .int (bI (if true = true then ti else ((if fl = true then fi else hn))))]))] H1 := (P_keepS hP0 (fun q _ => List.not_mem_nil) hS).app hPn
                                      have hS1 := hS.1
                                      generalize H1 = H at hP hS hS1 ⊢
                                      generalize locs1 = locs at hS ⊢
                                      refine W.eq (g2 := F0 mM 156 ls (.ref qN59 :: [])) rfl ?_
                                      refine lv_goto (tgt := 161) hx hb dX1_part_156 (by decide) ?_
                                      have hz : prt lo li hi hn 3 f fi t ti fl = some (if true = true then (if fl = true then lo else f.toInt64) else t.toInt64, (if true = true then ((if fl = true then li else fi)) else ti), if true = true then t.toInt64 else (if fl = true then f.toInt64 else hi), (if true = true then ti else ((if fl = true then fi else hn)))) := by first | exact absurd (hfl.symm.trans hfl2) (by decide) | (simp [prt, hf, ht1, hfl, Int32.not_lt.mpr hft, wE]; done)
                                      refine W.widen (k := 2) (n := 8) (by decide) (by decide) ?_
                                      exact ret_aX hx hb hr (Or.inl ⟨_, rfl⟩) hlocks dX1_part_161 hS (some qN59) rfl (Or.inr ⟨_, rfl⟩) (fun t ht => by rw [hz]; exact ⟨qN59, rfl, Or.inr hqN59, by rw [ht]; exact hP.sub [1] rfl⟩)
                              · have hz : prt lo li hi hn 3 f fi t ti fl = none := by simp [prt, hf, ht1, hfl, Int32.not_le.mp hft]
                                refine lv_goto (tgt := 109) hx hb dX1_part_100 (by decide) ?_
                                refine lv_null hx hb dX1_part_109 ?_
                                refine W.widen (k := 2) (n := 8) (by decide) (by decide) ?_
                                exact ret_aX hx hb hr (Or.inl ⟨_, rfl⟩) hlocks dX1_part_110 hS none rfl (Or.inl rfl) (fun t ht => by rw [hz]; rfl)
                      · have hz : prt lo li hi hn 3 f fi t ti fl = none := by simp [prt, ht1]
                        refine lv_null hx hb dX1_part_77 ?_
                        refine W.widen (k := 2) (n := 8) (by decide) (by decide) ?_
                        exact ret_aX hx hb hr (Or.inl ⟨_, rfl⟩) hlocks dX1_part_78 hS none rfl (Or.inl rfl) (fun t ht => by rw [hz]; rfl)
    · have hz : prt lo li hi hn kind f fi t ti fl = none := pt_gt h6
      refine lv_null hx hb dX1_part_9 ?_
      refine W.widen (k := 2) (n := 8) (by decide) (by decide) ?_
      exact ret_aX hx hb hr (Or.inl ⟨_, rfl⟩) hlocks dX1_part_10 hS none rfl (Or.inl rfl) (fun t ht => by rw [hz]; rfl)
end
section
/-! the contracts of OrderedDesk's methods (written by wip/gen/x2.py) -/
abbrev d4 (cy : ClassId) (aD aE aK aV aW aR : Nat) (k v : Nat → Int32) (c : Nat) (fl : Bool) : va_W := [(aD, .inr (2, [.ref aE, .ref aW, .ref aR, .int (bI fl)])), (aE, .inr (0, [.ref aK, .ref aV, .int (nI c)])), (aK, .inl (cy, 512, .inl k)), (aV, .inl (cy, 512, .inl v))]
abbrev dW (cy : ClassId) (aD aE aK aV aW aR : Nat) (k v : Nat → Int32) (c : Nat) (lo : Int64) (li : Bool) (hi : Int64) (hn : Bool) (fl : Bool) : va_W := [(aD, .inr (2, [.ref aE, .ref aW, .ref aR, .int (bI fl)])), (aE, .inr (0, [.ref aK, .ref aV, .int (nI c)])), (aK, .inl (cy, 512, .inl k)), (aV, .inl (cy, 512, .inl v)), (aR, .inr (1, [.long lo, .int (bI li), .long hi, .int (bI hn)]))]
def vB (k : Nat → Int32) (c : Nat) (lo : Int64) (li : Bool) : Nat := plc k c (stR lo li)
def vE (k : Nat → Int32) (c : Nat) (lo : Int64) (li : Bool) (hi : Int64) (hn : Bool) : Nat := max (vB k c lo li) (plc k c (spR hi hn))
theorem vB_le (k : Nat → Int32) (c : Nat) (lo : Int64) (li : Bool) : vB k c lo li ≤ c := plc_le k c _
theorem vE_le (k : Nat → Int32) (c : Nat) (lo : Int64) (li : Bool) (hi : Int64) (hn : Bool) : vE k c lo li hi hn ≤ c := Nat.max_le.mpr ⟨plc_le k c _, plc_le k c _⟩
theorem vBE (k : Nat → Int32) (c : Nat) (lo : Int64) (li : Bool) (hi : Int64) (hn : Bool) : vB k c lo li ≤ vE k c lo li hi hn := Nat.le_max_left _ _
def mir (w : Int32) : Int32 := if w = 0 then 1 else if w = 1 then 0 else if w = 2 then 3 else if w = 3 then 2 else if w = 4 then 5 else if w = 5 then 4 else w
def kN (k : Nat → Int32) (c : Nat) (w x : Int32) (b f : Nat) : Int64 :=
  if w = 0 then kW k ((min (plc k c (x.toInt64 + 1)) f : Nat) - 1 : Int) b f
  else if w = 1 then kW k ((max (plc k c x.toInt64) b : Nat) : Int) b f
  else if w = 2 then kW k ((min (plc k c x.toInt64) f : Nat) - 1 : Int) b f
  else if w = 3 then kW k ((max (plc k c (x.toInt64 + 1)) b : Nat) : Int) b f
  else if w = 4 then kW k (b : Int) b f
  else if w = 5 then kW k ((f : Int) - 1) b f
  else NO
def pj (g : Bool) (b f : Nat) : Int := if g = true then (f : Int) - 1 else (b : Int)
def plP (k v : Nat → Int32) (c : Nat) (g : Bool) (b f : Nat) : Nat × (Nat → Int32) × (Nat → Int32) := if kW k (pj g b f) b f = NO then (c, k, v) else dlK 1 0 (pj g b f).toNat ((pj g b f).toNat + 1) c k v
def adT (k v : Nat → Int32) (c : Nat) (x y : Int32) : Nat × (Nat → Int32) × (Nat → Int32) := if vOf k v c x = NO then (stC k c x, stK k c x, stV k v c x y) else (c, k, v)
def hsD (k v : Nat → Int32) (c : Nat) (w x : Int32) : Bool := if w = 0 then !decide (vOf k v c x = NO) else if w = 1 then hasV v c x else false
def vPT (k v : Nat → Int32) (c : Nat) (h : Bool) (x y : Int32) : Nat × (Nat → Int32) × (Nat → Int32) := if h = true then (stC k c x, stK k c x, stV k v c x y) else (c, k, v)
def vRT (k v : Nat → Int32) (c : Nat) (h : Bool) (x : Int32) : Nat × (Nat → Int32) × (Nat → Int32) := if h = true then drp k v c x else (c, k, v)
def vKy (k : Nat → Int32) (b f : Nat) (fl : Bool) (z : Int) : Int64 := if 0 ≤ z ∧ z < (f : Int) - (b : Int) then (k (if fl = true then f - 1 - z.toNat else b + z.toNat)).toInt64 else NO
/-- the loop of walk -/
def wsm (k : Nat → Int32) (g : Nat → Int64) : Nat → Nat → Int64 → Int64
  | 0, _, a => a
  | n + 1, i, a => wsm k g n (i + 1) (a + (k i).toInt64 * g i)
theorem wsm_s {k : Nat → Int32} {g : Nat → Int64} {f i : Nat} {a : Int64} (h : i < f) : wsm k g (f - i) i a = wsm k g (f - (i + 1)) (i + 1) (a + (k i).toInt64 * g i) := by
  obtain ⟨n, hn⟩ : ∃ n, f - i = n + 1 := ⟨f - i - 1, by omega⟩
  rw [hn, show f - (i + 1) = n by omega, wsm]
def wpl (b f : Nat) (fl : Bool) (i : Nat) : Int64 := if fl = true then (nI (f - i)).toInt64 else (nI (i - b + 1)).toInt64
theorem nI_m1I {n : Nat} (h : n < 2 ^ 31) : (nI n - 1).toInt = (n : Int) - 1 := by
  rw [show (1 : Int32) = nI 1 from rfl]
  cases n with
  | zero => decide
  | succ n => rw [pk_sub (by omega), nI_toInt (by omega)]; omega
theorem kW_in {k : Nat → Int32} {z : Int} {b f : Nat} (h : ¬ kW k z b f = NO) : (b : Int) ≤ z ∧ z < (f : Int) := by
  by_cases q : (b : Int) ≤ z ∧ z < (f : Int)
  · exact q
  · exact absurd (if_neg q) h
theorem I32_of {x : Int32} {j : Nat} (h : x.toInt = (j : Int)) (hj : j < 2 ^ 31) : x = nI j := Int32.toInt_inj.mp (by rw [h, nI_toInt hj])
set_option maxHeartbeats 4000000 in
set_option maxRecDepth 100000 in
/-- get(key) -/
theorem c_X2_get (l : Launch) (D : va_G) (cy : ClassId) (aD aE aK aV aW aR : Nat) (k v : Nat → Int32) (c : Nat) (hc : c ≤ 512) (lo : Int64) (li : Bool) (hi : Int64) (hn : Bool) (fl : Bool) (x : Int32) : Met l yX2_get wsX2_get ({ frames := 2, cells := 0, slots := 0, locals := 45 } : Room) (pcW D [(cy, .int)] [.ref aD, .int x] [(aD, .inr (2, [.ref aE, .ref aW, .ref aR, .int (bI fl)])), (aE, .inr (0, [.ref aK, .ref aV, .int (nI c)])), (aK, .inl (cy, 512, .inl k)), (aV, .inl (cy, 512, .inl v)), (aR, .inr (1, [.long lo, .int (bI li), .long hi, .int (bI hn)]))]) (qR (.long (vOf k v c x))) 0 0 (fun _ => False) := by
  refine met_W (cc := cX2_get) (maxL := 2) (ret := (some .long)) (by decide +kernel) rfl (Nat.le_of_ble_eq_true rfl) ?_
  intro pM eM s mM below meth cM ls hx hb hr hts hown hlocks hml hnm hK hP hl
  have hown : s.vm.findClass RX2 = some mM.cls := hown
  have hl : lv_has ls 2 [(0, .ref aD), (1, .int x)] := hl
  have hin_X2 : ∀ w ∈ wsX20, w ∈ wsX2_get := by decide +kernel
  have kf_12 := hts (.fieldLink RX2 12 "OrderedDesk" "entries" "LOrderedDesk$Entries;") (by decide +kernel)
  have hP : va_P D vwCl [(aD, .inr (2, [.ref aE, .ref aW, .ref aR, .int (bI fl)])), (aE, .inr (0, [.ref aK, .ref aV, .int (nI c)])), (aK, .inl (cy, 512, .inl k)), (aV, .inl (cy, 512, .inl v)), (aR, .inr (1, [.long lo, .int (bI li), .long hi, .int (bI hn)]))] s.heap := hP
  refine lv_aload_n hx hb dX2_get_0 rfl (lv_at hl 0 rfl) ?_
  refine va_get (ci := 2) (v := .ref aE) (C := RX2) (T := TX2) (N := 4) hx hb hts hin_X2 hown hK hP 0 rfl rfl 0 (by decide) kf_12 (fun _ h9 => h9) rfl dX2_get_1 ?_
  refine lv_iload_n hx hb dX2_get_4 rfl (lv_at hl 1 rfl) ?_
  refine go_R (va_runV (As := [.int x]) (rest := []) ⟨hx, hb, hml, hown, hts⟩ (c_X0_valueOf l D cy aE aK aV k v c (by omega) x) (cwV 1 hts gX2_get_X0_valueOf rfl rfl rfl (by decide +kernel) ⟨(Nat.le_of_ble_eq_true rfl), (Nat.le_of_ble_eq_true rfl)⟩) (preV_W hK (hP.sub [1, 2, 3] rfl) 0 0 rfl rfl) rfl rfl hl.1 rfl (lv_room (Nat.le_of_ble_eq_true rfl)) dX2_get_5 ⟨(Nat.le_of_ble_eq_true rfl), (Nat.le_of_ble_eq_true rfl)⟩) ?_
  exact ret_l hx hb hr hlocks dX2_get_8 (rfl)

set_option maxHeartbeats 4000000 in
set_option maxRecDepth 100000 in
/-- size() -/
theorem c_X2_size (l : Launch) (D : va_G) (cy : ClassId) (aD aE aK aV aW aR : Nat) (k v : Nat → Int32) (c : Nat) (hc : c ≤ 512) (lo : Int64) (li : Bool) (hi : Int64) (hn : Bool) (fl : Bool) : Met l yX2_size wsX2_size ({ frames := 1, cells := 0, slots := 0, locals := 20 } : Room) (pcW D [(cy, .int)] [.ref aD] [(aD, .inr (2, [.ref aE, .ref aW, .ref aR, .int (bI fl)])), (aE, .inr (0, [.ref aK, .ref aV, .int (nI c)])), (aK, .inl (cy, 512, .inl k)), (aV, .inl (cy, 512, .inl v)), (aR, .inr (1, [.long lo, .int (bI li), .long hi, .int (bI hn)]))]) (qR (.int (nI c))) 0 0 (fun _ => False) := by
  refine met_W (cc := cX2_size) (maxL := 1) (ret := (some .int)) (by decide +kernel) rfl (Nat.le_of_ble_eq_true rfl) ?_
  intro pM eM s mM below meth cM ls hx hb hr hts hown hlocks hml hnm hK hP hl
  have hown : s.vm.findClass RX2 = some mM.cls := hown
  have hl : lv_has ls 1 [(0, .ref aD)] := hl
  have hin_X2 : ∀ w ∈ wsX20, w ∈ wsX2_size := by decide +kernel
  have kf_12 := hts (.fieldLink RX2 12 "OrderedDesk" "entries" "LOrderedDesk$Entries;") (by decide +kernel)
  have hP : va_P D vwCl [(aD, .inr (2, [.ref aE, .ref aW, .ref aR, .int (bI fl)])), (aE, .inr (0, [.ref aK, .ref aV, .int (nI c)])), (aK, .inl (cy, 512, .inl k)), (aV, .inl (cy, 512, .inl v)), (aR, .inr (1, [.long lo, .int (bI li), .long hi, .int (bI hn)]))] s.heap := hP
  refine lv_aload_n hx hb dX2_size_0 rfl (lv_at hl 0 rfl) ?_
  refine va_get (ci := 2) (v := .ref aE) (C := RX2) (T := TX2) (N := 4) hx hb hts hin_X2 hown hK hP 0 rfl rfl 0 (by decide) kf_12 (fun _ h9 => h9) rfl dX2_size_1 ?_
  refine go_R (va_runV (As := []) (rest := []) ⟨hx, hb, hml, hown, hts⟩ (c_X0_count l D cy aE aK aV k v c (by omega)) (cwV 0 hts gX2_size_X0_count rfl rfl rfl (by decide +kernel) ⟨(Nat.le_of_ble_eq_true rfl), (Nat.le_of_ble_eq_true rfl)⟩) (preV_W hK (hP.sub [1, 2, 3] rfl) 0 0 rfl rfl) rfl rfl hl.1 rfl (lv_room (Nat.le_of_ble_eq_true rfl)) dX2_size_4 ⟨(Nat.le_of_ble_eq_true rfl), (Nat.le_of_ble_eq_true rfl)⟩) ?_
  exact ret_i hx hb hr hlocks dX2_size_7 (rfl)

theorem tbl_out {w : Int32} (h0 : ¬ w = 0) (h1 : ¬ w = 1) (h2 : ¬ w = 2) (h3 : ¬ w = 3) (h4 : ¬ w = 4) (h5 : ¬ w = 5) : w.toInt < 0 ∨ 5 < w.toInt := by
  have a0 := lv_neT h0 (a := 0) (by decide)
  have a1 := lv_neT h1 (a := 1) (by decide)
  have a2 := lv_neT h2 (a := 2) (by decide)
  have a3 := lv_neT h3 (a := 3) (by decide)
  have a4 := lv_neT h4 (a := 4) (by decide)
  have a5 := lv_neT h5 (a := 5) (by decide)
  omega

set_option maxHeartbeats 4000000 in
set_option maxRecDepth 100000 in
/-- has(what, number) -/
theorem c_X2_has (l : Launch) (D : va_G) (cy : ClassId) (aD aE aK aV aW aR : Nat) (k v : Nat → Int32) (c : Nat) (hc : c ≤ 512) (lo : Int64) (li : Bool) (hi : Int64) (hn : Bool) (fl : Bool) (w x : Int32) : Met l yX2_has wsX2_has ({ frames := 2, cells := 0, slots := 0, locals := 45 } : Room) (pcW D [(cy, .int)] [.ref aD, .int w, .int x] [(aD, .inr (2, [.ref aE, .ref aW, .ref aR, .int (bI fl)])), (aE, .inr (0, [.ref aK, .ref aV, .int (nI c)])), (aK, .inl (cy, 512, .inl k)), (aV, .inl (cy, 512, .inl v)), (aR, .inr (1, [.long lo, .int (bI li), .long hi, .int (bI hn)]))]) (qR (.int (bI (hsD k v c w x)))) 0 0 (fun _ => False) := by
  refine met_W (cc := cX2_has) (maxL := 3) (ret := (some .boolean)) (by decide +kernel) rfl (Nat.le_of_ble_eq_true rfl) ?_
  intro pM eM s mM below meth cM ls hx hb hr hts hown hlocks hml hnm hK hP hl
  have hown : s.vm.findClass RX2 = some mM.cls := hown
  have hl : lv_has ls 3 [(0, .ref aD), (1, .int w), (2, .int x)] := hl
  have hin_X2 : ∀ w ∈ wsX20, w ∈ wsX2_has := by decide +kernel
  have kf_12 := hts (.fieldLink RX2 12 "OrderedDesk" "entries" "LOrderedDesk$Entries;") (by decide +kernel)
  have kc_44 := hts (.constantLong RX2 44 (1099511627776)) (by decide +kernel)
  have hP : va_P D vwCl [(aD, .inr (2, [.ref aE, .ref aW, .ref aR, .int (bI fl)])), (aE, .inr (0, [.ref aK, .ref aV, .int (nI c)])), (aK, .inl (cy, 512, .inl k)), (aV, .inl (cy, 512, .inl v)), (aR, .inr (1, [.long lo, .int (bI li), .long hi, .int (bI hn)]))] s.heap := hP
  refine lv_iload_n hx hb dX2_has_0 rfl (lv_at hl 1 rfl) ?_
  by_cases w0 : w = 0
  · refine top_i (y := 0) w0 ?_
    refine lv_lookup (off := 27) (tgt := 28) hx hb dX2_has_1 (by decide) (by decide) (by decide) ?_
    refine lv_aload_n hx hb dX2_has_28 rfl (lv_at hl 0 rfl) ?_
    refine va_get (ci := 2) (v := .ref aE) (C := RX2) (T := TX2) (N := 4) hx hb hts hin_X2 hown hK hP 0 rfl rfl 0 (by decide) kf_12 (fun _ h9 => h9) rfl dX2_has_29 ?_
    refine lv_iload_n hx hb dX2_has_32 rfl (lv_at hl 2 rfl) ?_
    refine go_R (va_runV (As := [.int x]) (rest := []) ⟨hx, hb, hml, hown, hts⟩ (c_X0_valueOf l D cy aE aK aV k v c (by omega) x) (cwV 1 hts gX2_has_X0_valueOf rfl rfl rfl (by decide +kernel) ⟨(Nat.le_of_ble_eq_true rfl), (Nat.le_of_ble_eq_true rfl)⟩) (preV_W hK (hP.sub [1, 2, 3] rfl) 0 0 rfl rfl) rfl rfl hl.1 rfl (lv_room (Nat.le_of_ble_eq_true rfl)) dX2_has_33 ⟨(Nat.le_of_ble_eq_true rfl), (Nat.le_of_ble_eq_true rfl)⟩) ?_
    refine lv_ldc2 hx hb hown kc_44 dX2_has_36 ?_
    refine l_eq (tgt := 47) hx hb dX2_has_39 dX2_has_40 (by decide) (fun h39 => ?_) (fun h39 => ?_)
    · have hz : hsD k v c w x = false := by unfold hsD; rw [if_pos w0, decide_eq_true h39]; rfl
      refine lv_iconst (v := bI false) hx hb dX2_has_47 (by decide) ?_
      exact ret_z hx hb hr hlocks dX2_has_48 (by rw [hz])
    · have hz : hsD k v c w x = true := by unfold hsD; rw [if_pos w0, decide_eq_false h39]; rfl
      refine lv_iconst (v := bI true) hx hb dX2_has_43 (by decide) ?_
      refine lv_goto (tgt := 48) hx hb dX2_has_44 (by decide) ?_
      exact ret_z hx hb hr hlocks dX2_has_48 (by rw [hz])
  by_cases w1 : w = 1
  · refine top_i (y := 1) w1 ?_
    refine lv_lookup (off := 48) (tgt := 49) hx hb dX2_has_1 (by decide) (by decide) (by decide) ?_
    have hz : hsD k v c w x = hasV v c x := by unfold hsD; rw [if_neg w0, if_pos w1]
    refine lv_aload_n hx hb dX2_has_49 rfl (lv_at hl 0 rfl) ?_
    refine va_get (ci := 2) (v := .ref aE) (C := RX2) (T := TX2) (N := 4) hx hb hts hin_X2 hown hK hP 0 rfl rfl 0 (by decide) kf_12 (fun _ h9 => h9) rfl dX2_has_50 ?_
    refine lv_iload_n hx hb dX2_has_53 rfl (lv_at hl 2 rfl) ?_
    refine go_R (va_runV (As := [.int x]) (rest := []) ⟨hx, hb, hml, hown, hts⟩ (c_X0_holdsValue l D cy aE aK aV k v c (by omega) x) (cwV 1 hts gX2_has_X0_holdsValue rfl rfl rfl (by decide +kernel) ⟨(Nat.le_of_ble_eq_true rfl), (Nat.le_of_ble_eq_true rfl)⟩) (preV_W hK (hP.sub [1, 2, 3] rfl) 0 0 rfl rfl) rfl rfl hl.1 rfl (lv_room (Nat.le_of_ble_eq_true rfl)) dX2_has_54 ⟨(Nat.le_of_ble_eq_true rfl), (Nat.le_of_ble_eq_true rfl)⟩) ?_
    exact ret_z hx hb hr hlocks dX2_has_57 (by rw [hz])
  refine lv_lookup (off := 57) (tgt := 58) hx hb dX2_has_1 (by decide) ((lv_osw w0 (by decide)).trans ((lv_osw w1 (by decide)).trans (rfl))) (by decide) ?_
  have hz : hsD k v c w x = false := by unfold hsD; rw [if_neg w0, if_neg w1]
  refine lv_iconst (v := bI false) hx hb dX2_has_58 (by decide) ?_
  exact ret_z hx hb hr hlocks dX2_has_59 (by rw [hz])

set_option maxHeartbeats 4000000 in
set_option maxRecDepth 100000 in
/-- viewBegin() -/
theorem c_X2_viewBegin (l : Launch) (D : va_G) (cy : ClassId) (aD aE aK aV aW aR : Nat) (k v : Nat → Int32) (c : Nat) (hc : c ≤ 512) (lo : Int64) (li : Bool) (hi : Int64) (hn : Bool) (fl : Bool) : Met l yX2_viewBegin wsX2_viewBegin ({ frames := 1, cells := 0, slots := 0, locals := 23 } : Room) (pcW D [(cy, .int)] [.ref aD] [(aD, .inr (2, [.ref aE, .ref aW, .ref aR, .int (bI fl)])), (aE, .inr (0, [.ref aK, .ref aV, .int (nI c)])), (aK, .inl (cy, 512, .inl k)), (aV, .inl (cy, 512, .inl v)), (aR, .inr (1, [.long lo, .int (bI li), .long hi, .int (bI hn)]))]) (qR (.int (nI (vB k c lo li)))) 0 0 (fun _ => False) := by
  refine met_W (cc := cX2_viewBegin) (maxL := 1) (ret := (some .int)) (by decide +kernel) rfl (Nat.le_of_ble_eq_true rfl) ?_
  intro pM eM s mM below meth cM ls hx hb hr hts hown hlocks hml hnm hK hP hl
  have hown : s.vm.findClass RX2 = some mM.cls := hown
  have hl : lv_has ls 1 [(0, .ref aD)] := hl
  have hin_X2 : ∀ w ∈ wsX20, w ∈ wsX2_viewBegin := by decide +kernel
  have kf_12 := hts (.fieldLink RX2 12 "OrderedDesk" "entries" "LOrderedDesk$Entries;") (by decide +kernel)
  have kf_29 := hts (.fieldLink RX2 29 "OrderedDesk" "range" "LOrderedDesk$Range;") (by decide +kernel)
  have hP : va_P D vwCl [(aD, .inr (2, [.ref aE, .ref aW, .ref aR, .int (bI fl)])), (aE, .inr (0, [.ref aK, .ref aV, .int (nI c)])), (aK, .inl (cy, 512, .inl k)), (aV, .inl (cy, 512, .inl v)), (aR, .inr (1, [.long lo, .int (bI li), .long hi, .int (bI hn)]))] s.heap := hP
  refine lv_aload_n hx hb dX2_viewBegin_0 rfl (lv_at hl 0 rfl) ?_
  refine va_get (ci := 2) (v := .ref aE) (C := RX2) (T := TX2) (N := 4) hx hb hts hin_X2 hown hK hP 0 rfl rfl 0 (by decide) kf_12 (fun _ h9 => h9) rfl dX2_viewBegin_1 ?_
  refine lv_aload_n hx hb dX2_viewBegin_4 rfl (lv_at hl 0 rfl) ?_
  refine va_get (ci := 2) (v := .ref aR) (C := RX2) (T := TX2) (N := 4) hx hb hts hin_X2 hown hK hP 0 rfl rfl 2 (by decide) kf_29 (fun _ h9 => h9) rfl dX2_viewBegin_5 ?_
  refine go_R (va_runV (As := []) (rest := [.ref aE]) ⟨hx, hb, hml, hown, hts⟩ (c_X1_start l D cy aR lo li hi hn) (cwV 0 hts gX2_viewBegin_X1_start rfl rfl rfl (by decide +kernel) ⟨(Nat.le_of_ble_eq_true rfl), (Nat.le_of_ble_eq_true rfl)⟩) (preV_W hK (hP.sub [4] rfl) 0 1 rfl rfl) rfl rfl hl.1 rfl (lv_room (Nat.le_of_ble_eq_true rfl)) dX2_viewBegin_8 ⟨(Nat.le_of_ble_eq_true rfl), (Nat.le_of_ble_eq_true rfl)⟩) ?_
  refine go_R (va_runV (As := [.long (stR lo li)]) (rest := []) ⟨hx, hb, hml, hown, hts⟩ (c_X0_placeOf l D cy aE aK aV k v c (by omega) (stR lo li)) (cwV 1 hts gX2_viewBegin_X0_placeOf rfl rfl rfl (by decide +kernel) ⟨(Nat.le_of_ble_eq_true rfl), (Nat.le_of_ble_eq_true rfl)⟩) (preV_W hK (hP.sub [1, 2, 3] rfl) 0 0 rfl rfl) rfl rfl hl.1 rfl (lv_room (Nat.le_of_ble_eq_true rfl)) dX2_viewBegin_11 ⟨(Nat.le_of_ble_eq_true rfl), (Nat.le_of_ble_eq_true rfl)⟩) ?_
  exact ret_i hx hb hr hlocks dX2_viewBegin_14 (rfl)

set_option maxHeartbeats 4000000 in
set_option maxRecDepth 100000 in
/-- viewEnd() -/
theorem c_X2_viewEnd (l : Launch) (D : va_G) (cy : ClassId) (aD aE aK aV aW aR : Nat) (k v : Nat → Int32) (c : Nat) (hc : c ≤ 512) (lo : Int64) (li : Bool) (hi : Int64) (hn : Bool) (fl : Bool) : Met l yX2_viewEnd wsX2_viewEnd ({ frames := 2, cells := 0, slots := 0, locals := 43 } : Room) (pcW D [(cy, .int)] [.ref aD] [(aD, .inr (2, [.ref aE, .ref aW, .ref aR, .int (bI fl)])), (aE, .inr (0, [.ref aK, .ref aV, .int (nI c)])), (aK, .inl (cy, 512, .inl k)), (aV, .inl (cy, 512, .inl v)), (aR, .inr (1, [.long lo, .int (bI li), .long hi, .int (bI hn)]))]) (qR (.int (nI (vE k c lo li hi hn)))) 0 0 (fun _ => False) := by
  refine met_W (cc := cX2_viewEnd) (maxL := 1) (ret := (some .int)) (by decide +kernel) rfl (Nat.le_of_ble_eq_true rfl) ?_
  intro pM eM s mM below meth cM ls hx hb hr hts hown hlocks hml hnm hK hP hl
  have hown : s.vm.findClass RX2 = some mM.cls := hown
  have hl : lv_has ls 1 [(0, .ref aD)] := hl
  have hin_X2 : ∀ w ∈ wsX20, w ∈ wsX2_viewEnd := by decide +kernel
  have kf_12 := hts (.fieldLink RX2 12 "OrderedDesk" "entries" "LOrderedDesk$Entries;") (by decide +kernel)
  have kf_29 := hts (.fieldLink RX2 29 "OrderedDesk" "range" "LOrderedDesk$Range;") (by decide +kernel)
  have hP : va_P D vwCl [(aD, .inr (2, [.ref aE, .ref aW, .ref aR, .int (bI fl)])), (aE, .inr (0, [.ref aK, .ref aV, .int (nI c)])), (aK, .inl (cy, 512, .inl k)), (aV, .inl (cy, 512, .inl v)), (aR, .inr (1, [.long lo, .int (bI li), .long hi, .int (bI hn)]))] s.heap := hP
  have q1 := vB_le k c lo li
  have q2 := plc_le k c (spR hi hn)
  refine lv_aload_n hx hb dX2_viewEnd_0 rfl (lv_at hl 0 rfl) ?_
  refine go_R (va_runV (As := []) (rest := []) ⟨hx, hb, hml, hown, hts⟩ (c_X2_viewBegin l D cy aD aE aK aV aW aR k v c (by omega) lo li hi hn fl) (cwV 0 hts gX2_viewEnd_X2_viewBegin rfl rfl rfl (by decide +kernel) ⟨(Nat.le_of_ble_eq_true rfl), (Nat.le_of_ble_eq_true rfl)⟩) (preV_W hK (hP.sub [0, 1, 2, 3, 4] rfl) 0 2 rfl rfl) rfl rfl hl.1 rfl (lv_room (Nat.le_of_ble_eq_true rfl)) dX2_viewEnd_1 ⟨(Nat.le_of_ble_eq_true rfl), (Nat.le_of_ble_eq_true rfl)⟩) ?_
  refine lv_aload_n hx hb dX2_viewEnd_4 rfl (lv_at hl 0 rfl) ?_
  refine va_get (ci := 2) (v := .ref aE) (C := RX2) (T := TX2) (N := 4) hx hb hts hin_X2 hown hK hP 0 rfl rfl 0 (by decide) kf_12 (fun _ h9 => h9) rfl dX2_viewEnd_5 ?_
  refine lv_aload_n hx hb dX2_viewEnd_8 rfl (lv_at hl 0 rfl) ?_
  refine va_get (ci := 2) (v := .ref aR) (C := RX2) (T := TX2) (N := 4) hx hb hts hin_X2 hown hK hP 0 rfl rfl 2 (by decide) kf_29 (fun _ h9 => h9) rfl dX2_viewEnd_9 ?_
  refine go_R (va_runV (As := []) (rest := [.ref aE, .int (nI (vB k c lo li))]) ⟨hx, hb, hml, hown, hts⟩ (c_X1_stop l D cy aR lo li hi hn) (cwV 0 hts gX2_viewEnd_X1_stop rfl rfl rfl (by decide +kernel) ⟨(Nat.le_of_ble_eq_true rfl), (Nat.le_of_ble_eq_true rfl)⟩) (preV_W hK (hP.sub [4] rfl) 0 1 rfl rfl) rfl rfl hl.1 rfl (lv_room (Nat.le_of_ble_eq_true rfl)) dX2_viewEnd_12 ⟨(Nat.le_of_ble_eq_true rfl), (Nat.le_of_ble_eq_true rfl)⟩) ?_
  refine go_R (va_runV (As := [.long (spR hi hn)]) (rest := [.int (nI (vB k c lo li))]) ⟨hx, hb, hml, hown, hts⟩ (c_X0_placeOf l D cy aE aK aV k v c (by omega) (spR hi hn)) (cwV 1 hts gX2_viewEnd_X0_placeOf rfl rfl rfl (by decide +kernel) ⟨(Nat.le_of_ble_eq_true rfl), (Nat.le_of_ble_eq_true rfl)⟩) (preV_W hK (hP.sub [1, 2, 3] rfl) 0 0 rfl rfl) rfl rfl hl.1 rfl (lv_room (Nat.le_of_ble_eq_true rfl)) dX2_viewEnd_15 ⟨(Nat.le_of_ble_eq_true rfl), (Nat.le_of_ble_eq_true rfl)⟩) ?_
  refine va_mmax hx hb (by rw [hml]; exact hl.1.symm) hown (hts (.methodLink RX2 110 Lib.Math.max.name) (by decide +kernel)) (hts (.static Lib.Math.max.name) (by decide +kernel)) (hts (.initialized "java/lang/Math") (by decide +kernel)) (hts (.code Lib.Math.max.name Lib.Math.max.code 2 (some .int)) (by decide +kernel)) (Nat.le_of_ble_eq_true rfl) (Nat.le_of_ble_eq_true rfl) (Nat.le_of_ble_eq_true rfl) (Nat.le_of_ble_eq_true rfl) dX2_viewEnd_18 ?_
  refine top_i (y := nI (max (vB k c lo li) (plc k c (spR hi hn)))) (nI_max (by omega) (by omega)) ?_
  exact ret_i hx hb hr hlocks dX2_viewEnd_21 (rfl)

set_option maxHeartbeats 4000000 in
set_option maxRecDepth 100000 in
/-- viewSize() -/
theorem c_X2_viewSize (l : Launch) (D : va_G) (cy : ClassId) (aD aE aK aV aW aR : Nat) (k v : Nat → Int32) (c : Nat) (hc : c ≤ 512) (lo : Int64) (li : Bool) (hi : Int64) (hn : Bool) (fl : Bool) : Met l yX2_viewSize wsX2_viewSize ({ frames := 3, cells := 0, slots := 0, locals := 63 } : Room) (pcW D [(cy, .int)] [.ref aD] [(aD, .inr (2, [.ref aE, .ref aW, .ref aR, .int (bI fl)])), (aE, .inr (0, [.ref aK, .ref aV, .int (nI c)])), (aK, .inl (cy, 512, .inl k)), (aV, .inl (cy, 512, .inl v)), (aR, .inr (1, [.long lo, .int (bI li), .long hi, .int (bI hn)]))]) (qR (.int (nI (vE k c lo li hi hn - vB k c lo li)))) 0 0 (fun _ => False) := by
  refine met_W (cc := cX2_viewSize) (maxL := 1) (ret := (some .int)) (by decide +kernel) rfl (Nat.le_of_ble_eq_true rfl) ?_
  intro pM eM s mM below meth cM ls hx hb hr hts hown hlocks hml hnm hK hP hl
  have hown : s.vm.findClass RX2 = some mM.cls := hown
  have hl : lv_has ls 1 [(0, .ref aD)] := hl
  have hP : va_P D vwCl [(aD, .inr (2, [.ref aE, .ref aW, .ref aR, .int (bI fl)])), (aE, .inr (0, [.ref aK, .ref aV, .int (nI c)])), (aK, .inl (cy, 512, .inl k)), (aV, .inl (cy, 512, .inl v)), (aR, .inr (1, [.long lo, .int (bI li), .long hi, .int (bI hn)]))] s.heap := hP
  have q1 := vB_le k c lo li
  have q2 := vE_le k c lo li hi hn
  have q3 := vBE k c lo li hi hn
  refine lv_aload_n hx hb dX2_viewSize_0 rfl (lv_at hl 0 rfl) ?_
  refine go_R (va_runV (As := []) (rest := []) ⟨hx, hb, hml, hown, hts⟩ (c_X2_viewEnd l D cy aD aE aK aV aW aR k v c (by omega) lo li hi hn fl) (cwV 0 hts gX2_viewSize_X2_viewEnd rfl rfl rfl (by decide +kernel) ⟨(Nat.le_of_ble_eq_true rfl), (Nat.le_of_ble_eq_true rfl)⟩) (preV_W hK (hP.sub [0, 1, 2, 3, 4] rfl) 0 2 rfl rfl) rfl rfl hl.1 rfl (lv_room (Nat.le_of_ble_eq_true rfl)) dX2_viewSize_1 ⟨(Nat.le_of_ble_eq_true rfl), (Nat.le_of_ble_eq_true rfl)⟩) ?_
  refine lv_aload_n hx hb dX2_viewSize_4 rfl (lv_at hl 0 rfl) ?_
  refine go_R (va_runV (As := []) (rest := [.int (nI (vE k c lo li hi hn))]) ⟨hx, hb, hml, hown, hts⟩ (c_X2_viewBegin l D cy aD aE aK aV aW aR k v c (by omega) lo li hi hn fl) (cwV 0 hts gX2_viewSize_X2_viewBegin rfl rfl rfl (by decide +kernel) ⟨(Nat.le_of_ble_eq_true rfl), (Nat.le_of_ble_eq_true rfl)⟩) (preV_W hK (hP.sub [0, 1, 2, 3, 4] rfl) 0 2 rfl rfl) rfl rfl hl.1 rfl (lv_room (Nat.le_of_ble_eq_true rfl)) dX2_viewSize_5 ⟨(Nat.le_of_ble_eq_true rfl), (Nat.le_of_ble_eq_true rfl)⟩) ?_
  refine lv_isub hx hb dX2_viewSize_8 ?_
  refine top_i (y := nI ((vE k c lo li hi hn) - (vB k c lo li))) (pk_sub (by omega)) ?_
  exact ret_i hx hb hr hlocks dX2_viewSize_9 (rfl)

set_option maxHeartbeats 4000000 in
set_option maxRecDepth 100000 in
/-- keyWithin(place, begin, end) -/
theorem c_X2_keyWithin (l : Launch) (D : va_G) (cy : ClassId) (aD aE aK aV aW aR : Nat) (k v : Nat → Int32) (c : Nat) (hc : c ≤ 512) (lo : Int64) (li : Bool) (hi : Int64) (hn : Bool) (fl : Bool) (x : Int32) (b f : Nat) (hb2 : b ≤ 512) (hf2 : f ≤ c) : Met l yX2_keyWithin wsX2_keyWithin ({ frames := 1, cells := 0, slots := 0, locals := 21 } : Room) (pcW D [(cy, .int)] [.ref aD, .int x, .int (nI b), .int (nI f)] [(aD, .inr (2, [.ref aE, .ref aW, .ref aR, .int (bI fl)])), (aE, .inr (0, [.ref aK, .ref aV, .int (nI c)])), (aK, .inl (cy, 512, .inl k)), (aV, .inl (cy, 512, .inl v)), (aR, .inr (1, [.long lo, .int (bI li), .long hi, .int (bI hn)]))]) (qR (.long (kW k x.toInt b f))) 0 0 (fun _ => False) := by
  refine met_W (cc := cX2_keyWithin) (maxL := 4) (ret := (some .long)) (by decide +kernel) rfl (Nat.le_of_ble_eq_true rfl) ?_
  intro pM eM s mM below meth cM ls hx hb hr hts hown hlocks hml hnm hK hP hl
  have hown : s.vm.findClass RX2 = some mM.cls := hown
  have hl : lv_has ls 4 [(0, .ref aD), (1, .int x), (2, .int (nI b)), (3, .int (nI f))] := hl
  have hin_X2 : ∀ w ∈ wsX20, w ∈ wsX2_keyWithin := by decide +kernel
  have kf_12 := hts (.fieldLink RX2 12 "OrderedDesk" "entries" "LOrderedDesk$Entries;") (by decide +kernel)
  have kc_44 := hts (.constantLong RX2 44 (1099511627776)) (by decide +kernel)
  have hP : va_P D vwCl [(aD, .inr (2, [.ref aE, .ref aW, .ref aR, .int (bI fl)])), (aE, .inr (0, [.ref aK, .ref aV, .int (nI c)])), (aK, .inl (cy, 512, .inl k)), (aV, .inl (cy, 512, .inl v)), (aR, .inr (1, [.long lo, .int (bI li), .long hi, .int (bI hn)]))] s.heap := hP
  refine lv_iload_n hx hb dX2_keyWithin_0 rfl (lv_at hl 1 rfl) ?_
  refine lv_iload_n hx hb dX2_keyWithin_1 rfl (lv_at hl 2 rfl) ?_
  refine lv_icmp_lt (tgt := 21) hx hb dX2_keyWithin_2 (by decide) (fun h2 => ?_) (fun h2 => ?_)
  · have hz : kW k x.toInt b f = NO := kW_no (by rw [Int32.lt_iff_toInt_lt, nI_toInt (by omega)] at h2; omega)
    refine lv_ldc2 hx hb hown kc_44 dX2_keyWithin_21 ?_
    exact ret_l hx hb hr hlocks dX2_keyWithin_24 (by rw [hz])
  · refine lv_iload_n hx hb dX2_keyWithin_5 rfl (lv_at hl 1 rfl) ?_
    refine lv_iload_n hx hb dX2_keyWithin_6 rfl (lv_at hl 3 rfl) ?_
    refine lv_icmp_ge (tgt := 21) hx hb dX2_keyWithin_7 (by decide) (fun h7 => ?_) (fun h7 => ?_)
    · have hz : kW k x.toInt b f = NO := kW_no (by rw [Int32.le_iff_toInt_le, nI_toInt (by omega)] at h7; omega)
      refine lv_ldc2 hx hb hown kc_44 dX2_keyWithin_21 ?_
      exact ret_l hx hb hr hlocks dX2_keyWithin_24 (by rw [hz])
    · have hz : kW k x.toInt b f = kW k x.toInt 0 c := by rw [Int32.lt_iff_toInt_lt, nI_toInt (by omega)] at h2; rw [Int32.le_iff_toInt_le, nI_toInt (by omega)] at h7; unfold kW; rw [if_pos (by omega), if_pos (by omega)]
      refine lv_aload_n hx hb dX2_keyWithin_10 rfl (lv_at hl 0 rfl) ?_
      refine va_get (ci := 2) (v := .ref aE) (C := RX2) (T := TX2) (N := 4) hx hb hts hin_X2 hown hK hP 0 rfl rfl 0 (by decide) kf_12 (fun _ h9 => h9) rfl dX2_keyWithin_11 ?_
      refine lv_iload_n hx hb dX2_keyWithin_14 rfl (lv_at hl 1 rfl) ?_
      refine go_R (va_runV (As := [.int x]) (rest := []) ⟨hx, hb, hml, hown, hts⟩ (c_X0_keyAt l D cy aE aK aV k v c (by omega) x) (cwV 1 hts gX2_keyWithin_X0_keyAt rfl rfl rfl (by decide +kernel) ⟨(Nat.le_of_ble_eq_true rfl), (Nat.le_of_ble_eq_true rfl)⟩) (preV_W hK (hP.sub [1, 2, 3] rfl) 0 0 rfl rfl) rfl rfl hl.1 rfl (lv_room (Nat.le_of_ble_eq_true rfl)) dX2_keyWithin_15 ⟨(Nat.le_of_ble_eq_true rfl), (Nat.le_of_ble_eq_true rfl)⟩) ?_
      refine lv_goto (tgt := 24) hx hb dX2_keyWithin_18 (by decide) ?_
      exact ret_l hx hb hr hlocks dX2_keyWithin_24 (by rw [hz])

set_option maxHeartbeats 4000000 in
set_option maxRecDepth 100000 in
/-- keyNear(what, key, begin, end) -/
theorem c_X2_keyNear (l : Launch) (D : va_G) (cy : ClassId) (aD aE aK aV aW aR : Nat) (k v : Nat → Int32) (c : Nat) (hc : c ≤ 512) (lo : Int64) (li : Bool) (hi : Int64) (hn : Bool) (fl : Bool) (w x : Int32) (b f : Nat) (hb2 : b ≤ 512) (hf2 : f ≤ c) : Met l yX2_keyNear wsX2_keyNear ({ frames := 2, cells := 0, slots := 0, locals := 44 } : Room) (pcW D [(cy, .int)] [.ref aD, .int w, .int x, .int (nI b), .int (nI f)] [(aD, .inr (2, [.ref aE, .ref aW, .ref aR, .int (bI fl)])), (aE, .inr (0, [.ref aK, .ref aV, .int (nI c)])), (aK, .inl (cy, 512, .inl k)), (aV, .inl (cy, 512, .inl v)), (aR, .inr (1, [.long lo, .int (bI li), .long hi, .int (bI hn)]))]) (qR (.long (kN k c w x b f))) 0 0 (fun _ => False) := by
  refine met_W (cc := cX2_keyNear) (maxL := 7) (ret := (some .long)) (by decide +kernel) rfl (Nat.le_of_ble_eq_true rfl) ?_
  intro pM eM s mM below meth cM ls hx hb hr hts hown hlocks hml hnm hK hP hl
  have hown : s.vm.findClass RX2 = some mM.cls := hown
  have hl : lv_has ls 7 [(0, .ref aD), (1, .int w), (2, .int x), (3, .int (nI b)), (4, .int (nI f))] := hl
  have hin_X2 : ∀ w ∈ wsX20, w ∈ wsX2_keyNear := by decide +kernel
  have kf_12 := hts (.fieldLink RX2 12 "OrderedDesk" "entries" "LOrderedDesk$Entries;") (by decide +kernel)
  have kc_44 := hts (.constantLong RX2 44 (1099511627776)) (by decide +kernel)
  have hP : va_P D vwCl [(aD, .inr (2, [.ref aE, .ref aW, .ref aR, .int (bI fl)])), (aE, .inr (0, [.ref aK, .ref aV, .int (nI c)])), (aK, .inl (cy, 512, .inl k)), (aV, .inl (cy, 512, .inl v)), (aR, .inr (1, [.long lo, .int (bI li), .long hi, .int (bI hn)]))] s.heap := hP
  have q1 := plc_le k c x.toInt64
  have q2 := plc_le k c (x.toInt64 + 1)
  refine lv_aload_n hx hb dX2_keyNear_0 rfl (lv_at hl 0 rfl) ?_
  refine va_get (ci := 2) (v := .ref aE) (C := RX2) (T := TX2) (N := 4) hx hb hts hin_X2 hown hK hP 0 rfl rfl 0 (by decide) kf_12 (fun _ h9 => h9) rfl dX2_keyNear_1 ?_
  refine lv_iload_n hx hb dX2_keyNear_4 rfl (lv_at hl 2 rfl) ?_
  refine lv_i2l hx hb dX2_keyNear_5 rfl ?_
  refine go_R (va_runV (As := [.long x.toInt64]) (rest := []) ⟨hx, hb, hml, hown, hts⟩ (c_X0_placeOf l D cy aE aK aV k v c (by omega) x.toInt64) (cwV 1 hts gX2_keyNear_X0_placeOf rfl rfl rfl (by decide +kernel) ⟨(Nat.le_of_ble_eq_true rfl), (Nat.le_of_ble_eq_true rfl)⟩) (preV_W hK (hP.sub [1, 2, 3] rfl) 0 0 rfl rfl) rfl rfl hl.1 rfl (lv_room (Nat.le_of_ble_eq_true rfl)) dX2_keyNear_6 ⟨(Nat.le_of_ble_eq_true rfl), (Nat.le_of_ble_eq_true rfl)⟩) ?_
  refine lv_istore (lv' := [(5, .int (nI (plc k c x.toInt64))), (0, .ref aD), (1, .int w), (2, .int x), (3, .int (nI b)), (4, .int (nI f))]) hx hb dX2_keyNear_9 hl (by decide) rfl (fun ls hl => ?_)
  refine lv_aload_n hx hb dX2_keyNear_11 rfl (lv_at hl 1 rfl) ?_
  refine va_get (ci := 2) (v := .ref aE) (C := RX2) (T := TX2) (N := 4) hx hb hts hin_X2 hown hK hP 0 rfl rfl 0 (by decide) kf_12 (fun _ h9 => h9) rfl dX2_keyNear_12 ?_
  refine lv_iload_n hx hb dX2_keyNear_15 rfl (lv_at hl 3 rfl) ?_
  refine lv_i2l hx hb dX2_keyNear_16 rfl ?_
  refine lv_lconst (v := 1) hx hb dX2_keyNear_17 (by decide) ?_
  refine lv_ladd hx hb dX2_keyNear_18 ?_
  refine go_R (va_runV (As := [.long (x.toInt64 + 1)]) (rest := []) ⟨hx, hb, hml, hown, hts⟩ (c_X0_placeOf l D cy aE aK aV k v c (by omega) (x.toInt64 + 1)) (cwV 1 hts gX2_keyNear_X0_placeOf rfl rfl rfl (by decide +kernel) ⟨(Nat.le_of_ble_eq_true rfl), (Nat.le_of_ble_eq_true rfl)⟩) (preV_W hK (hP.sub [1, 2, 3] rfl) 0 0 rfl rfl) rfl rfl hl.1 rfl (lv_room (Nat.le_of_ble_eq_true rfl)) dX2_keyNear_19 ⟨(Nat.le_of_ble_eq_true rfl), (Nat.le_of_ble_eq_true rfl)⟩) ?_
  refine lv_istore (lv' := [(6, .int (nI (plc k c (x.toInt64 + 1)))), (5, .int (nI (plc k c x.toInt64))), (0, .ref aD), (1, .int w), (2, .int x), (3, .int (nI b)), (4, .int (nI f))]) hx hb dX2_keyNear_22 hl (by decide) rfl (fun ls hl => ?_)
  refine lv_iload_n hx hb dX2_keyNear_24 rfl (lv_at hl 3 rfl) ?_
  by_cases w0 : w = 0
  · refine top_i (y := 0) w0 ?_
    refine lv_tableIn (off := 39) (tgt := 64) hx hb dX2_keyNear_25 (by decide) (by decide) (by decide) (by decide) ?_
    have hz : kN k c w x b f = kW k ((min (plc k c (x.toInt64 + 1)) f : Nat) - 1 : Int) b f := by unfold kN; rw [if_pos w0]
    refine lv_aload_n hx hb dX2_keyNear_64 rfl (lv_at hl 2 rfl) ?_
    refine lv_iload hx hb dX2_keyNear_65 (lv_at hl 0 rfl) ?_
    refine lv_iload hx hb dX2_keyNear_67 (lv_at hl 6 rfl) ?_
    refine va_mmin hx hb (by rw [hml]; exact hl.1.symm) hown (hts (.methodLink RX2 115 Lib.Math.min.name) (by decide +kernel)) (hts (.static Lib.Math.min.name) (by decide +kernel)) (hts (.initialized "java/lang/Math") (by decide +kernel)) (hts (.code Lib.Math.min.name Lib.Math.min.code 2 (some .int)) (by decide +kernel)) (Nat.le_of_ble_eq_true rfl) (Nat.le_of_ble_eq_true rfl) (Nat.le_of_ble_eq_true rfl) (Nat.le_of_ble_eq_true rfl) dX2_keyNear_69 ?_
    refine top_i (y := nI (min (plc k c (x.toInt64 + 1)) f)) (nI_min (by omega) (by omega)) ?_
    refine lv_iconst (v := 1) hx hb dX2_keyNear_72 (by decide) ?_
    refine lv_isub hx hb dX2_keyNear_73 ?_
    refine lv_iload_n hx hb dX2_keyNear_74 rfl (lv_at hl 5 rfl) ?_
    refine lv_iload hx hb dX2_keyNear_75 (lv_at hl 6 rfl) ?_
    refine go_R (va_runV (As := [.int ((nI (min (plc k c (x.toInt64 + 1)) f)) - 1), .int (nI b), .int (nI f)]) (rest := []) ⟨hx, hb, hml, hown, hts⟩ (c_X2_keyWithin l D cy aD aE aK aV aW aR k v c (by omega) lo li hi hn fl ((nI (min (plc k c (x.toInt64 + 1)) f)) - 1) b f (by omega) (by omega)) (cwV 3 hts gX2_keyNear_X2_keyWithin rfl rfl rfl (by decide +kernel) ⟨(Nat.le_of_ble_eq_true rfl), (Nat.le_of_ble_eq_true rfl)⟩) (preV_W hK (hP.sub [0, 1, 2, 3, 4] rfl) 0 2 rfl rfl) rfl rfl hl.1 rfl (lv_room (Nat.le_of_ble_eq_true rfl)) dX2_keyNear_77 ⟨(Nat.le_of_ble_eq_true rfl), (Nat.le_of_ble_eq_true rfl)⟩) ?_
    exact ret_l hx hb hr hlocks dX2_keyNear_80 (by first | (rw [hz]; done) | (rw [hz, nI_toInt (by omega)]; done) | (rw [hz, nI_m1I (by omega)]; done))
  by_cases w1 : w = 1
  · refine top_i (y := 1) w1 ?_
    refine lv_tableIn (off := 56) (tgt := 81) hx hb dX2_keyNear_25 (by decide) (by decide) (by decide) (by decide) ?_
    have hz : kN k c w x b f = kW k ((max (plc k c x.toInt64) b : Nat) : Int) b f := by unfold kN; rw [if_neg w0, if_pos w1]
    refine lv_aload_n hx hb dX2_keyNear_81 rfl (lv_at hl 2 rfl) ?_
    refine lv_iload hx hb dX2_keyNear_82 (lv_at hl 1 rfl) ?_
    refine lv_iload_n hx hb dX2_keyNear_84 rfl (lv_at hl 5 rfl) ?_
    refine va_mmax hx hb (by rw [hml]; exact hl.1.symm) hown (hts (.methodLink RX2 110 Lib.Math.max.name) (by decide +kernel)) (hts (.static Lib.Math.max.name) (by decide +kernel)) (hts (.initialized "java/lang/Math") (by decide +kernel)) (hts (.code Lib.Math.max.name Lib.Math.max.code 2 (some .int)) (by decide +kernel)) (Nat.le_of_ble_eq_true rfl) (Nat.le_of_ble_eq_true rfl) (Nat.le_of_ble_eq_true rfl) (Nat.le_of_ble_eq_true rfl) dX2_keyNear_85 ?_
    refine top_i (y := nI (max (plc k c x.toInt64) b)) (nI_max (by omega) (by omega)) ?_
    refine lv_iload_n hx hb dX2_keyNear_88 rfl (lv_at hl 5 rfl) ?_
    refine lv_iload hx hb dX2_keyNear_89 (lv_at hl 6 rfl) ?_
    refine go_R (va_runV (As := [.int (nI (max (plc k c x.toInt64) b)), .int (nI b), .int (nI f)]) (rest := []) ⟨hx, hb, hml, hown, hts⟩ (c_X2_keyWithin l D cy aD aE aK aV aW aR k v c (by omega) lo li hi hn fl (nI (max (plc k c x.toInt64) b)) b f (by omega) (by omega)) (cwV 3 hts gX2_keyNear_X2_keyWithin rfl rfl rfl (by decide +kernel) ⟨(Nat.le_of_ble_eq_true rfl), (Nat.le_of_ble_eq_true rfl)⟩) (preV_W hK (hP.sub [0, 1, 2, 3, 4] rfl) 0 2 rfl rfl) rfl rfl hl.1 rfl (lv_room (Nat.le_of_ble_eq_true rfl)) dX2_keyNear_91 ⟨(Nat.le_of_ble_eq_true rfl), (Nat.le_of_ble_eq_true rfl)⟩) ?_
    exact ret_l hx hb hr hlocks dX2_keyNear_94 (by first | (rw [hz]; done) | (rw [hz, nI_toInt (by omega)]; done) | (rw [hz, nI_m1I (by omega)]; done))
  by_cases w2 : w = 2
  · refine top_i (y := 2) w2 ?_
    refine lv_tableIn (off := 70) (tgt := 95) hx hb dX2_keyNear_25 (by decide) (by decide) (by decide) (by decide) ?_
    have hz : kN k c w x b f = kW k ((min (plc k c x.toInt64) f : Nat) - 1 : Int) b f := by unfold kN; rw [if_neg w0, if_neg w1, if_pos w2]
    refine lv_aload_n hx hb dX2_keyNear_95 rfl (lv_at hl 2 rfl) ?_
    refine lv_iload hx hb dX2_keyNear_96 (lv_at hl 1 rfl) ?_
    refine lv_iload hx hb dX2_keyNear_98 (lv_at hl 6 rfl) ?_
    refine va_mmin hx hb (by rw [hml]; exact hl.1.symm) hown (hts (.methodLink RX2 115 Lib.Math.min.name) (by decide +kernel)) (hts (.static Lib.Math.min.name) (by decide +kernel)) (hts (.initialized "java/lang/Math") (by decide +kernel)) (hts (.code Lib.Math.min.name Lib.Math.min.code 2 (some .int)) (by decide +kernel)) (Nat.le_of_ble_eq_true rfl) (Nat.le_of_ble_eq_true rfl) (Nat.le_of_ble_eq_true rfl) (Nat.le_of_ble_eq_true rfl) dX2_keyNear_100 ?_
    refine top_i (y := nI (min (plc k c x.toInt64) f)) (nI_min (by omega) (by omega)) ?_
    refine lv_iconst (v := 1) hx hb dX2_keyNear_103 (by decide) ?_
    refine lv_isub hx hb dX2_keyNear_104 ?_
    refine lv_iload_n hx hb dX2_keyNear_105 rfl (lv_at hl 5 rfl) ?_
    refine lv_iload hx hb dX2_keyNear_106 (lv_at hl 6 rfl) ?_
    refine go_R (va_runV (As := [.int ((nI (min (plc k c x.toInt64) f)) - 1), .int (nI b), .int (nI f)]) (rest := []) ⟨hx, hb, hml, hown, hts⟩ (c_X2_keyWithin l D cy aD aE aK aV aW aR k v c (by omega) lo li hi hn fl ((nI (min (plc k c x.toInt64) f)) - 1) b f (by omega) (by omega)) (cwV 3 hts gX2_keyNear_X2_keyWithin rfl rfl rfl (by decide +kernel) ⟨(Nat.le_of_ble_eq_true rfl), (Nat.le_of_ble_eq_true rfl)⟩) (preV_W hK (hP.sub [0, 1, 2, 3, 4] rfl) 0 2 rfl rfl) rfl rfl hl.1 rfl (lv_room (Nat.le_of_ble_eq_true rfl)) dX2_keyNear_108 ⟨(Nat.le_of_ble_eq_true rfl), (Nat.le_of_ble_eq_true rfl)⟩) ?_
    exact ret_l hx hb hr hlocks dX2_keyNear_111 (by first | (rw [hz]; done) | (rw [hz, nI_toInt (by omega)]; done) | (rw [hz, nI_m1I (by omega)]; done))
  by_cases w3 : w = 3
  · refine top_i (y := 3) w3 ?_
    refine lv_tableIn (off := 87) (tgt := 112) hx hb dX2_keyNear_25 (by decide) (by decide) (by decide) (by decide) ?_
    have hz : kN k c w x b f = kW k ((max (plc k c (x.toInt64 + 1)) b : Nat) : Int) b f := by unfold kN; rw [if_neg w0, if_neg w1, if_neg w2, if_pos w3]
    refine lv_aload_n hx hb dX2_keyNear_112 rfl (lv_at hl 2 rfl) ?_
    refine lv_iload hx hb dX2_keyNear_113 (lv_at hl 0 rfl) ?_
    refine lv_iload_n hx hb dX2_keyNear_115 rfl (lv_at hl 5 rfl) ?_
    refine va_mmax hx hb (by rw [hml]; exact hl.1.symm) hown (hts (.methodLink RX2 110 Lib.Math.max.name) (by decide +kernel)) (hts (.static Lib.Math.max.name) (by decide +kernel)) (hts (.initialized "java/lang/Math") (by decide +kernel)) (hts (.code Lib.Math.max.name Lib.Math.max.code 2 (some .int)) (by decide +kernel)) (Nat.le_of_ble_eq_true rfl) (Nat.le_of_ble_eq_true rfl) (Nat.le_of_ble_eq_true rfl) (Nat.le_of_ble_eq_true rfl) dX2_keyNear_116 ?_
    refine top_i (y := nI (max (plc k c (x.toInt64 + 1)) b)) (nI_max (by omega) (by omega)) ?_
    refine lv_iload_n hx hb dX2_keyNear_119 rfl (lv_at hl 5 rfl) ?_
    refine lv_iload hx hb dX2_keyNear_120 (lv_at hl 6 rfl) ?_
    refine go_R (va_runV (As := [.int (nI (max (plc k c (x.toInt64 + 1)) b)), .int (nI b), .int (nI f)]) (rest := []) ⟨hx, hb, hml, hown, hts⟩ (c_X2_keyWithin l D cy aD aE aK aV aW aR k v c (by omega) lo li hi hn fl (nI (max (plc k c (x.toInt64 + 1)) b)) b f (by omega) (by omega)) (cwV 3 hts gX2_keyNear_X2_keyWithin rfl rfl rfl (by decide +kernel) ⟨(Nat.le_of_ble_eq_true rfl), (Nat.le_of_ble_eq_true rfl)⟩) (preV_W hK (hP.sub [0, 1, 2, 3, 4] rfl) 0 2 rfl rfl) rfl rfl hl.1 rfl (lv_room (Nat.le_of_ble_eq_true rfl)) dX2_keyNear_122 ⟨(Nat.le_of_ble_eq_true rfl), (Nat.le_of_ble_eq_true rfl)⟩) ?_
    exact ret_l hx hb hr hlocks dX2_keyNear_125 (by first | (rw [hz]; done) | (rw [hz, nI_toInt (by omega)]; done) | (rw [hz, nI_m1I (by omega)]; done))
  by_cases w4 : w = 4
  · refine top_i (y := 4) w4 ?_
    refine lv_tableIn (off := 101) (tgt := 126) hx hb dX2_keyNear_25 (by decide) (by decide) (by decide) (by decide) ?_
    have hz : kN k c w x b f = kW k (b : Int) b f := by unfold kN; rw [if_neg w0, if_neg w1, if_neg w2, if_neg w3, if_pos w4]
    refine lv_aload_n hx hb dX2_keyNear_126 rfl (lv_at hl 2 rfl) ?_
    refine lv_iload_n hx hb dX2_keyNear_127 rfl (lv_at hl 5 rfl) ?_
    refine lv_iload_n hx hb dX2_keyNear_128 rfl (lv_at hl 5 rfl) ?_
    refine lv_iload hx hb dX2_keyNear_129 (lv_at hl 6 rfl) ?_
    refine go_R (va_runV (As := [.int (nI b), .int (nI b), .int (nI f)]) (rest := []) ⟨hx, hb, hml, hown, hts⟩ (c_X2_keyWithin l D cy aD aE aK aV aW aR k v c (by omega) lo li hi hn fl (nI b) b f (by omega) (by omega)) (cwV 3 hts gX2_keyNear_X2_keyWithin rfl rfl rfl (by decide +kernel) ⟨(Nat.le_of_ble_eq_true rfl), (Nat.le_of_ble_eq_true rfl)⟩) (preV_W hK (hP.sub [0, 1, 2, 3, 4] rfl) 0 2 rfl rfl) rfl rfl hl.1 rfl (lv_room (Nat.le_of_ble_eq_true rfl)) dX2_keyNear_131 ⟨(Nat.le_of_ble_eq_true rfl), (Nat.le_of_ble_eq_true rfl)⟩) ?_
    exact ret_l hx hb hr hlocks dX2_keyNear_134 (by first | (rw [hz]; done) | (rw [hz, nI_toInt (by omega)]; done) | (rw [hz, nI_m1I (by omega)]; done))
  by_cases w5 : w = 5
  · refine top_i (y := 5) w5 ?_
    refine lv_tableIn (off := 110) (tgt := 135) hx hb dX2_keyNear_25 (by decide) (by decide) (by decide) (by decide) ?_
    have hz : kN k c w x b f = kW k ((f : Int) - 1) b f := by unfold kN; rw [if_neg w0, if_neg w1, if_neg w2, if_neg w3, if_neg w4, if_pos w5]
    refine lv_aload_n hx hb dX2_keyNear_135 rfl (lv_at hl 2 rfl) ?_
    refine lv_iload hx hb dX2_keyNear_136 (lv_at hl 6 rfl) ?_
    refine lv_iconst (v := 1) hx hb dX2_keyNear_138 (by decide) ?_
    refine lv_isub hx hb dX2_keyNear_139 ?_
    refine lv_iload_n hx hb dX2_keyNear_140 rfl (lv_at hl 5 rfl) ?_
    refine lv_iload hx hb dX2_keyNear_141 (lv_at hl 6 rfl) ?_
    refine go_R (va_runV (As := [.int ((nI f) - 1), .int (nI b), .int (nI f)]) (rest := []) ⟨hx, hb, hml, hown, hts⟩ (c_X2_keyWithin l D cy aD aE aK aV aW aR k v c (by omega) lo li hi hn fl ((nI f) - 1) b f (by omega) (by omega)) (cwV 3 hts gX2_keyNear_X2_keyWithin rfl rfl rfl (by decide +kernel) ⟨(Nat.le_of_ble_eq_true rfl), (Nat.le_of_ble_eq_true rfl)⟩) (preV_W hK (hP.sub [0, 1, 2, 3, 4] rfl) 0 2 rfl rfl) rfl rfl hl.1 rfl (lv_room (Nat.le_of_ble_eq_true rfl)) dX2_keyNear_143 ⟨(Nat.le_of_ble_eq_true rfl), (Nat.le_of_ble_eq_true rfl)⟩) ?_
    exact ret_l hx hb hr hlocks dX2_keyNear_146 (by first | (rw [hz]; done) | (rw [hz, nI_toInt (by omega)]; done) | (rw [hz, nI_m1I (by omega)]; done))
  refine lv_tableOut (tgt := 147) hx hb dX2_keyNear_25 (tbl_out w0 w1 w2 w3 w4 w5) (by decide) ?_
  have hz : kN k c w x b f = NO := by unfold kN; rw [if_neg w0, if_neg w1, if_neg w2, if_neg w3, if_neg w4, if_neg w5]
  refine lv_ldc2 hx hb hown kc_44 dX2_keyNear_147 ?_
  exact ret_l hx hb hr hlocks dX2_keyNear_150 (by first | (rw [hz]; done) | (rw [hz, nI_toInt (by omega)]; done) | (rw [hz, nI_m1I (by omega)]; done))

set_option maxHeartbeats 4000000 in
set_option maxRecDepth 100000 in
/-- near(what, key) -/
theorem c_X2_near (l : Launch) (D : va_G) (cy : ClassId) (aD aE aK aV aW aR : Nat) (k v : Nat → Int32) (c : Nat) (hc : c ≤ 512) (lo : Int64) (li : Bool) (hi : Int64) (hn : Bool) (fl : Bool) (w x : Int32) : Met l yX2_near wsX2_near ({ frames := 3, cells := 0, slots := 0, locals := 70 } : Room) (pcW D [(cy, .int)] [.ref aD, .int w, .int x] [(aD, .inr (2, [.ref aE, .ref aW, .ref aR, .int (bI fl)])), (aE, .inr (0, [.ref aK, .ref aV, .int (nI c)])), (aK, .inl (cy, 512, .inl k)), (aV, .inl (cy, 512, .inl v)), (aR, .inr (1, [.long lo, .int (bI li), .long hi, .int (bI hn)]))]) (qR (.long (kN k c w x 0 c))) 0 0 (fun _ => False) := by
  refine met_W (cc := cX2_near) (maxL := 3) (ret := (some .long)) (by decide +kernel) rfl (Nat.le_of_ble_eq_true rfl) ?_
  intro pM eM s mM below meth cM ls hx hb hr hts hown hlocks hml hnm hK hP hl
  have hown : s.vm.findClass RX2 = some mM.cls := hown
  have hl : lv_has ls 3 [(0, .ref aD), (1, .int w), (2, .int x)] := hl
  have hin_X2 : ∀ w ∈ wsX20, w ∈ wsX2_near := by decide +kernel
  have kf_12 := hts (.fieldLink RX2 12 "OrderedDesk" "entries" "LOrderedDesk$Entries;") (by decide +kernel)
  have hP : va_P D vwCl [(aD, .inr (2, [.ref aE, .ref aW, .ref aR, .int (bI fl)])), (aE, .inr (0, [.ref aK, .ref aV, .int (nI c)])), (aK, .inl (cy, 512, .inl k)), (aV, .inl (cy, 512, .inl v)), (aR, .inr (1, [.long lo, .int (bI li), .long hi, .int (bI hn)]))] s.heap := hP
  refine lv_aload_n hx hb dX2_near_0 rfl (lv_at hl 0 rfl) ?_
  refine lv_iload_n hx hb dX2_near_1 rfl (lv_at hl 1 rfl) ?_
  refine lv_iload_n hx hb dX2_near_2 rfl (lv_at hl 2 rfl) ?_
  refine lv_iconst (v := nI 0) hx hb dX2_near_3 (by decide) ?_
  refine lv_aload_n hx hb dX2_near_4 rfl (lv_at hl 0 rfl) ?_
  refine va_get (ci := 2) (v := .ref aE) (C := RX2) (T := TX2) (N := 4) hx hb hts hin_X2 hown hK hP 0 rfl rfl 0 (by decide) kf_12 (fun _ h9 => h9) rfl dX2_near_5 ?_
  refine go_R (va_runV (As := []) (rest := [.int (nI 0), .int x, .int w, .ref aD]) ⟨hx, hb, hml, hown, hts⟩ (c_X0_count l D cy aE aK aV k v c (by omega)) (cwV 0 hts gX2_near_X0_count rfl rfl rfl (by decide +kernel) ⟨(Nat.le_of_ble_eq_true rfl), (Nat.le_of_ble_eq_true rfl)⟩) (preV_W hK (hP.sub [1, 2, 3] rfl) 0 0 rfl rfl) rfl rfl hl.1 rfl (lv_room (Nat.le_of_ble_eq_true rfl)) dX2_near_8 ⟨(Nat.le_of_ble_eq_true rfl), (Nat.le_of_ble_eq_true rfl)⟩) ?_
  refine go_R (va_runV (As := [.int w, .int x, .int (nI 0), .int (nI c)]) (rest := []) ⟨hx, hb, hml, hown, hts⟩ (c_X2_keyNear l D cy aD aE aK aV aW aR k v c (by omega) lo li hi hn fl w x 0 c (by omega) (by omega)) (cwV 4 hts gX2_near_X2_keyNear rfl rfl rfl (by decide +kernel) ⟨(Nat.le_of_ble_eq_true rfl), (Nat.le_of_ble_eq_true rfl)⟩) (preV_W hK (hP.sub [0, 1, 2, 3, 4] rfl) 0 2 rfl rfl) rfl rfl hl.1 rfl (lv_room (Nat.le_of_ble_eq_true rfl)) dX2_near_11 ⟨(Nat.le_of_ble_eq_true rfl), (Nat.le_of_ble_eq_true rfl)⟩) ?_
  exact ret_l hx hb hr hlocks dX2_near_14 (rfl)

set_option maxHeartbeats 4000000 in
set_option maxRecDepth 100000 in
/-- mirrored(what) -/
theorem c_X2_mirrored (l : Launch) (D : va_G) (w : Int32) : Met l yX2_mirrored wsX2_mirrored ({ frames := 0, cells := 0, slots := 0, locals := 0 } : Room) (pcW D [] [.int w] []) (qR (.int (mir w))) 0 0 (fun _ => False) := by
  refine met_W (cc := cX2_mirrored) (maxL := 1) (ret := (some .int)) (by decide +kernel) rfl (Nat.le_of_ble_eq_true rfl) ?_
  intro pM eM s mM below meth cM ls hx hb hr hts hown hlocks hml hnm hK hP hl
  have hown : s.vm.findClass RX2 = some mM.cls := hown
  have hl : lv_has ls 1 [(0, .int w)] := hl
  have hP : va_P D vwCl [] s.heap := hP
  refine lv_iload_n hx hb dX2_mirrored_0 rfl (lv_at hl 0 rfl) ?_
  by_cases w0 : w = 0
  · refine top_i (y := 0) w0 ?_
    refine lv_tableIn (off := 39) (tgt := 40) hx hb dX2_mirrored_1 (by decide) (by decide) (by decide) (by decide) ?_
    have hz : mir w = 1 := by unfold mir; rw [if_pos w0]
    refine lv_iconst (v := 1) hx hb dX2_mirrored_40 (by decide) ?_
    exact ret_i hx hb hr hlocks dX2_mirrored_41 hz.symm
  by_cases w1 : w = 1
  · refine top_i (y := 1) w1 ?_
    refine lv_tableIn (off := 41) (tgt := 42) hx hb dX2_mirrored_1 (by decide) (by decide) (by decide) (by decide) ?_
    have hz : mir w = 0 := by unfold mir; rw [if_neg w0, if_pos w1]
    refine lv_iconst (v := 0) hx hb dX2_mirrored_42 (by decide) ?_
    exact ret_i hx hb hr hlocks dX2_mirrored_43 hz.symm
  by_cases w2 : w = 2
  · refine top_i (y := 2) w2 ?_
    refine lv_tableIn (off := 43) (tgt := 44) hx hb dX2_mirrored_1 (by decide) (by decide) (by decide) (by decide) ?_
    have hz : mir w = 3 := by unfold mir; rw [if_neg w0, if_neg w1, if_pos w2]
    refine lv_iconst (v := 3) hx hb dX2_mirrored_44 (by decide) ?_
    exact ret_i hx hb hr hlocks dX2_mirrored_45 hz.symm
  by_cases w3 : w = 3
  · refine top_i (y := 3) w3 ?_
    refine lv_tableIn (off := 45) (tgt := 46) hx hb dX2_mirrored_1 (by decide) (by decide) (by decide) (by decide) ?_
    have hz : mir w = 2 := by unfold mir; rw [if_neg w0, if_neg w1, if_neg w2, if_pos w3]
    refine lv_iconst (v := 2) hx hb dX2_mirrored_46 (by decide) ?_
    exact ret_i hx hb hr hlocks dX2_mirrored_47 hz.symm
  by_cases w4 : w = 4
  · refine top_i (y := 4) w4 ?_
    refine lv_tableIn (off := 47) (tgt := 48) hx hb dX2_mirrored_1 (by decide) (by decide) (by decide) (by decide) ?_
    have hz : mir w = 5 := by unfold mir; rw [if_neg w0, if_neg w1, if_neg w2, if_neg w3, if_pos w4]
    refine lv_iconst (v := 5) hx hb dX2_mirrored_48 (by decide) ?_
    exact ret_i hx hb hr hlocks dX2_mirrored_49 hz.symm
  by_cases w5 : w = 5
  · refine top_i (y := 5) w5 ?_
    refine lv_tableIn (off := 49) (tgt := 50) hx hb dX2_mirrored_1 (by decide) (by decide) (by decide) (by decide) ?_
    have hz : mir w = 4 := by unfold mir; rw [if_neg w0, if_neg w1, if_neg w2, if_neg w3, if_neg w4, if_pos w5]
    refine lv_iconst (v := 4) hx hb dX2_mirrored_50 (by decide) ?_
    exact ret_i hx hb hr hlocks dX2_mirrored_51 hz.symm
  refine lv_tableOut (tgt := 52) hx hb dX2_mirrored_1 (tbl_out w0 w1 w2 w3 w4 w5) (by decide) ?_
  have hz : mir w = w := by unfold mir; rw [if_neg w0, if_neg w1, if_neg w2, if_neg w3, if_neg w4, if_neg w5]
  refine lv_iload_n hx hb dX2_mirrored_52 rfl (lv_at hl 0 rfl) ?_
  exact ret_i hx hb hr hlocks dX2_mirrored_53 hz.symm

set_option maxHeartbeats 4000000 in
set_option maxRecDepth 100000 in
/-- viewNear(what, key) -/
theorem c_X2_viewNear (l : Launch) (D : va_G) (cy : ClassId) (aD aE aK aV aW aR : Nat) (k v : Nat → Int32) (c : Nat) (hc : c ≤ 512) (lo : Int64) (li : Bool) (hi : Int64) (hn : Bool) (fl : Bool) (w x : Int32) : Met l yX2_viewNear wsX2_viewNear ({ frames := 3, cells := 0, slots := 0, locals := 70 } : Room) (pcW D [(cy, .int)] [.ref aD, .int w, .int x] [(aD, .inr (2, [.ref aE, .ref aW, .ref aR, .int (bI fl)])), (aE, .inr (0, [.ref aK, .ref aV, .int (nI c)])), (aK, .inl (cy, 512, .inl k)), (aV, .inl (cy, 512, .inl v)), (aR, .inr (1, [.long lo, .int (bI li), .long hi, .int (bI hn)]))]) (qR (.long (kN k c (if fl = true then mir w else w) x (vB k c lo li) (vE k c lo li hi hn)))) 0 0 (fun _ => False) := by
  refine met_W (cc := cX2_viewNear) (maxL := 3) (ret := (some .long)) (by decide +kernel) rfl (Nat.le_of_ble_eq_true rfl) ?_
  intro pM eM s mM below meth cM ls hx hb hr hts hown hlocks hml hnm hK hP hl
  have hown : s.vm.findClass RX2 = some mM.cls := hown
  have hl : lv_has ls 3 [(0, .ref aD), (1, .int w), (2, .int x)] := hl
  have hin_X2 : ∀ w ∈ wsX20, w ∈ wsX2_viewNear := by decide +kernel
  have kf_32 := hts (.fieldLink RX2 32 "OrderedDesk" "falling" "Z") (by decide +kernel)
  have hP : va_P D vwCl [(aD, .inr (2, [.ref aE, .ref aW, .ref aR, .int (bI fl)])), (aE, .inr (0, [.ref aK, .ref aV, .int (nI c)])), (aK, .inl (cy, 512, .inl k)), (aV, .inl (cy, 512, .inl v)), (aR, .inr (1, [.long lo, .int (bI li), .long hi, .int (bI hn)]))] s.heap := hP
  have q1 := vB_le k c lo li
  have q2 := vE_le k c lo li hi hn
  have q3 := vBE k c lo li hi hn
  refine lv_aload_n hx hb dX2_viewNear_0 rfl (lv_at hl 0 rfl) ?_
  refine lv_aload_n hx hb dX2_viewNear_1 rfl (lv_at hl 0 rfl) ?_
  refine va_get (ci := 2) (v := .int (bI fl)) (C := RX2) (T := TX2) (N := 4) hx hb hts hin_X2 hown hK hP 0 rfl rfl 3 (by decide) kf_32 (fun _ h9 => h9) rfl dX2_viewNear_2 ?_
  refine b_eq (tgt := 15) hx hb dX2_viewNear_5 (by decide) (fun h5 => ?_) (fun h5 => ?_)
  · have hz : (if fl = true then mir w else w) = w := if_neg (by rw [h5]; decide)
    refine lv_iload_n hx hb dX2_viewNear_15 rfl (lv_at hl 1 rfl) ?_
    refine lv_iload_n hx hb dX2_viewNear_16 rfl (lv_at hl 2 rfl) ?_
    refine lv_aload_n hx hb dX2_viewNear_17 rfl (lv_at hl 0 rfl) ?_
    refine go_R (va_runV (As := []) (rest := [.int x, .int w, .ref aD]) ⟨hx, hb, hml, hown, hts⟩ (c_X2_viewBegin l D cy aD aE aK aV aW aR k v c (by omega) lo li hi hn fl) (cwV 0 hts gX2_viewNear_X2_viewBegin rfl rfl rfl (by decide +kernel) ⟨(Nat.le_of_ble_eq_true rfl), (Nat.le_of_ble_eq_true rfl)⟩) (preV_W hK (hP.sub [0, 1, 2, 3, 4] rfl) 0 2 rfl rfl) rfl rfl hl.1 rfl (lv_room (Nat.le_of_ble_eq_true rfl)) dX2_viewNear_18 ⟨(Nat.le_of_ble_eq_true rfl), (Nat.le_of_ble_eq_true rfl)⟩) ?_
    refine lv_aload_n hx hb dX2_viewNear_21 rfl (lv_at hl 0 rfl) ?_
    refine go_R (va_runV (As := []) (rest := [.int (nI (vB k c lo li)), .int x, .int w, .ref aD]) ⟨hx, hb, hml, hown, hts⟩ (c_X2_viewEnd l D cy aD aE aK aV aW aR k v c (by omega) lo li hi hn fl) (cwV 0 hts gX2_viewNear_X2_viewEnd rfl rfl rfl (by decide +kernel) ⟨(Nat.le_of_ble_eq_true rfl), (Nat.le_of_ble_eq_true rfl)⟩) (preV_W hK (hP.sub [0, 1, 2, 3, 4] rfl) 0 2 rfl rfl) rfl rfl hl.1 rfl (lv_room (Nat.le_of_ble_eq_true rfl)) dX2_viewNear_22 ⟨(Nat.le_of_ble_eq_true rfl), (Nat.le_of_ble_eq_true rfl)⟩) ?_
    refine go_R (va_runV (As := [.int w, .int x, .int (nI (vB k c lo li)), .int (nI (vE k c lo li hi hn))]) (rest := []) ⟨hx, hb, hml, hown, hts⟩ (c_X2_keyNear l D cy aD aE aK aV aW aR k v c (by omega) lo li hi hn fl w x (vB k c lo li) (vE k c lo li hi hn) (by omega) (by omega)) (cwV 4 hts gX2_viewNear_X2_keyNear rfl rfl rfl (by decide +kernel) ⟨(Nat.le_of_ble_eq_true rfl), (Nat.le_of_ble_eq_true rfl)⟩) (preV_W hK (hP.sub [0, 1, 2, 3, 4] rfl) 0 2 rfl rfl) rfl rfl hl.1 rfl (lv_room (Nat.le_of_ble_eq_true rfl)) dX2_viewNear_25 ⟨(Nat.le_of_ble_eq_true rfl), (Nat.le_of_ble_eq_true rfl)⟩) ?_
    exact ret_l hx hb hr hlocks dX2_viewNear_28 (by rw [hz])
  · have hz : (if fl = true then mir w else w) = mir w := if_pos h5
    refine lv_iload_n hx hb dX2_viewNear_8 rfl (lv_at hl 1 rfl) ?_
    refine go_R (va_runS (As := [.int w]) (rest := [.ref aD]) ⟨hx, hb, hml, hown, hts⟩ (c_X2_mirrored l D w) (va_cwS 1 hts gX2_viewNear_X2_mirrored rfl rfl rfl (by decide +kernel) ⟨(Nat.le_of_ble_eq_true rfl), (Nat.le_of_ble_eq_true rfl)⟩) (preS_W (hK.sub [] rfl) (hP.sub [] rfl)) rfl rfl hl.1 rfl (lv_room (Nat.le_of_ble_eq_true rfl)) dX2_viewNear_9 ⟨(Nat.le_of_ble_eq_true rfl), (Nat.le_of_ble_eq_true rfl)⟩) ?_
    refine lv_goto (tgt := 16) hx hb dX2_viewNear_12 (by decide) ?_
    refine lv_iload_n hx hb dX2_viewNear_16 rfl (lv_at hl 2 rfl) ?_
    refine lv_aload_n hx hb dX2_viewNear_17 rfl (lv_at hl 0 rfl) ?_
    refine go_R (va_runV (As := []) (rest := [.int x, .int (mir w), .ref aD]) ⟨hx, hb, hml, hown, hts⟩ (c_X2_viewBegin l D cy aD aE aK aV aW aR k v c (by omega) lo li hi hn fl) (cwV 0 hts gX2_viewNear_X2_viewBegin rfl rfl rfl (by decide +kernel) ⟨(Nat.le_of_ble_eq_true rfl), (Nat.le_of_ble_eq_true rfl)⟩) (preV_W hK (hP.sub [0, 1, 2, 3, 4] rfl) 0 2 rfl rfl) rfl rfl hl.1 rfl (lv_room (Nat.le_of_ble_eq_true rfl)) dX2_viewNear_18 ⟨(Nat.le_of_ble_eq_true rfl), (Nat.le_of_ble_eq_true rfl)⟩) ?_
    refine lv_aload_n hx hb dX2_viewNear_21 rfl (lv_at hl 0 rfl) ?_
    refine go_R (va_runV (As := []) (rest := [.int (nI (vB k c lo li)), .int x, .int (mir w), .ref aD]) ⟨hx, hb, hml, hown, hts⟩ (c_X2_viewEnd l D cy aD aE aK aV aW aR k v c (by omega) lo li hi hn fl) (cwV 0 hts gX2_viewNear_X2_viewEnd rfl rfl rfl (by decide +kernel) ⟨(Nat.le_of_ble_eq_true rfl), (Nat.le_of_ble_eq_true rfl)⟩) (preV_W hK (hP.sub [0, 1, 2, 3, 4] rfl) 0 2 rfl rfl) rfl rfl hl.1 rfl (lv_room (Nat.le_of_ble_eq_true rfl)) dX2_viewNear_22 ⟨(Nat.le_of_ble_eq_true rfl), (Nat.le_of_ble_eq_true rfl)⟩) ?_
    refine go_R (va_runV (As := [.int (mir w), .int x, .int (nI (vB k c lo li)), .int (nI (vE k c lo li hi hn))]) (rest := []) ⟨hx, hb, hml, hown, hts⟩ (c_X2_keyNear l D cy aD aE aK aV aW aR k v c (by omega) lo li hi hn fl (mir w) x (vB k c lo li) (vE k c lo li hi hn) (by omega) (by omega)) (cwV 4 hts gX2_viewNear_X2_keyNear rfl rfl rfl (by decide +kernel) ⟨(Nat.le_of_ble_eq_true rfl), (Nat.le_of_ble_eq_true rfl)⟩) (preV_W hK (hP.sub [0, 1, 2, 3, 4] rfl) 0 2 rfl rfl) rfl rfl hl.1 rfl (lv_room (Nat.le_of_ble_eq_true rfl)) dX2_viewNear_25 ⟨(Nat.le_of_ble_eq_true rfl), (Nat.le_of_ble_eq_true rfl)⟩) ?_
    exact ret_l hx hb hr hlocks dX2_viewNear_28 (by rw [hz])

set_option maxHeartbeats 4000000 in
set_option maxRecDepth 100000 in
/-- viewGet(key) -/
theorem c_X2_viewGet (l : Launch) (D : va_G) (cy : ClassId) (aD aE aK aV aW aR : Nat) (k v : Nat → Int32) (c : Nat) (hc : c ≤ 512) (lo : Int64) (li : Bool) (hi : Int64) (hn : Bool) (fl : Bool) (x : Int32) : Met l yX2_viewGet wsX2_viewGet ({ frames := 2, cells := 0, slots := 0, locals := 45 } : Room) (pcW D [(cy, .int)] [.ref aD, .int x] [(aD, .inr (2, [.ref aE, .ref aW, .ref aR, .int (bI fl)])), (aE, .inr (0, [.ref aK, .ref aV, .int (nI c)])), (aK, .inl (cy, 512, .inl k)), (aV, .inl (cy, 512, .inl v)), (aR, .inr (1, [.long lo, .int (bI li), .long hi, .int (bI hn)]))]) (qR (.long (if hR lo li hi hn x.toInt64 = true then vOf k v c x else NO))) 0 0 (fun _ => False) := by
  refine met_W (cc := cX2_viewGet) (maxL := 2) (ret := (some .long)) (by decide +kernel) rfl (Nat.le_of_ble_eq_true rfl) ?_
  intro pM eM s mM below meth cM ls hx hb hr hts hown hlocks hml hnm hK hP hl
  have hown : s.vm.findClass RX2 = some mM.cls := hown
  have hl : lv_has ls 2 [(0, .ref aD), (1, .int x)] := hl
  have hin_X2 : ∀ w ∈ wsX20, w ∈ wsX2_viewGet := by decide +kernel
  have kf_12 := hts (.fieldLink RX2 12 "OrderedDesk" "entries" "LOrderedDesk$Entries;") (by decide +kernel)
  have kf_29 := hts (.fieldLink RX2 29 "OrderedDesk" "range" "LOrderedDesk$Range;") (by decide +kernel)
  have kc_44 := hts (.constantLong RX2 44 (1099511627776)) (by decide +kernel)
  have hP : va_P D vwCl [(aD, .inr (2, [.ref aE, .ref aW, .ref aR, .int (bI fl)])), (aE, .inr (0, [.ref aK, .ref aV, .int (nI c)])), (aK, .inl (cy, 512, .inl k)), (aV, .inl (cy, 512, .inl v)), (aR, .inr (1, [.long lo, .int (bI li), .long hi, .int (bI hn)]))] s.heap := hP
  refine lv_aload_n hx hb dX2_viewGet_0 rfl (lv_at hl 0 rfl) ?_
  refine va_get (ci := 2) (v := .ref aR) (C := RX2) (T := TX2) (N := 4) hx hb hts hin_X2 hown hK hP 0 rfl rfl 2 (by decide) kf_29 (fun _ h9 => h9) rfl dX2_viewGet_1 ?_
  refine lv_iload_n hx hb dX2_viewGet_4 rfl (lv_at hl 1 rfl) ?_
  refine lv_i2l hx hb dX2_viewGet_5 rfl ?_
  refine go_R (va_runV (As := [.long x.toInt64]) (rest := []) ⟨hx, hb, hml, hown, hts⟩ (c_X1_holds l D cy aR lo li hi hn x.toInt64) (cwV 1 hts gX2_viewGet_X1_holds rfl rfl rfl (by decide +kernel) ⟨(Nat.le_of_ble_eq_true rfl), (Nat.le_of_ble_eq_true rfl)⟩) (preV_W hK (hP.sub [4] rfl) 0 1 rfl rfl) rfl rfl hl.1 rfl (lv_room (Nat.le_of_ble_eq_true rfl)) dX2_viewGet_6 ⟨(Nat.le_of_ble_eq_true rfl), (Nat.le_of_ble_eq_true rfl)⟩) ?_
  refine b_eq (tgt := 23) hx hb dX2_viewGet_9 (by decide) (fun h9 => ?_) (fun h9 => ?_)
  · refine lv_ldc2 hx hb hown kc_44 dX2_viewGet_23 ?_
    exact ret_l hx hb hr hlocks dX2_viewGet_26 (by rw [h9]; rfl)
  · refine lv_aload_n hx hb dX2_viewGet_12 rfl (lv_at hl 0 rfl) ?_
    refine va_get (ci := 2) (v := .ref aE) (C := RX2) (T := TX2) (N := 4) hx hb hts hin_X2 hown hK hP 0 rfl rfl 0 (by decide) kf_12 (fun _ h9 => h9) rfl dX2_viewGet_13 ?_
    refine lv_iload_n hx hb dX2_viewGet_16 rfl (lv_at hl 1 rfl) ?_
    refine go_R (va_runV (As := [.int x]) (rest := []) ⟨hx, hb, hml, hown, hts⟩ (c_X0_valueOf l D cy aE aK aV k v c (by omega) x) (cwV 1 hts gX2_viewGet_X0_valueOf rfl rfl rfl (by decide +kernel) ⟨(Nat.le_of_ble_eq_true rfl), (Nat.le_of_ble_eq_true rfl)⟩) (preV_W hK (hP.sub [1, 2, 3] rfl) 0 0 rfl rfl) rfl rfl hl.1 rfl (lv_room (Nat.le_of_ble_eq_true rfl)) dX2_viewGet_17 ⟨(Nat.le_of_ble_eq_true rfl), (Nat.le_of_ble_eq_true rfl)⟩) ?_
    refine lv_goto (tgt := 26) hx hb dX2_viewGet_20 (by decide) ?_
    exact ret_l hx hb hr hlocks dX2_viewGet_26 (by rw [h9]; rfl)

set_option maxHeartbeats 4000000 in
set_option maxRecDepth 100000 in
/-- viewKey(k) -/
theorem c_X2_viewKey (l : Launch) (D : va_G) (cy : ClassId) (aD aE aK aV aW aR : Nat) (k v : Nat → Int32) (c : Nat) (hc : c ≤ 512) (lo : Int64) (li : Bool) (hi : Int64) (hn : Bool) (fl : Bool) (x : Int32) : Met l yX2_viewKey wsX2_viewKey ({ frames := 3, cells := 0, slots := 0, locals := 63 } : Room) (pcW D [(cy, .int)] [.ref aD, .int x] [(aD, .inr (2, [.ref aE, .ref aW, .ref aR, .int (bI fl)])), (aE, .inr (0, [.ref aK, .ref aV, .int (nI c)])), (aK, .inl (cy, 512, .inl k)), (aV, .inl (cy, 512, .inl v)), (aR, .inr (1, [.long lo, .int (bI li), .long hi, .int (bI hn)]))]) (qR (.long (vKy k (vB k c lo li) (vE k c lo li hi hn) fl x.toInt))) 0 0 (fun _ => False) := by
  refine met_W (cc := cX2_viewKey) (maxL := 4) (ret := (some .long)) (by decide +kernel) rfl (Nat.le_of_ble_eq_true rfl) ?_
  intro pM eM s mM below meth cM ls hx hb hr hts hown hlocks hml hnm hK hP hl
  have hown : s.vm.findClass RX2 = some mM.cls := hown
  have hl : lv_has ls 4 [(0, .ref aD), (1, .int x)] := hl
  have hin_X2 : ∀ w ∈ wsX20, w ∈ wsX2_viewKey := by decide +kernel
  have kf_12 := hts (.fieldLink RX2 12 "OrderedDesk" "entries" "LOrderedDesk$Entries;") (by decide +kernel)
  have kf_32 := hts (.fieldLink RX2 32 "OrderedDesk" "falling" "Z") (by decide +kernel)
  have kc_44 := hts (.constantLong RX2 44 (1099511627776)) (by decide +kernel)
  have hP : va_P D vwCl [(aD, .inr (2, [.ref aE, .ref aW, .ref aR, .int (bI fl)])), (aE, .inr (0, [.ref aK, .ref aV, .int (nI c)])), (aK, .inl (cy, 512, .inl k)), (aV, .inl (cy, 512, .inl v)), (aR, .inr (1, [.long lo, .int (bI li), .long hi, .int (bI hn)]))] s.heap := hP
  have q1 := vB_le k c lo li
  have q2 := vE_le k c lo li hi hn
  have q3 := vBE k c lo li hi hn
  refine lv_aload_n hx hb dX2_viewKey_0 rfl (lv_at hl 0 rfl) ?_
  refine go_R (va_runV (As := []) (rest := []) ⟨hx, hb, hml, hown, hts⟩ (c_X2_viewBegin l D cy aD aE aK aV aW aR k v c (by omega) lo li hi hn fl) (cwV 0 hts gX2_viewKey_X2_viewBegin rfl rfl rfl (by decide +kernel) ⟨(Nat.le_of_ble_eq_true rfl), (Nat.le_of_ble_eq_true rfl)⟩) (preV_W hK (hP.sub [0, 1, 2, 3, 4] rfl) 0 2 rfl rfl) rfl rfl hl.1 rfl (lv_room (Nat.le_of_ble_eq_true rfl)) dX2_viewKey_1 ⟨(Nat.le_of_ble_eq_true rfl), (Nat.le_of_ble_eq_true rfl)⟩) ?_
  refine lv_istore_n (lv' := [(2, .int (nI (vB k c lo li))), (0, .ref aD), (1, .int x)]) hx hb dX2_viewKey_4 rfl hl (by decide) rfl (fun ls hl => ?_)
  refine lv_aload_n hx hb dX2_viewKey_5 rfl (lv_at hl 1 rfl) ?_
  refine go_R (va_runV (As := []) (rest := []) ⟨hx, hb, hml, hown, hts⟩ (c_X2_viewEnd l D cy aD aE aK aV aW aR k v c (by omega) lo li hi hn fl) (cwV 0 hts gX2_viewKey_X2_viewEnd rfl rfl rfl (by decide +kernel) ⟨(Nat.le_of_ble_eq_true rfl), (Nat.le_of_ble_eq_true rfl)⟩) (preV_W hK (hP.sub [0, 1, 2, 3, 4] rfl) 0 2 rfl rfl) rfl rfl hl.1 rfl (lv_room (Nat.le_of_ble_eq_true rfl)) dX2_viewKey_6 ⟨(Nat.le_of_ble_eq_true rfl), (Nat.le_of_ble_eq_true rfl)⟩) ?_
  refine lv_istore_n (lv' := [(3, .int (nI (vE k c lo li hi hn))), (2, .int (nI (vB k c lo li))), (0, .ref aD), (1, .int x)]) hx hb dX2_viewKey_9 rfl hl (by decide) rfl (fun ls hl => ?_)
  refine lv_iload_n hx hb dX2_viewKey_10 rfl (lv_at hl 3 rfl) ?_
  refine lv_if_lt (tgt := 21) hx hb dX2_viewKey_11 (by decide) (fun h11 => ?_) (fun h11 => ?_)
  · have hz : vKy k (vB k c lo li) (vE k c lo li hi hn) fl x.toInt = NO := by rw [Int32.lt_iff_toInt_lt, Int32.toInt_zero] at h11; unfold vKy; rw [if_neg (by omega)]
    refine lv_ldc2 hx hb hown kc_44 dX2_viewKey_21 ?_
    exact ret_l hx hb hr hlocks dX2_viewKey_24 (by first | (rw [hz]; done) | (rw [hz, nI_toInt (by omega)]; exact kW_yes (by omega) (by omega)))
  · refine lv_iload_n hx hb dX2_viewKey_14 rfl (lv_at hl 3 rfl) ?_
    refine lv_iload_n hx hb dX2_viewKey_15 rfl (lv_at hl 0 rfl) ?_
    refine lv_iload_n hx hb dX2_viewKey_16 rfl (lv_at hl 1 rfl) ?_
    refine lv_isub hx hb dX2_viewKey_17 ?_
    refine top_i (y := nI ((vE k c lo li hi hn) - (vB k c lo li))) (pk_sub (by omega)) ?_
    refine lv_icmp_lt (tgt := 25) hx hb dX2_viewKey_18 (by decide) (fun h18 => ?_) (fun h18 => ?_)
    · obtain ⟨j, hj, rfl⟩ : ∃ j : Nat, j < (vE k c lo li hi hn) - (vB k c lo li) ∧ x = nI j := by obtain ⟨j, h1, h2, -⟩ := pk_mu h11 (Int32.not_le.mpr h18) (by omega); exact ⟨j, h1, h2⟩
      have hz : vKy k (vB k c lo li) (vE k c lo li hi hn) fl (nI j).toInt = (k (if fl = true then (vE k c lo li hi hn) - 1 - j else (vB k c lo li) + j)).toInt64 := by rw [nI_toInt (by omega)]; unfold vKy; rw [if_pos (by omega), Int.toNat_natCast]
      refine lv_aload_n hx hb dX2_viewKey_25 rfl (lv_at hl 2 rfl) ?_
      refine va_get (ci := 2) (v := .ref aE) (C := RX2) (T := TX2) (N := 4) hx hb hts hin_X2 hown hK hP 0 rfl rfl 0 (by decide) kf_12 (fun _ h9 => h9) rfl dX2_viewKey_26 ?_
      refine lv_aload_n hx hb dX2_viewKey_29 rfl (lv_at hl 2 rfl) ?_
      refine va_get (ci := 2) (v := .int (bI fl)) (C := RX2) (T := TX2) (N := 4) hx hb hts hin_X2 hown hK hP 0 rfl rfl 3 (by decide) kf_32 (fun _ h9 => h9) rfl dX2_viewKey_30 ?_
      refine b_eq (tgt := 44) hx hb dX2_viewKey_33 (by decide) (fun h33 => ?_) (fun h33 => ?_)
      · rw [if_neg (by rw [h33]; decide)] at hz
        refine lv_iload_n hx hb dX2_viewKey_44 rfl (lv_at hl 1 rfl) ?_
        refine lv_iload_n hx hb dX2_viewKey_45 rfl (lv_at hl 3 rfl) ?_
        refine lv_iadd hx hb dX2_viewKey_46 ?_
        refine top_i (y := nI ((vB k c lo li) + j)) (nI_add _ _) ?_
        refine go_R (va_runV (As := [.int (nI ((vB k c lo li) + j))]) (rest := []) ⟨hx, hb, hml, hown, hts⟩ (c_X0_keyAt l D cy aE aK aV k v c (by omega) (nI ((vB k c lo li) + j))) (cwV 1 hts gX2_viewKey_X0_keyAt rfl rfl rfl (by decide +kernel) ⟨(Nat.le_of_ble_eq_true rfl), (Nat.le_of_ble_eq_true rfl)⟩) (preV_W hK (hP.sub [1, 2, 3] rfl) 0 0 rfl rfl) rfl rfl hl.1 rfl (lv_room (Nat.le_of_ble_eq_true rfl)) dX2_viewKey_47 ⟨(Nat.le_of_ble_eq_true rfl), (Nat.le_of_ble_eq_true rfl)⟩) ?_
        exact ret_l hx hb hr hlocks dX2_viewKey_50 (by first | (rw [hz]; done) | (rw [hz, nI_toInt (by omega)]; exact kW_yes (by omega) (by omega)))
      · rw [if_pos h33] at hz
        refine lv_iload_n hx hb dX2_viewKey_36 rfl (lv_at hl 0 rfl) ?_
        refine lv_iconst (v := nI 1) hx hb dX2_viewKey_37 (by decide) ?_
        refine lv_isub hx hb dX2_viewKey_38 ?_
        refine top_i (y := nI ((vE k c lo li hi hn) - 1)) (pk_sub (by omega)) ?_
        refine lv_iload_n hx hb dX2_viewKey_39 rfl (lv_at hl 3 rfl) ?_
        refine lv_isub hx hb dX2_viewKey_40 ?_
        refine top_i (y := nI (((vE k c lo li hi hn) - 1) - j)) (pk_sub (by omega)) ?_
        refine lv_goto (tgt := 47) hx hb dX2_viewKey_41 (by decide) ?_
        refine go_R (va_runV (As := [.int (nI (((vE k c lo li hi hn) - 1) - j))]) (rest := []) ⟨hx, hb, hml, hown, hts⟩ (c_X0_keyAt l D cy aE aK aV k v c (by omega) (nI (((vE k c lo li hi hn) - 1) - j))) (cwV 1 hts gX2_viewKey_X0_keyAt rfl rfl rfl (by decide +kernel) ⟨(Nat.le_of_ble_eq_true rfl), (Nat.le_of_ble_eq_true rfl)⟩) (preV_W hK (hP.sub [1, 2, 3] rfl) 0 0 rfl rfl) rfl rfl hl.1 rfl (lv_room (Nat.le_of_ble_eq_true rfl)) dX2_viewKey_47 ⟨(Nat.le_of_ble_eq_true rfl), (Nat.le_of_ble_eq_true rfl)⟩) ?_
        exact ret_l hx hb hr hlocks dX2_viewKey_50 (by first | (rw [hz]; done) | (rw [hz, nI_toInt (by omega)]; exact kW_yes (by omega) (by omega)))
    · have hz : vKy k (vB k c lo li) (vE k c lo li hi hn) fl x.toInt = NO := by rw [Int32.lt_iff_toInt_lt, nI_toInt (by omega)] at h18; unfold vKy; rw [if_neg (by omega)]
      refine lv_ldc2 hx hb hown kc_44 dX2_viewKey_21 ?_
      exact ret_l hx hb hr hlocks dX2_viewKey_24 (by first | (rw [hz]; done) | (rw [hz, nI_toInt (by omega)]; exact kW_yes (by omega) (by omega)))

set_option maxHeartbeats 4000000 in
set_option maxRecDepth 100000 in
/-- walk() -/
theorem c_X2_walk (l : Launch) (D : va_G) (cy : ClassId) (aD aE aK aV aW aR : Nat) (k v : Nat → Int32) (c : Nat) (hc : c ≤ 512) (lo : Int64) (li : Bool) (hi : Int64) (hn : Bool) (fl : Bool) : Met l yX2_walk wsX2_walk ({ frames := 3, cells := 0, slots := 0, locals := 63 } : Room) (pcW D [(cy, .int)] [.ref aD] [(aD, .inr (2, [.ref aE, .ref aW, .ref aR, .int (bI fl)])), (aE, .inr (0, [.ref aK, .ref aV, .int (nI c)])), (aK, .inl (cy, 512, .inl k)), (aV, .inl (cy, 512, .inl v)), (aR, .inr (1, [.long lo, .int (bI li), .long hi, .int (bI hn)]))]) (qR (.long (wsm k (wpl (vB k c lo li) (vE k c lo li hi hn) fl) ((vE k c lo li hi hn) - (vB k c lo li)) (vB k c lo li) 0))) 0 0 (fun _ => False) := by
  refine met_W (cc := cX2_walk) (maxL := 8) (ret := (some .long)) (by decide +kernel) rfl (Nat.le_of_ble_eq_true rfl) ?_
  intro pM eM s mM below meth cM ls hx hb hr hts hown hlocks hml hnm hK hP hl
  have hown : s.vm.findClass RX2 = some mM.cls := hown
  have hl : lv_has ls 8 [(0, .ref aD)] := hl
  have hin_X2 : ∀ w ∈ wsX20, w ∈ wsX2_walk := by decide +kernel
  have kf_12 := hts (.fieldLink RX2 12 "OrderedDesk" "entries" "LOrderedDesk$Entries;") (by decide +kernel)
  have kf_32 := hts (.fieldLink RX2 32 "OrderedDesk" "falling" "Z") (by decide +kernel)
  have hP : va_P D vwCl [(aD, .inr (2, [.ref aE, .ref aW, .ref aR, .int (bI fl)])), (aE, .inr (0, [.ref aK, .ref aV, .int (nI c)])), (aK, .inl (cy, 512, .inl k)), (aV, .inl (cy, 512, .inl v)), (aR, .inr (1, [.long lo, .int (bI li), .long hi, .int (bI hn)]))] s.heap := hP
  have q1 := vB_le k c lo li
  have q2 := vE_le k c lo li hi hn
  have q3 := vBE k c lo li hi hn
  refine lv_aload_n hx hb dX2_walk_0 rfl (lv_at hl 0 rfl) ?_
  refine go_R (va_runV (As := []) (rest := []) ⟨hx, hb, hml, hown, hts⟩ (c_X2_viewBegin l D cy aD aE aK aV aW aR k v c (by omega) lo li hi hn fl) (cwV 0 hts gX2_walk_X2_viewBegin rfl rfl rfl (by decide +kernel) ⟨(Nat.le_of_ble_eq_true rfl), (Nat.le_of_ble_eq_true rfl)⟩) (preV_W hK (hP.sub [0, 1, 2, 3, 4] rfl) 0 2 rfl rfl) rfl rfl hl.1 rfl (lv_room (Nat.le_of_ble_eq_true rfl)) dX2_walk_1 ⟨(Nat.le_of_ble_eq_true rfl), (Nat.le_of_ble_eq_true rfl)⟩) ?_
  refine lv_istore_n (lv' := [(1, .int (nI (vB k c lo li))), (0, .ref aD)]) hx hb dX2_walk_4 rfl hl (by decide) rfl (fun ls hl => ?_)
  refine lv_aload_n hx hb dX2_walk_5 rfl (lv_at hl 1 rfl) ?_
  refine go_R (va_runV (As := []) (rest := []) ⟨hx, hb, hml, hown, hts⟩ (c_X2_viewEnd l D cy aD aE aK aV aW aR k v c (by omega) lo li hi hn fl) (cwV 0 hts gX2_walk_X2_viewEnd rfl rfl rfl (by decide +kernel) ⟨(Nat.le_of_ble_eq_true rfl), (Nat.le_of_ble_eq_true rfl)⟩) (preV_W hK (hP.sub [0, 1, 2, 3, 4] rfl) 0 2 rfl rfl) rfl rfl hl.1 rfl (lv_room (Nat.le_of_ble_eq_true rfl)) dX2_walk_6 ⟨(Nat.le_of_ble_eq_true rfl), (Nat.le_of_ble_eq_true rfl)⟩) ?_
  refine lv_istore_n (lv' := [(2, .int (nI (vE k c lo li hi hn))), (1, .int (nI (vB k c lo li))), (0, .ref aD)]) hx hb dX2_walk_9 rfl hl (by decide) rfl (fun ls hl => ?_)
  refine lv_lconst (v := 0) hx hb dX2_walk_10 (by decide) ?_
  refine lv_lstore_n (lv' := [(3, .long 0), (2, .int (nI (vE k c lo li hi hn))), (1, .int (nI (vB k c lo li))), (0, .ref aD)]) hx hb dX2_walk_11 rfl hl (by decide) rfl (fun ls hl => ?_)
  refine lv_iload_n hx hb dX2_walk_12 rfl (lv_at hl 2 rfl) ?_
  refine lv_istore (lv' := [(5, .int (nI (vB k c lo li))), (3, .long 0), (2, .int (nI (vE k c lo li hi hn))), (1, .int (nI (vB k c lo li))), (0, .ref aD)]) hx hb dX2_walk_13 hl (by decide) rfl (fun ls hl => ?_)
  refine W_loopR (I := fun (i : Nat) (ls : Array Slot) => ∃ (a : Int64), lv_has ls 8 [(0, .ref aD), (1, .int (nI (vB k c lo li))), (2, .int (nI (vE k c lo li hi hn))), (3, .long a), (5, .int (nI i))] ∧ (vB k c lo li) ≤ i ∧ i ≤ (vE k c lo li hi hn) ∧ wsm k (wpl (vB k c lo li) (vE k c lo li hi hn) fl) ((vE k c lo li hi hn) - (vB k c lo li)) (vB k c lo li) 0 = wsm k (wpl (vB k c lo li) (vE k c lo li hi hn) fl) ((vE k c lo li hi hn) - i) i a) (μ := fun i => (vE k c lo li hi hn) - i) (fun i ls h ih => ?_) (vB k c lo li) ⟨0, lv_sub hl [4, 3, 2, 1, 0] rfl, Nat.le_refl _, q3, rfl⟩
  obtain ⟨a, hl, hi1, hi2, hv⟩ := h
  refine lv_iload hx hb dX2_walk_15 (lv_at hl 4 rfl) ?_
  refine lv_iload_n hx hb dX2_walk_17 rfl (lv_at hl 2 rfl) ?_
  refine n_ge (tgt := 66) (by omega) (by omega) hx hb dX2_walk_18 (by decide) (fun h18 => ?_) (fun h18 => ?_)
  · have hz : wsm k (wpl (vB k c lo li) (vE k c lo li hi hn) fl) ((vE k c lo li hi hn) - (vB k c lo li)) (vB k c lo li) 0 = a := by rw [hv, show (vE k c lo li hi hn) - i = 0 by omega]; rfl
    refine lv_lload_n hx hb dX2_walk_66 rfl (lv_at hl 3 rfl) ?_
    exact ret_l hx hb hr hlocks dX2_walk_67 (hz.symm)
  · refine lv_aload_n hx hb dX2_walk_21 rfl (lv_at hl 0 rfl) ?_
    refine va_get (ci := 2) (v := .int (bI fl)) (C := RX2) (T := TX2) (N := 4) hx hb hts hin_X2 hown hK hP 0 rfl rfl 3 (by decide) kf_32 (fun _ h9 => h9) rfl dX2_walk_22 ?_
    refine b_eq (tgt := 36) hx hb dX2_walk_25 (by decide) (fun h25 => ?_) (fun h25 => ?_)
    · have hpl : wpl (vB k c lo li) (vE k c lo li hi hn) fl i = (nI (i - (vB k c lo li) + 1)).toInt64 := if_neg (by rw [h25]; decide)
      refine lv_iload hx hb dX2_walk_36 (lv_at hl 4 rfl) ?_
      refine lv_iload_n hx hb dX2_walk_38 rfl (lv_at hl 1 rfl) ?_
      refine lv_isub hx hb dX2_walk_39 ?_
      refine top_i (y := nI (i - (vB k c lo li))) (pk_sub (by omega)) ?_
      refine lv_iconst (v := nI 1) hx hb dX2_walk_40 (by decide) ?_
      refine lv_iadd hx hb dX2_walk_41 ?_
      refine top_i (y := nI ((i - (vB k c lo li)) + 1)) (nI_add _ _) ?_
      refine lv_i2l hx hb dX2_walk_42 rfl ?_
      refine lv_lstore (lv' := [(6, .long ((nI ((i - (vB k c lo li)) + 1)).toInt64)), (0, .ref aD), (1, .int (nI (vB k c lo li))), (2, .int (nI (vE k c lo li hi hn))), (3, .long a), (5, .int (nI i))]) hx hb dX2_walk_43 hl (by decide) rfl (fun ls hl => ?_)
      refine lv_lload_n hx hb dX2_walk_45 rfl (lv_at hl 4 rfl) ?_
      refine lv_aload_n hx hb dX2_walk_46 rfl (lv_at hl 1 rfl) ?_
      refine va_get (ci := 2) (v := .ref aE) (C := RX2) (T := TX2) (N := 4) hx hb hts hin_X2 hown hK hP 0 rfl rfl 0 (by decide) kf_12 (fun _ h9 => h9) rfl dX2_walk_47 ?_
      refine lv_iload hx hb dX2_walk_50 (lv_at hl 5 rfl) ?_
      refine go_R (va_runV (As := [.int (nI i)]) (rest := [.long a]) ⟨hx, hb, hml, hown, hts⟩ (c_X0_keyAt l D cy aE aK aV k v c (by omega) (nI i)) (cwV 1 hts gX2_walk_X0_keyAt rfl rfl rfl (by decide +kernel) ⟨(Nat.le_of_ble_eq_true rfl), (Nat.le_of_ble_eq_true rfl)⟩) (preV_W hK (hP.sub [1, 2, 3] rfl) 0 0 rfl rfl) rfl rfl hl.1 rfl (lv_room (Nat.le_of_ble_eq_true rfl)) dX2_walk_52 ⟨(Nat.le_of_ble_eq_true rfl), (Nat.le_of_ble_eq_true rfl)⟩) ?_
      refine lv_lload hx hb dX2_walk_55 (lv_at hl 0 rfl) ?_
      refine lv_lmul hx hb dX2_walk_57 ?_
      refine lv_ladd hx hb dX2_walk_58 ?_
      refine lv_lstore_n (lv' := [(3, .long (a + ((kW k (nI i).toInt 0 c) * ((nI ((i - (vB k c lo li)) + 1)).toInt64)))), (6, .long ((nI ((i - (vB k c lo li)) + 1)).toInt64)), (0, .ref aD), (1, .int (nI (vB k c lo li))), (2, .int (nI (vE k c lo li hi hn))), (5, .int (nI i))]) hx hb dX2_walk_59 rfl hl (by decide) rfl (fun ls hl => ?_)
      refine lv_iinc (v := nI (i + 1)) (lv' := [(5, .int (nI (i + 1))), (3, .long (a + ((kW k (nI i).toInt 0 c) * ((nI ((i - (vB k c lo li)) + 1)).toInt64)))), (6, .long ((nI ((i - (vB k c lo li)) + 1)).toInt64)), (0, .ref aD), (1, .int (nI (vB k c lo li))), (2, .int (nI (vE k c lo li hi hn)))]) hx hb dX2_walk_60 hl (k := 5) rfl (by first | exact nI_1 _ | exact nI_add _ _) (by decide) rfl (fun ls hl => ?_)
      refine lv_goto (tgt := 15) hx hb dX2_walk_63 (by decide) ?_
      exact ih (i + 1) _ (by omega) ⟨_, lv_sub hl [3, 4, 5, 1, 0] rfl, by omega, by omega, by rw [hv, wsm_s h18]; congr 1; rw [nI_toInt (by omega), kW_yes (Nat.zero_le _) (by omega), hpl]⟩
    · have hpl : wpl (vB k c lo li) (vE k c lo li hi hn) fl i = (nI ((vE k c lo li hi hn) - i)).toInt64 := if_pos h25
      refine lv_iload_n hx hb dX2_walk_28 rfl (lv_at hl 2 rfl) ?_
      refine lv_iload hx hb dX2_walk_29 (lv_at hl 4 rfl) ?_
      refine lv_isub hx hb dX2_walk_31 ?_
      refine top_i (y := nI ((vE k c lo li hi hn) - i)) (pk_sub (by omega)) ?_
      refine lv_i2l hx hb dX2_walk_32 rfl ?_
      refine lv_goto (tgt := 43) hx hb dX2_walk_33 (by decide) ?_
      refine lv_lstore (lv' := [(6, .long ((nI ((vE k c lo li hi hn) - i)).toInt64)), (0, .ref aD), (1, .int (nI (vB k c lo li))), (2, .int (nI (vE k c lo li hi hn))), (3, .long a), (5, .int (nI i))]) hx hb dX2_walk_43 hl (by decide) rfl (fun ls hl => ?_)
      refine lv_lload_n hx hb dX2_walk_45 rfl (lv_at hl 4 rfl) ?_
      refine lv_aload_n hx hb dX2_walk_46 rfl (lv_at hl 1 rfl) ?_
      refine va_get (ci := 2) (v := .ref aE) (C := RX2) (T := TX2) (N := 4) hx hb hts hin_X2 hown hK hP 0 rfl rfl 0 (by decide) kf_12 (fun _ h9 => h9) rfl dX2_walk_47 ?_
      refine lv_iload hx hb dX2_walk_50 (lv_at hl 5 rfl) ?_
      refine go_R (va_runV (As := [.int (nI i)]) (rest := [.long a]) ⟨hx, hb, hml, hown, hts⟩ (c_X0_keyAt l D cy aE aK aV k v c (by omega) (nI i)) (cwV 1 hts gX2_walk_X0_keyAt rfl rfl rfl (by decide +kernel) ⟨(Nat.le_of_ble_eq_true rfl), (Nat.le_of_ble_eq_true rfl)⟩) (preV_W hK (hP.sub [1, 2, 3] rfl) 0 0 rfl rfl) rfl rfl hl.1 rfl (lv_room (Nat.le_of_ble_eq_true rfl)) dX2_walk_52 ⟨(Nat.le_of_ble_eq_true rfl), (Nat.le_of_ble_eq_true rfl)⟩) ?_
      refine lv_lload hx hb dX2_walk_55 (lv_at hl 0 rfl) ?_
      refine lv_lmul hx hb dX2_walk_57 ?_
      refine lv_ladd hx hb dX2_walk_58 ?_
      refine lv_lstore_n (lv' := [(3, .long (a + ((kW k (nI i).toInt 0 c) * ((nI ((vE k c lo li hi hn) - i)).toInt64)))), (6, .long ((nI ((vE k c lo li hi hn) - i)).toInt64)), (0, .ref aD), (1, .int (nI (vB k c lo li))), (2, .int (nI (vE k c lo li hi hn))), (5, .int (nI i))]) hx hb dX2_walk_59 rfl hl (by decide) rfl (fun ls hl => ?_)
      refine lv_iinc (v := nI (i + 1)) (lv' := [(5, .int (nI (i + 1))), (3, .long (a + ((kW k (nI i).toInt 0 c) * ((nI ((vE k c lo li hi hn) - i)).toInt64)))), (6, .long ((nI ((vE k c lo li hi hn) - i)).toInt64)), (0, .ref aD), (1, .int (nI (vB k c lo li))), (2, .int (nI (vE k c lo li hi hn)))]) hx hb dX2_walk_60 hl (k := 5) rfl (by first | exact nI_1 _ | exact nI_add _ _) (by decide) rfl (fun ls hl => ?_)
      refine lv_goto (tgt := 15) hx hb dX2_walk_63 (by decide) ?_
      exact ih (i + 1) _ (by omega) ⟨_, lv_sub hl [3, 4, 5, 1, 0] rfl, by omega, by omega, by rw [hv, wsm_s h18]; congr 1; rw [nI_toInt (by omega), kW_yes (Nat.zero_le _) (by omega), hpl]⟩

set_option maxHeartbeats 4000000 in
set_option maxRecDepth 100000 in
/-- put(key, value) -/
theorem c_X2_put (l : Launch) (D : va_G) (cy : ClassId) (aD aE aK aV aW aR : Nat) (k v : Nat → Int32) (c : Nat) (hc : c ≤ 512) (lo : Int64) (li : Bool) (hi : Int64) (hn : Bool) (fl : Bool) (nd : ([aD, aE, aK, aV] : List Nat).Nodup) (nr : ¬ aR ∈ ([aD, aE, aK, aV] : List Nat)) (sz : Nat) (hc2 : c < 512) (x y : Int32) : Met l yX2_put wsX2_put ({ frames := 2, cells := 0, slots := 0, locals := 49 } : Room) (pcZ D [(cy, .int)] [.ref aD, .int x, .int y] [(aD, .inr (2, [.ref aE, .ref aW, .ref aR, .int (bI fl)])), (aE, .inr (0, [.ref aK, .ref aV, .int (nI c)])), (aK, .inl (cy, 512, .inl k)), (aV, .inl (cy, 512, .inl v)), (aR, .inr (1, [.long lo, .int (bI li), .long hi, .int (bI hn)]))] sz) (qM (some (.long (vOf k v c x))) (fun H => va_P D vwCl (dW cy aD aE aK aV aW aR (stK k c x) (stV k v c x y) (stC k c x) lo li hi hn fl) H) (mA [aE, aK, aV] sz)) 0 0 (mA [aE, aK, aV] sz) := by
  refine met_Z (cc := cX2_put) (maxL := 3) (ret := (some .long)) (by decide +kernel) rfl (Nat.le_of_ble_eq_true rfl) ?_
  intro pM eM s mM below meth cM ls hx hb hr hts hown hlocks hml hnm hsz hK hP hl
  have hown : s.vm.findClass RX2 = some mM.cls := hown
  have hl : lv_has ls 3 [(0, .ref aD), (1, .int x), (2, .int y)] := hl
  have hin_X2 : ∀ w ∈ wsX20, w ∈ wsX2_put := by decide +kernel
  have kf_12 := hts (.fieldLink RX2 12 "OrderedDesk" "entries" "LOrderedDesk$Entries;") (by decide +kernel)
  have hP : va_P D vwCl [(aD, .inr (2, [.ref aE, .ref aW, .ref aR, .int (bI fl)])), (aE, .inr (0, [.ref aK, .ref aV, .int (nI c)])), (aK, .inl (cy, 512, .inl k)), (aV, .inl (cy, 512, .inl v)), (aR, .inr (1, [.long lo, .int (bI li), .long hi, .int (bI hn)]))] s.heap := hP
  subst hsz
  have hS : va_S (mA [aE, aK, aV] s.heap.size) s.heap s.heap [] := va_S.rf
  simp only [List.nodup_cons, List.mem_cons, List.not_mem_nil, or_false, not_or, not_false_eq_true, List.nodup_nil, and_true] at nd nr
  refine lv_aload_n hx hb dX2_put_0 rfl (lv_at hl 0 rfl) ?_
  refine va_get (ci := 2) (v := .ref aE) (C := RX2) (T := TX2) (N := 4) hx hb hts hin_X2 hown hK hP 0 rfl rfl 0 (by decide) kf_12 (fun _ h9 => h9) rfl dX2_put_1 ?_
  refine lv_iload_n hx hb dX2_put_4 rfl (lv_at hl 1 rfl) ?_
  refine lv_iload_n hx hb dX2_put_5 rfl (lv_at hl 2 rfl) ?_
  refine go_M (va_runV (As := [.int x, .int y]) (rest := []) ⟨hx, hb, hml, hown, hts⟩ (c_X0_store l D cy aE aK aV k v c (by omega) (by simp; omega) _ (by omega) x y) (cwV 2 hts gX2_put_X0_store rfl rfl rfl (by decide +kernel) ⟨(Nat.le_of_ble_eq_true rfl), (Nat.le_of_ble_eq_true rfl)⟩) (preV_Z hK (hP.sub [1, 2, 3] rfl) 0 0 rfl rfl) rfl rfl hl.1 rfl (lv_room (Nat.le_of_ble_eq_true rfl)) dX2_put_6 ⟨(Nat.le_of_ble_eq_true rfl), (Nat.le_of_ble_eq_true rfl)⟩) hS (fun q h => mA_sub [0, 1, 2] rfl hS.1 h) (fun H1 locs1 hB hzz hk hS => ?_)
  have hP : va_P D vwCl [(aD, .inr (2, [.ref aE, .ref aW, .ref aR, .int (bI fl)])), (aE, .inr (0, [.ref aK, .ref aV, .int (nI (stC k c x))])), (aK, .inl (cy, 512, .inl (stK k c x))), (aV, .inl (cy, 512, .inl (stV k v c x y))), (aR, .inr (1, [.long lo, .int (bI li), .long hi, .int (bI hn)]))] H1 := ((P_keepM (ws := [(aD, .inr (2, [.ref aE, .ref aW, .ref aR, .int (bI fl)])), (aR, .inr (1, [.long lo, .int (bI li), .long hi, .int (bI hn)]))]) (hP.sub [0, 4] rfl) (by intro q hq; simp only [List.map_cons, List.map_nil, List.mem_cons, List.not_mem_nil, or_false, not_or] at hq ⊢; omega) hk).app hB).sub [0, 2, 3, 4, 1] rfl
  clear hB
  generalize H1 = H at hP hS ⊢
  generalize locs1 = locs at hS ⊢
  exact ret_lM hx hb hr hlocks dX2_put_9 hS (rfl) (hP)

set_option maxHeartbeats 4000000 in
set_option maxRecDepth 100000 in
/-- add(key, value) -/
theorem c_X2_add (l : Launch) (D : va_G) (cy : ClassId) (aD aE aK aV aW aR : Nat) (k v : Nat → Int32) (c : Nat) (hc : c ≤ 512) (lo : Int64) (li : Bool) (hi : Int64) (hn : Bool) (fl : Bool) (nd : ([aD, aE, aK, aV] : List Nat).Nodup) (nr : ¬ aR ∈ ([aD, aE, aK, aV] : List Nat)) (sz : Nat) (hc2 : c < 512) (x y : Int32) : Met l yX2_add wsX2_add ({ frames := 2, cells := 0, slots := 0, locals := 49 } : Room) (pcZ D [(cy, .int)] [.ref aD, .int x, .int y] [(aD, .inr (2, [.ref aE, .ref aW, .ref aR, .int (bI fl)])), (aE, .inr (0, [.ref aK, .ref aV, .int (nI c)])), (aK, .inl (cy, 512, .inl k)), (aV, .inl (cy, 512, .inl v)), (aR, .inr (1, [.long lo, .int (bI li), .long hi, .int (bI hn)]))] sz) (qM (some (.long (vOf k v c x))) (fun H => va_P D vwCl (dW cy aD aE aK aV aW aR ((adT k v c x y).2.1) ((adT k v c x y).2.2) ((adT k v c x y).1) lo li hi hn fl) H) (mA [aE, aK, aV] sz)) 0 0 (mA [aE, aK, aV] sz) := by
  refine met_Z (cc := cX2_add) (maxL := 5) (ret := (some .long)) (by decide +kernel) rfl (Nat.le_of_ble_eq_true rfl) ?_
  intro pM eM s mM below meth cM ls hx hb hr hts hown hlocks hml hnm hsz hK hP hl
  have hown : s.vm.findClass RX2 = some mM.cls := hown
  have hl : lv_has ls 5 [(0, .ref aD), (1, .int x), (2, .int y)] := hl
  have hin_X2 : ∀ w ∈ wsX20, w ∈ wsX2_add := by decide +kernel
  have kf_12 := hts (.fieldLink RX2 12 "OrderedDesk" "entries" "LOrderedDesk$Entries;") (by decide +kernel)
  have kc_44 := hts (.constantLong RX2 44 (1099511627776)) (by decide +kernel)
  have hP : va_P D vwCl [(aD, .inr (2, [.ref aE, .ref aW, .ref aR, .int (bI fl)])), (aE, .inr (0, [.ref aK, .ref aV, .int (nI c)])), (aK, .inl (cy, 512, .inl k)), (aV, .inl (cy, 512, .inl v)), (aR, .inr (1, [.long lo, .int (bI li), .long hi, .int (bI hn)]))] s.heap := hP
  subst hsz
  have hS : va_S (mA [aE, aK, aV] s.heap.size) s.heap s.heap [] := va_S.rf
  simp only [List.nodup_cons, List.mem_cons, List.not_mem_nil, or_false, not_or, not_false_eq_true, List.nodup_nil, and_true] at nd nr
  refine lv_aload_n hx hb dX2_add_0 rfl (lv_at hl 0 rfl) ?_
  refine va_get (ci := 2) (v := .ref aE) (C := RX2) (T := TX2) (N := 4) hx hb hts hin_X2 hown hK hP 0 rfl rfl 0 (by decide) kf_12 (fun _ h9 => h9) rfl dX2_add_1 ?_
  refine lv_iload_n hx hb dX2_add_4 rfl (lv_at hl 1 rfl) ?_
  refine go_R (va_runV (As := [.int x]) (rest := []) ⟨hx, hb, hml, hown, hts⟩ (c_X0_valueOf l D cy aE aK aV k v c (by omega) x) (cwV 1 hts gX2_add_X0_valueOf rfl rfl rfl (by decide +kernel) ⟨(Nat.le_of_ble_eq_true rfl), (Nat.le_of_ble_eq_true rfl)⟩) (preV_W hK (hP.sub [1, 2, 3] rfl) 0 0 rfl rfl) rfl rfl hl.1 rfl (lv_room (Nat.le_of_ble_eq_true rfl)) dX2_add_5 ⟨(Nat.le_of_ble_eq_true rfl), (Nat.le_of_ble_eq_true rfl)⟩) ?_
  refine lv_lstore_n (lv' := [(3, .long (vOf k v c x)), (0, .ref aD), (1, .int x), (2, .int y)]) hx hb dX2_add_8 rfl hl (by decide) rfl (fun ls hl => ?_)
  refine lv_lload_n hx hb dX2_add_9 rfl (lv_at hl 0 rfl) ?_
  refine lv_ldc2 hx hb hown kc_44 dX2_add_10 ?_
  refine l_ne (tgt := 29) hx hb dX2_add_13 dX2_add_14 (by decide) (fun h13 => ?_) (fun h13 => ?_)
  · have e1 : adT k v c x y = (c, k, v) := if_neg h13
    refine lv_lload_n hx hb dX2_add_29 rfl (lv_at hl 0 rfl) ?_
    exact ret_lM hx hb hr hlocks dX2_add_30 hS (rfl) (by rw [e1]; exact hP)
  · have e1 : adT k v c x y = (stC k c x, stK k c x, stV k v c x y) := if_pos h13
    refine lv_aload_n hx hb dX2_add_17 rfl (lv_at hl 1 rfl) ?_
    refine va_get (ci := 2) (v := .ref aE) (C := RX2) (T := TX2) (N := 4) hx hb hts hin_X2 hown hK hP 0 rfl rfl 0 (by decide) kf_12 (fun _ h9 => h9) rfl dX2_add_18 ?_
    refine lv_iload_n hx hb dX2_add_21 rfl (lv_at hl 2 rfl) ?_
    refine lv_iload_n hx hb dX2_add_22 rfl (lv_at hl 3 rfl) ?_
    refine go_M (va_runV (As := [.int x, .int y]) (rest := []) ⟨hx, hb, hml, hown, hts⟩ (c_X0_store l D cy aE aK aV k v c (by omega) (by simp; omega) _ (by omega) x y) (cwV 2 hts gX2_add_X0_store rfl rfl rfl (by decide +kernel) ⟨(Nat.le_of_ble_eq_true rfl), (Nat.le_of_ble_eq_true rfl)⟩) (preV_Z hK (hP.sub [1, 2, 3] rfl) 0 0 rfl rfl) rfl rfl hl.1 rfl (lv_room (Nat.le_of_ble_eq_true rfl)) dX2_add_23 ⟨(Nat.le_of_ble_eq_true rfl), (Nat.le_of_ble_eq_true rfl)⟩) hS (fun q h => mA_sub [0, 1, 2] rfl hS.1 h) (fun H1 locs1 hB hzz hk hS => ?_)
    have hP : va_P D vwCl [(aD, .inr (2, [.ref aE, .ref aW, .ref aR, .int (bI fl)])), (aE, .inr (0, [.ref aK, .ref aV, .int (nI (stC k c x))])), (aK, .inl (cy, 512, .inl (stK k c x))), (aV, .inl (cy, 512, .inl (stV k v c x y))), (aR, .inr (1, [.long lo, .int (bI li), .long hi, .int (bI hn)]))] H1 := ((P_keepM (ws := [(aD, .inr (2, [.ref aE, .ref aW, .ref aR, .int (bI fl)])), (aR, .inr (1, [.long lo, .int (bI li), .long hi, .int (bI hn)]))]) (hP.sub [0, 4] rfl) (by intro q hq; simp only [List.map_cons, List.map_nil, List.mem_cons, List.not_mem_nil, or_false, not_or] at hq ⊢; omega) hk).app hB).sub [0, 2, 3, 4, 1] rfl
    clear hB
    generalize H1 = H at hP hS ⊢
    generalize locs1 = locs at hS ⊢
    refine lv_goto (tgt := 30) hx hb dX2_add_26 (by decide) ?_
    exact ret_lM hx hb hr hlocks dX2_add_30 hS (rfl) (by rw [e1]; exact hP)

set_option maxHeartbeats 4000000 in
set_option maxRecDepth 100000 in
/-- remove(key) -/
theorem c_X2_remove (l : Launch) (D : va_G) (cy : ClassId) (aD aE aK aV aW aR : Nat) (k v : Nat → Int32) (c : Nat) (hc : c ≤ 512) (lo : Int64) (li : Bool) (hi : Int64) (hn : Bool) (fl : Bool) (nd : ([aD, aE, aK, aV] : List Nat).Nodup) (nr : ¬ aR ∈ ([aD, aE, aK, aV] : List Nat)) (sz : Nat) (x : Int32) : Met l yX2_remove wsX2_remove ({ frames := 4, cells := 0, slots := 0, locals := 95 } : Room) (pcZ D [(cy, .int)] [.ref aD, .int x] [(aD, .inr (2, [.ref aE, .ref aW, .ref aR, .int (bI fl)])), (aE, .inr (0, [.ref aK, .ref aV, .int (nI c)])), (aK, .inl (cy, 512, .inl k)), (aV, .inl (cy, 512, .inl v)), (aR, .inr (1, [.long lo, .int (bI li), .long hi, .int (bI hn)]))] sz) (qM (some (.long (vOf k v c x))) (fun H => va_P D vwCl (dW cy aD aE aK aV aW aR ((drp k v c x).2.1) ((drp k v c x).2.2) ((drp k v c x).1) lo li hi hn fl) H) (mA [aE, aK, aV] sz)) 0 0 (mA [aE, aK, aV] sz) := by
  refine met_Z (cc := cX2_remove) (maxL := 2) (ret := (some .long)) (by decide +kernel) rfl (Nat.le_of_ble_eq_true rfl) ?_
  intro pM eM s mM below meth cM ls hx hb hr hts hown hlocks hml hnm hsz hK hP hl
  have hown : s.vm.findClass RX2 = some mM.cls := hown
  have hl : lv_has ls 2 [(0, .ref aD), (1, .int x)] := hl
  have hin_X2 : ∀ w ∈ wsX20, w ∈ wsX2_remove := by decide +kernel
  have kf_12 := hts (.fieldLink RX2 12 "OrderedDesk" "entries" "LOrderedDesk$Entries;") (by decide +kernel)
  have hP : va_P D vwCl [(aD, .inr (2, [.ref aE, .ref aW, .ref aR, .int (bI fl)])), (aE, .inr (0, [.ref aK, .ref aV, .int (nI c)])), (aK, .inl (cy, 512, .inl k)), (aV, .inl (cy, 512, .inl v)), (aR, .inr (1, [.long lo, .int (bI li), .long hi, .int (bI hn)]))] s.heap := hP
  subst hsz
  have hS : va_S (mA [aE, aK, aV] s.heap.size) s.heap s.heap [] := va_S.rf
  simp only [List.nodup_cons, List.mem_cons, List.not_mem_nil, or_false, not_or, not_false_eq_true, List.nodup_nil, and_true] at nd nr
  refine lv_aload_n hx hb dX2_remove_0 rfl (lv_at hl 0 rfl) ?_
  refine va_get (ci := 2) (v := .ref aE) (C := RX2) (T := TX2) (N := 4) hx hb hts hin_X2 hown hK hP 0 rfl rfl 0 (by decide) kf_12 (fun _ h9 => h9) rfl dX2_remove_1 ?_
  refine lv_iload_n hx hb dX2_remove_4 rfl (lv_at hl 1 rfl) ?_
  refine go_M (va_runV (As := [.int x]) (rest := []) ⟨hx, hb, hml, hown, hts⟩ (c_X0_drop l D cy aE aK aV k v c (by omega) (by simp; omega) _ x) (cwV 1 hts gX2_remove_X0_drop rfl rfl rfl (by decide +kernel) ⟨(Nat.le_of_ble_eq_true rfl), (Nat.le_of_ble_eq_true rfl)⟩) (preV_Z hK (hP.sub [1, 2, 3] rfl) 0 0 rfl rfl) rfl rfl hl.1 rfl (lv_room (Nat.le_of_ble_eq_true rfl)) dX2_remove_5 ⟨(Nat.le_of_ble_eq_true rfl), (Nat.le_of_ble_eq_true rfl)⟩) hS (fun q h => mA_sub [0, 1, 2] rfl hS.1 h) (fun H1 locs1 hB hzz hk hS => ?_)
  have hP : va_P D vwCl [(aD, .inr (2, [.ref aE, .ref aW, .ref aR, .int (bI fl)])), (aE, .inr (0, [.ref aK, .ref aV, .int (nI ((drp k v c x).1))])), (aK, .inl (cy, 512, .inl ((drp k v c x).2.1))), (aV, .inl (cy, 512, .inl ((drp k v c x).2.2))), (aR, .inr (1, [.long lo, .int (bI li), .long hi, .int (bI hn)]))] H1 := ((P_keepM (ws := [(aD, .inr (2, [.ref aE, .ref aW, .ref aR, .int (bI fl)])), (aR, .inr (1, [.long lo, .int (bI li), .long hi, .int (bI hn)]))]) (hP.sub [0, 4] rfl) (by intro q hq; simp only [List.map_cons, List.map_nil, List.mem_cons, List.not_mem_nil, or_false, not_or] at hq ⊢; omega) hk).app hB).sub [0, 2, 3, 4, 1] rfl
  clear hB
  generalize H1 = H at hP hS ⊢
  generalize locs1 = locs at hS ⊢
  exact ret_lM hx hb hr hlocks dX2_remove_8 hS (rfl) (hP)

set_option maxHeartbeats 4000000 in
set_option maxRecDepth 100000 in
/-- clear() -/
theorem c_X2_clear (l : Launch) (D : va_G) (cy : ClassId) (aD aE aK aV aW aR : Nat) (k v : Nat → Int32) (c : Nat) (hc : c ≤ 512) (lo : Int64) (li : Bool) (hi : Int64) (hn : Bool) (fl : Bool) (nd : ([aD, aE, aK, aV] : List Nat).Nodup) (nr : ¬ aR ∈ ([aD, aE, aK, aV] : List Nat)) (sz : Nat) : Met l yX2_clear wsX2_clear ({ frames := 3, cells := 0, slots := 0, locals := 71 } : Room) (pcZ D [(cy, .int)] [.ref aD] [(aD, .inr (2, [.ref aE, .ref aW, .ref aR, .int (bI fl)])), (aE, .inr (0, [.ref aK, .ref aV, .int (nI c)])), (aK, .inl (cy, 512, .inl k)), (aV, .inl (cy, 512, .inl v)), (aR, .inr (1, [.long lo, .int (bI li), .long hi, .int (bI hn)]))] sz) (qM (some (.int (nI (c - (dlK 1 0 0 c c k v).1)))) (fun H => va_P D vwCl (dW cy aD aE aK aV aW aR ((dlK 1 0 0 c c k v).2.1) ((dlK 1 0 0 c c k v).2.2) ((dlK 1 0 0 c c k v).1) lo li hi hn fl) H) (mA [aE, aK, aV] sz)) 0 0 (mA [aE, aK, aV] sz) := by
  refine met_Z (cc := cX2_clear) (maxL := 1) (ret := (some .int)) (by decide +kernel) rfl (Nat.le_of_ble_eq_true rfl) ?_
  intro pM eM s mM below meth cM ls hx hb hr hts hown hlocks hml hnm hsz hK hP hl
  have hown : s.vm.findClass RX2 = some mM.cls := hown
  have hl : lv_has ls 1 [(0, .ref aD)] := hl
  have hin_X2 : ∀ w ∈ wsX20, w ∈ wsX2_clear := by decide +kernel
  have kf_12 := hts (.fieldLink RX2 12 "OrderedDesk" "entries" "LOrderedDesk$Entries;") (by decide +kernel)
  have hP : va_P D vwCl [(aD, .inr (2, [.ref aE, .ref aW, .ref aR, .int (bI fl)])), (aE, .inr (0, [.ref aK, .ref aV, .int (nI c)])), (aK, .inl (cy, 512, .inl k)), (aV, .inl (cy, 512, .inl v)), (aR, .inr (1, [.long lo, .int (bI li), .long hi, .int (bI hn)]))] s.heap := hP
  subst hsz
  have hS : va_S (mA [aE, aK, aV] s.heap.size) s.heap s.heap [] := va_S.rf
  simp only [List.nodup_cons, List.mem_cons, List.not_mem_nil, or_false, not_or, not_false_eq_true, List.nodup_nil, and_true] at nd nr
  refine lv_aload_n hx hb dX2_clear_0 rfl (lv_at hl 0 rfl) ?_
  refine va_get (ci := 2) (v := .ref aE) (C := RX2) (T := TX2) (N := 4) hx hb hts hin_X2 hown hK hP 0 rfl rfl 0 (by decide) kf_12 (fun _ h9 => h9) rfl dX2_clear_1 ?_
  refine lv_iconst (v := nI 0) hx hb dX2_clear_4 (by decide) ?_
  refine lv_aload_n hx hb dX2_clear_5 rfl (lv_at hl 0 rfl) ?_
  refine va_get (ci := 2) (v := .ref aE) (C := RX2) (T := TX2) (N := 4) hx hb hts hin_X2 hown hK hP 0 rfl rfl 0 (by decide) kf_12 (fun _ h9 => h9) rfl dX2_clear_6 ?_
  refine go_R (va_runV (As := []) (rest := [.int (nI 0), .ref aE]) ⟨hx, hb, hml, hown, hts⟩ (c_X0_count l D cy aE aK aV k v c (by omega)) (cwV 0 hts gX2_clear_X0_count rfl rfl rfl (by decide +kernel) ⟨(Nat.le_of_ble_eq_true rfl), (Nat.le_of_ble_eq_true rfl)⟩) (preV_W hK (hP.sub [1, 2, 3] rfl) 0 0 rfl rfl) rfl rfl hl.1 rfl (lv_room (Nat.le_of_ble_eq_true rfl)) dX2_clear_9 ⟨(Nat.le_of_ble_eq_true rfl), (Nat.le_of_ble_eq_true rfl)⟩) ?_
  refine go_M (va_runV (As := [.int (nI 0), .int (nI c)]) (rest := []) ⟨hx, hb, hml, hown, hts⟩ (c_X0_dropPlaces l D cy aE aK aV k v c (by omega) (by simp; omega) _ 0 c (by omega) (by omega)) (cwV 2 hts gX2_clear_X0_dropPlaces rfl rfl rfl (by decide +kernel) ⟨(Nat.le_of_ble_eq_true rfl), (Nat.le_of_ble_eq_true rfl)⟩) (preV_Z hK (hP.sub [1, 2, 3] rfl) 0 0 rfl rfl) rfl rfl hl.1 rfl (lv_room (Nat.le_of_ble_eq_true rfl)) dX2_clear_12 ⟨(Nat.le_of_ble_eq_true rfl), (Nat.le_of_ble_eq_true rfl)⟩) hS (fun q h => mA_sub [0, 1, 2] rfl hS.1 h) (fun H1 locs1 hB hzz hk hS => ?_)
  have hP : va_P D vwCl [(aD, .inr (2, [.ref aE, .ref aW, .ref aR, .int (bI fl)])), (aE, .inr (0, [.ref aK, .ref aV, .int (nI ((dlK 1 0 0 c c k v).1))])), (aK, .inl (cy, 512, .inl ((dlK 1 0 0 c c k v).2.1))), (aV, .inl (cy, 512, .inl ((dlK 1 0 0 c c k v).2.2))), (aR, .inr (1, [.long lo, .int (bI li), .long hi, .int (bI hn)]))] H1 := ((P_keepM (ws := [(aD, .inr (2, [.ref aE, .ref aW, .ref aR, .int (bI fl)])), (aR, .inr (1, [.long lo, .int (bI li), .long hi, .int (bI hn)]))]) (hP.sub [0, 4] rfl) (by intro q hq; simp only [List.map_cons, List.map_nil, List.mem_cons, List.not_mem_nil, or_false, not_or] at hq ⊢; omega) hk).app hB).sub [0, 2, 3, 4, 1] rfl
  clear hB
  generalize H1 = H at hP hS ⊢
  generalize locs1 = locs at hS ⊢
  exact ret_iM hx hb hr hlocks dX2_clear_15 hS (rfl) (hP)

set_option maxHeartbeats 4000000 in
set_option maxRecDepth 100000 in
/-- pollWithin(greatest, begin, end) -/
theorem c_X2_pollWithin (l : Launch) (D : va_G) (cy : ClassId) (aD aE aK aV aW aR : Nat) (k v : Nat → Int32) (c : Nat) (hc : c ≤ 512) (lo : Int64) (li : Bool) (hi : Int64) (hn : Bool) (fl : Bool) (nd : ([aD, aE, aK, aV] : List Nat).Nodup) (nr : ¬ aR ∈ ([aD, aE, aK, aV] : List Nat)) (sz : Nat) (g : Bool) (b f : Nat) (hb2 : b ≤ 512) (hf2 : f ≤ c) : Met l yX2_pollWithin wsX2_pollWithin ({ frames := 3, cells := 0, slots := 0, locals := 71 } : Room) (pcZ D [(cy, .int)] [.ref aD, .int (bI g), .int (nI b), .int (nI f)] [(aD, .inr (2, [.ref aE, .ref aW, .ref aR, .int (bI fl)])), (aE, .inr (0, [.ref aK, .ref aV, .int (nI c)])), (aK, .inl (cy, 512, .inl k)), (aV, .inl (cy, 512, .inl v)), (aR, .inr (1, [.long lo, .int (bI li), .long hi, .int (bI hn)]))] sz) (qM (some (.long (kW k (pj g b f) b f))) (fun H => va_P D vwCl (dW cy aD aE aK aV aW aR ((plP k v c g b f).2.1) ((plP k v c g b f).2.2) ((plP k v c g b f).1) lo li hi hn fl) H) (mA [aE, aK, aV] sz)) 0 0 (mA [aE, aK, aV] sz) := by
  refine met_Z (cc := cX2_pollWithin) (maxL := 7) (ret := (some .long)) (by decide +kernel) rfl (Nat.le_of_ble_eq_true rfl) ?_
  intro pM eM s mM below meth cM ls hx hb hr hts hown hlocks hml hnm hsz hK hP hl
  have hown : s.vm.findClass RX2 = some mM.cls := hown
  have hl : lv_has ls 7 [(0, .ref aD), (1, .int (bI g)), (2, .int (nI b)), (3, .int (nI f))] := hl
  have hin_X2 : ∀ w ∈ wsX20, w ∈ wsX2_pollWithin := by decide +kernel
  have kf_12 := hts (.fieldLink RX2 12 "OrderedDesk" "entries" "LOrderedDesk$Entries;") (by decide +kernel)
  have kc_44 := hts (.constantLong RX2 44 (1099511627776)) (by decide +kernel)
  have hP : va_P D vwCl [(aD, .inr (2, [.ref aE, .ref aW, .ref aR, .int (bI fl)])), (aE, .inr (0, [.ref aK, .ref aV, .int (nI c)])), (aK, .inl (cy, 512, .inl k)), (aV, .inl (cy, 512, .inl v)), (aR, .inr (1, [.long lo, .int (bI li), .long hi, .int (bI hn)]))] s.heap := hP
  subst hsz
  have hS : va_S (mA [aE, aK, aV] s.heap.size) s.heap s.heap [] := va_S.rf
  simp only [List.nodup_cons, List.mem_cons, List.not_mem_nil, or_false, not_or, not_false_eq_true, List.nodup_nil, and_true] at nd nr
  refine lv_iload_n hx hb dX2_pollWithin_0 rfl (lv_at hl 1 rfl) ?_
  refine b_eq (tgt := 10) hx hb dX2_pollWithin_1 (by decide) (fun h1 => ?_) (fun h1 => ?_)
  · refine lv_iload_n hx hb dX2_pollWithin_10 rfl (lv_at hl 2 rfl) ?_
    refine lv_istore (lv' := [(4, .int (nI b)), (0, .ref aD), (1, .int (bI g)), (2, .int (nI b)), (3, .int (nI f))]) hx hb dX2_pollWithin_11 hl (by decide) rfl (fun ls hl => ?_)
    obtain ⟨x, ex⟩ : ∃ x : Int32, x = nI b := ⟨_, rfl⟩
    have hx2 : x.toInt = pj g b f := by rw [ex, nI_toInt (by omega)]; exact (if_neg (by rw [h1]; decide)).symm
    have hl : lv_has ls 7 [(4, .int x), (0, .ref aD), (1, .int (bI g)), (2, .int (nI b)), (3, .int (nI f))] := by rw [ex]; exact hl
    refine lv_aload_n hx hb dX2_pollWithin_13 rfl (lv_at hl 1 rfl) ?_
    refine lv_iload hx hb dX2_pollWithin_14 (lv_at hl 0 rfl) ?_
    refine lv_iload_n hx hb dX2_pollWithin_16 rfl (lv_at hl 3 rfl) ?_
    refine lv_iload_n hx hb dX2_pollWithin_17 rfl (lv_at hl 4 rfl) ?_
    refine go_R (va_runV (As := [.int x, .int (nI b), .int (nI f)]) (rest := []) ⟨hx, hb, hml, hown, hts⟩ (c_X2_keyWithin l D cy aD aE aK aV aW aR k v c (by omega) lo li hi hn fl x b f (by omega) (by omega)) (cwV 3 hts gX2_pollWithin_X2_keyWithin rfl rfl rfl (by decide +kernel) ⟨(Nat.le_of_ble_eq_true rfl), (Nat.le_of_ble_eq_true rfl)⟩) (preV_W hK (hP.sub [0, 1, 2, 3, 4] rfl) 0 2 rfl rfl) rfl rfl hl.1 rfl (lv_room (Nat.le_of_ble_eq_true rfl)) dX2_pollWithin_18 ⟨(Nat.le_of_ble_eq_true rfl), (Nat.le_of_ble_eq_true rfl)⟩) ?_
    refine lv_lstore (lv' := [(5, .long (kW k x.toInt b f)), (4, .int x), (0, .ref aD), (1, .int (bI g)), (2, .int (nI b)), (3, .int (nI f))]) hx hb dX2_pollWithin_21 hl (by decide) rfl (fun ls hl => ?_)
    refine lv_lload hx hb dX2_pollWithin_23 (lv_at hl 0 rfl) ?_
    refine lv_ldc2 hx hb hown kc_44 dX2_pollWithin_25 ?_
    refine l_eq (tgt := 46) hx hb dX2_pollWithin_28 dX2_pollWithin_29 (by decide) (fun h28 => ?_) (fun h28 => ?_)
    · rw [hx2] at h28
      have hz : kW k x.toInt b f = kW k (pj g b f) b f := by rw [hx2]
      have e1 : plP k v c g b f = (c, k, v) := if_pos h28
      refine lv_lload hx hb dX2_pollWithin_46 (lv_at hl 0 rfl) ?_
      exact ret_lM hx hb hr hlocks dX2_pollWithin_48 hS (hz) (by rw [e1]; exact hP)
    · have hin := kW_in h28
      have hz : kW k x.toInt b f = kW k (pj g b f) b f := by rw [hx2]
      obtain ⟨j, hj⟩ : ∃ j : Nat, x.toInt = (j : Int) := ⟨x.toInt.toNat, by omega⟩
      have hjx : x = nI j := I32_of hj (by omega)
      have e1 : plP k v c g b f = dlK 1 0 j (j + 1) c k v := by rw [hx2] at h28; unfold plP; rw [if_neg h28, ← hx2, hj, Int.toNat_natCast]
      rw [hjx] at hl hz
      refine lv_aload_n hx hb dX2_pollWithin_32 rfl (lv_at hl 2 rfl) ?_
      refine va_get (ci := 2) (v := .ref aE) (C := RX2) (T := TX2) (N := 4) hx hb hts hin_X2 hown hK hP 0 rfl rfl 0 (by decide) kf_12 (fun _ h9 => h9) rfl dX2_pollWithin_33 ?_
      refine lv_iload hx hb dX2_pollWithin_36 (lv_at hl 1 rfl) ?_
      refine lv_iload hx hb dX2_pollWithin_38 (lv_at hl 1 rfl) ?_
      refine lv_iconst (v := nI 1) hx hb dX2_pollWithin_40 (by decide) ?_
      refine lv_iadd hx hb dX2_pollWithin_41 ?_
      refine top_i (y := nI (j + 1)) (nI_add _ _) ?_
      refine go_M (va_runV (As := [.int (nI j), .int (nI (j + 1))]) (rest := []) ⟨hx, hb, hml, hown, hts⟩ (c_X0_dropPlaces l D cy aE aK aV k v c (by omega) (by simp; omega) _ j (j + 1) (by omega) (by omega)) (cwV 2 hts gX2_pollWithin_X0_dropPlaces rfl rfl rfl (by decide +kernel) ⟨(Nat.le_of_ble_eq_true rfl), (Nat.le_of_ble_eq_true rfl)⟩) (preV_Z hK (hP.sub [1, 2, 3] rfl) 0 0 rfl rfl) rfl rfl hl.1 rfl (lv_room (Nat.le_of_ble_eq_true rfl)) dX2_pollWithin_42 ⟨(Nat.le_of_ble_eq_true rfl), (Nat.le_of_ble_eq_true rfl)⟩) hS (fun q h => mA_sub [0, 1, 2] rfl hS.1 h) (fun H1 locs1 hB hzz hk hS => ?_)
      have hP : va_P D vwCl [(aD, .inr (2, [.ref aE, .ref aW, .ref aR, .int (bI fl)])), (aE, .inr (0, [.ref aK, .ref aV, .int (nI ((dlK 1 0 j (j + 1) c k v).1))])), (aK, .inl (cy, 512, .inl ((dlK 1 0 j (j + 1) c k v).2.1))), (aV, .inl (cy, 512, .inl ((dlK 1 0 j (j + 1) c k v).2.2))), (aR, .inr (1, [.long lo, .int (bI li), .long hi, .int (bI hn)]))] H1 := ((P_keepM (ws := [(aD, .inr (2, [.ref aE, .ref aW, .ref aR, .int (bI fl)])), (aR, .inr (1, [.long lo, .int (bI li), .long hi, .int (bI hn)]))]) (hP.sub [0, 4] rfl) (by intro q hq; simp only [List.map_cons, List.map_nil, List.mem_cons, List.not_mem_nil, or_false, not_or] at hq ⊢; omega) hk).app hB).sub [0, 2, 3, 4, 1] rfl
      clear hB
      generalize H1 = H at hP hS ⊢
      generalize locs1 = locs at hS ⊢
      refine lv_pop hx hb dX2_pollWithin_45 rfl ?_
      refine lv_lload hx hb dX2_pollWithin_46 (lv_at hl 0 rfl) ?_
      exact ret_lM hx hb hr hlocks dX2_pollWithin_48 hS (hz) (by rw [e1]; exact hP)
  · refine lv_iload_n hx hb dX2_pollWithin_4 rfl (lv_at hl 3 rfl) ?_
    refine lv_iconst (v := 1) hx hb dX2_pollWithin_5 (by decide) ?_
    refine lv_isub hx hb dX2_pollWithin_6 ?_
    refine lv_goto (tgt := 11) hx hb dX2_pollWithin_7 (by decide) ?_
    refine lv_istore (lv' := [(4, .int ((nI f) - 1)), (0, .ref aD), (1, .int (bI g)), (2, .int (nI b)), (3, .int (nI f))]) hx hb dX2_pollWithin_11 hl (by decide) rfl (fun ls hl => ?_)
    obtain ⟨x, ex⟩ : ∃ x : Int32, x = (nI f) - 1 := ⟨_, rfl⟩
    have hx2 : x.toInt = pj g b f := by rw [ex, nI_m1I (by omega)]; exact (if_pos h1).symm
    have hl : lv_has ls 7 [(4, .int x), (0, .ref aD), (1, .int (bI g)), (2, .int (nI b)), (3, .int (nI f))] := by rw [ex]; exact hl
    refine lv_aload_n hx hb dX2_pollWithin_13 rfl (lv_at hl 1 rfl) ?_
    refine lv_iload hx hb dX2_pollWithin_14 (lv_at hl 0 rfl) ?_
    refine lv_iload_n hx hb dX2_pollWithin_16 rfl (lv_at hl 3 rfl) ?_
    refine lv_iload_n hx hb dX2_pollWithin_17 rfl (lv_at hl 4 rfl) ?_
    refine go_R (va_runV (As := [.int x, .int (nI b), .int (nI f)]) (rest := []) ⟨hx, hb, hml, hown, hts⟩ (c_X2_keyWithin l D cy aD aE aK aV aW aR k v c (by omega) lo li hi hn fl x b f (by omega) (by omega)) (cwV 3 hts gX2_pollWithin_X2_keyWithin rfl rfl rfl (by decide +kernel) ⟨(Nat.le_of_ble_eq_true rfl), (Nat.le_of_ble_eq_true rfl)⟩) (preV_W hK (hP.sub [0, 1, 2, 3, 4] rfl) 0 2 rfl rfl) rfl rfl hl.1 rfl (lv_room (Nat.le_of_ble_eq_true rfl)) dX2_pollWithin_18 ⟨(Nat.le_of_ble_eq_true rfl), (Nat.le_of_ble_eq_true rfl)⟩) ?_
    refine lv_lstore (lv' := [(5, .long (kW k x.toInt b f)), (4, .int x), (0, .ref aD), (1, .int (bI g)), (2, .int (nI b)), (3, .int (nI f))]) hx hb dX2_pollWithin_21 hl (by decide) rfl (fun ls hl => ?_)
    refine lv_lload hx hb dX2_pollWithin_23 (lv_at hl 0 rfl) ?_
    refine lv_ldc2 hx hb hown kc_44 dX2_pollWithin_25 ?_
    refine l_eq (tgt := 46) hx hb dX2_pollWithin_28 dX2_pollWithin_29 (by decide) (fun h28 => ?_) (fun h28 => ?_)
    · rw [hx2] at h28
      have hz : kW k x.toInt b f = kW k (pj g b f) b f := by rw [hx2]
      have e1 : plP k v c g b f = (c, k, v) := if_pos h28
      refine lv_lload hx hb dX2_pollWithin_46 (lv_at hl 0 rfl) ?_
      exact ret_lM hx hb hr hlocks dX2_pollWithin_48 hS (hz) (by rw [e1]; exact hP)
    · have hin := kW_in h28
      have hz : kW k x.toInt b f = kW k (pj g b f) b f := by rw [hx2]
      obtain ⟨j, hj⟩ : ∃ j : Nat, x.toInt = (j : Int) := ⟨x.toInt.toNat, by omega⟩
      have hjx : x = nI j := I32_of hj (by omega)
      have e1 : plP k v c g b f = dlK 1 0 j (j + 1) c k v := by rw [hx2] at h28; unfold plP; rw [if_neg h28, ← hx2, hj, Int.toNat_natCast]
      rw [hjx] at hl hz
      refine lv_aload_n hx hb dX2_pollWithin_32 rfl (lv_at hl 2 rfl) ?_
      refine va_get (ci := 2) (v := .ref aE) (C := RX2) (T := TX2) (N := 4) hx hb hts hin_X2 hown hK hP 0 rfl rfl 0 (by decide) kf_12 (fun _ h9 => h9) rfl dX2_pollWithin_33 ?_
      refine lv_iload hx hb dX2_pollWithin_36 (lv_at hl 1 rfl) ?_
      refine lv_iload hx hb dX2_pollWithin_38 (lv_at hl 1 rfl) ?_
      refine lv_iconst (v := nI 1) hx hb dX2_pollWithin_40 (by decide) ?_
      refine lv_iadd hx hb dX2_pollWithin_41 ?_
      refine top_i (y := nI (j + 1)) (nI_add _ _) ?_
      refine go_M (va_runV (As := [.int (nI j), .int (nI (j + 1))]) (rest := []) ⟨hx, hb, hml, hown, hts⟩ (c_X0_dropPlaces l D cy aE aK aV k v c (by omega) (by simp; omega) _ j (j + 1) (by omega) (by omega)) (cwV 2 hts gX2_pollWithin_X0_dropPlaces rfl rfl rfl (by decide +kernel) ⟨(Nat.le_of_ble_eq_true rfl), (Nat.le_of_ble_eq_true rfl)⟩) (preV_Z hK (hP.sub [1, 2, 3] rfl) 0 0 rfl rfl) rfl rfl hl.1 rfl (lv_room (Nat.le_of_ble_eq_true rfl)) dX2_pollWithin_42 ⟨(Nat.le_of_ble_eq_true rfl), (Nat.le_of_ble_eq_true rfl)⟩) hS (fun q h => mA_sub [0, 1, 2] rfl hS.1 h) (fun H1 locs1 hB hzz hk hS => ?_)
      have hP : va_P D vwCl [(aD, .inr (2, [.ref aE, .ref aW, .ref aR, .int (bI fl)])), (aE, .inr (0, [.ref aK, .ref aV, .int (nI ((dlK 1 0 j (j + 1) c k v).1))])), (aK, .inl (cy, 512, .inl ((dlK 1 0 j (j + 1) c k v).2.1))), (aV, .inl (cy, 512, .inl ((dlK 1 0 j (j + 1) c k v).2.2))), (aR, .inr (1, [.long lo, .int (bI li), .long hi, .int (bI hn)]))] H1 := ((P_keepM (ws := [(aD, .inr (2, [.ref aE, .ref aW, .ref aR, .int (bI fl)])), (aR, .inr (1, [.long lo, .int (bI li), .long hi, .int (bI hn)]))]) (hP.sub [0, 4] rfl) (by intro q hq; simp only [List.map_cons, List.map_nil, List.mem_cons, List.not_mem_nil, or_false, not_or] at hq ⊢; omega) hk).app hB).sub [0, 2, 3, 4, 1] rfl
      clear hB
      generalize H1 = H at hP hS ⊢
      generalize locs1 = locs at hS ⊢
      refine lv_pop hx hb dX2_pollWithin_45 rfl ?_
      refine lv_lload hx hb dX2_pollWithin_46 (lv_at hl 0 rfl) ?_
      exact ret_lM hx hb hr hlocks dX2_pollWithin_48 hS (hz) (by rw [e1]; exact hP)

set_option maxHeartbeats 4000000 in
set_option maxRecDepth 100000 in
/-- poll(last) -/
theorem c_X2_poll (l : Launch) (D : va_G) (cy : ClassId) (aD aE aK aV aW aR : Nat) (k v : Nat → Int32) (c : Nat) (hc : c ≤ 512) (lo : Int64) (li : Bool) (hi : Int64) (hn : Bool) (fl : Bool) (nd : ([aD, aE, aK, aV] : List Nat).Nodup) (nr : ¬ aR ∈ ([aD, aE, aK, aV] : List Nat)) (sz : Nat) (g : Bool) : Met l yX2_poll wsX2_poll ({ frames := 4, cells := 0, slots := 0, locals := 97 } : Room) (pcZ D [(cy, .int)] [.ref aD, .int (bI g)] [(aD, .inr (2, [.ref aE, .ref aW, .ref aR, .int (bI fl)])), (aE, .inr (0, [.ref aK, .ref aV, .int (nI c)])), (aK, .inl (cy, 512, .inl k)), (aV, .inl (cy, 512, .inl v)), (aR, .inr (1, [.long lo, .int (bI li), .long hi, .int (bI hn)]))] sz) (qM (some (.long (kW k (pj g 0 c) 0 c))) (fun H => va_P D vwCl (dW cy aD aE aK aV aW aR ((plP k v c g 0 c).2.1) ((plP k v c g 0 c).2.2) ((plP k v c g 0 c).1) lo li hi hn fl) H) (mA [aE, aK, aV] sz)) 0 0 (mA [aE, aK, aV] sz) := by
  refine met_Z (cc := cX2_poll) (maxL := 2) (ret := (some .long)) (by decide +kernel) rfl (Nat.le_of_ble_eq_true rfl) ?_
  intro pM eM s mM below meth cM ls hx hb hr hts hown hlocks hml hnm hsz hK hP hl
  have hown : s.vm.findClass RX2 = some mM.cls := hown
  have hl : lv_has ls 2 [(0, .ref aD), (1, .int (bI g))] := hl
  have hin_X2 : ∀ w ∈ wsX20, w ∈ wsX2_poll := by decide +kernel
  have kf_12 := hts (.fieldLink RX2 12 "OrderedDesk" "entries" "LOrderedDesk$Entries;") (by decide +kernel)
  have hP : va_P D vwCl [(aD, .inr (2, [.ref aE, .ref aW, .ref aR, .int (bI fl)])), (aE, .inr (0, [.ref aK, .ref aV, .int (nI c)])), (aK, .inl (cy, 512, .inl k)), (aV, .inl (cy, 512, .inl v)), (aR, .inr (1, [.long lo, .int (bI li), .long hi, .int (bI hn)]))] s.heap := hP
  subst hsz
  have hS : va_S (mA [aE, aK, aV] s.heap.size) s.heap s.heap [] := va_S.rf
  simp only [List.nodup_cons, List.mem_cons, List.not_mem_nil, or_false, not_or, not_false_eq_true, List.nodup_nil, and_true] at nd nr
  refine lv_aload_n hx hb dX2_poll_0 rfl (lv_at hl 0 rfl) ?_
  refine lv_iload_n hx hb dX2_poll_1 rfl (lv_at hl 1 rfl) ?_
  refine lv_iconst (v := nI 0) hx hb dX2_poll_2 (by decide) ?_
  refine lv_aload_n hx hb dX2_poll_3 rfl (lv_at hl 0 rfl) ?_
  refine va_get (ci := 2) (v := .ref aE) (C := RX2) (T := TX2) (N := 4) hx hb hts hin_X2 hown hK hP 0 rfl rfl 0 (by decide) kf_12 (fun _ h9 => h9) rfl dX2_poll_4 ?_
  refine go_R (va_runV (As := []) (rest := [.int (nI 0), .int (bI g), .ref aD]) ⟨hx, hb, hml, hown, hts⟩ (c_X0_count l D cy aE aK aV k v c (by omega)) (cwV 0 hts gX2_poll_X0_count rfl rfl rfl (by decide +kernel) ⟨(Nat.le_of_ble_eq_true rfl), (Nat.le_of_ble_eq_true rfl)⟩) (preV_W hK (hP.sub [1, 2, 3] rfl) 0 0 rfl rfl) rfl rfl hl.1 rfl (lv_room (Nat.le_of_ble_eq_true rfl)) dX2_poll_7 ⟨(Nat.le_of_ble_eq_true rfl), (Nat.le_of_ble_eq_true rfl)⟩) ?_
  refine go_M (va_runV (As := [.int (bI g), .int (nI 0), .int (nI c)]) (rest := []) ⟨hx, hb, hml, hown, hts⟩ (c_X2_pollWithin l D cy aD aE aK aV aW aR k v c (by omega) lo li hi hn fl (by simp; omega) (by simp; omega) _ g 0 c (by omega) (by omega)) (cwV 3 hts gX2_poll_X2_pollWithin rfl rfl rfl (by decide +kernel) ⟨(Nat.le_of_ble_eq_true rfl), (Nat.le_of_ble_eq_true rfl)⟩) (preV_Z hK (hP.sub [0, 1, 2, 3, 4] rfl) 0 2 rfl rfl) rfl rfl hl.1 rfl (lv_room (Nat.le_of_ble_eq_true rfl)) dX2_poll_10 ⟨(Nat.le_of_ble_eq_true rfl), (Nat.le_of_ble_eq_true rfl)⟩) hS (fun q h => mA_sub [0, 1, 2] rfl hS.1 h) (fun H1 locs1 hB hzz hk hS => ?_)
  have hP : va_P D vwCl [(aD, .inr (2, [.ref aE, .ref aW, .ref aR, .int (bI fl)])), (aE, .inr (0, [.ref aK, .ref aV, .int (nI ((plP k v c g 0 c).1))])), (aK, .inl (cy, 512, .inl ((plP k v c g 0 c).2.1))), (aV, .inl (cy, 512, .inl ((plP k v c g 0 c).2.2))), (aR, .inr (1, [.long lo, .int (bI li), .long hi, .int (bI hn)]))] H1 := va_P.sub hB [0, 1, 2, 3, 4] rfl
  clear hB
  generalize H1 = H at hP hS ⊢
  generalize locs1 = locs at hS ⊢
  exact ret_lM hx hb hr hlocks dX2_poll_13 hS (rfl) (hP)

set_option maxHeartbeats 4000000 in
set_option maxRecDepth 100000 in
/-- viewPut(key, value) -/
theorem c_X2_viewPut (l : Launch) (D : va_G) (cy : ClassId) (aD aE aK aV aW aR : Nat) (k v : Nat → Int32) (c : Nat) (hc : c ≤ 512) (lo : Int64) (li : Bool) (hi : Int64) (hn : Bool) (fl : Bool) (nd : ([aD, aE, aK, aV] : List Nat).Nodup) (nr : ¬ aR ∈ ([aD, aE, aK, aV] : List Nat)) (sz : Nat) (hc2 : c < 512) (x y : Int32) : Met l yX2_viewPut wsX2_viewPut ({ frames := 2, cells := 0, slots := 0, locals := 49 } : Room) (pcZ D [(cy, .int)] [.ref aD, .int x, .int y] [(aD, .inr (2, [.ref aE, .ref aW, .ref aR, .int (bI fl)])), (aE, .inr (0, [.ref aK, .ref aV, .int (nI c)])), (aK, .inl (cy, 512, .inl k)), (aV, .inl (cy, 512, .inl v)), (aR, .inr (1, [.long lo, .int (bI li), .long hi, .int (bI hn)]))] sz) (qM (some (.long (if hR lo li hi hn x.toInt64 = true then vOf k v c x else OUT))) (fun H => va_P D vwCl (dW cy aD aE aK aV aW aR ((vPT k v c (hR lo li hi hn x.toInt64) x y).2.1) ((vPT k v c (hR lo li hi hn x.toInt64) x y).2.2) ((vPT k v c (hR lo li hi hn x.toInt64) x y).1) lo li hi hn fl) H) (mA [aE, aK, aV] sz)) 0 0 (mA [aE, aK, aV] sz) := by
  refine met_Z (cc := cX2_viewPut) (maxL := 3) (ret := (some .long)) (by decide +kernel) rfl (Nat.le_of_ble_eq_true rfl) ?_
  intro pM eM s mM below meth cM ls hx hb hr hts hown hlocks hml hnm hsz hK hP hl
  have hown : s.vm.findClass RX2 = some mM.cls := hown
  have hl : lv_has ls 3 [(0, .ref aD), (1, .int x), (2, .int y)] := hl
  have hin_X2 : ∀ w ∈ wsX20, w ∈ wsX2_viewPut := by decide +kernel
  have kf_12 := hts (.fieldLink RX2 12 "OrderedDesk" "entries" "LOrderedDesk$Entries;") (by decide +kernel)
  have kf_29 := hts (.fieldLink RX2 29 "OrderedDesk" "range" "LOrderedDesk$Range;") (by decide +kernel)
  have kc_86 := hts (.constantLong RX2 86 (1099511627777)) (by decide +kernel)
  have hP : va_P D vwCl [(aD, .inr (2, [.ref aE, .ref aW, .ref aR, .int (bI fl)])), (aE, .inr (0, [.ref aK, .ref aV, .int (nI c)])), (aK, .inl (cy, 512, .inl k)), (aV, .inl (cy, 512, .inl v)), (aR, .inr (1, [.long lo, .int (bI li), .long hi, .int (bI hn)]))] s.heap := hP
  subst hsz
  have hS : va_S (mA [aE, aK, aV] s.heap.size) s.heap s.heap [] := va_S.rf
  simp only [List.nodup_cons, List.mem_cons, List.not_mem_nil, or_false, not_or, not_false_eq_true, List.nodup_nil, and_true] at nd nr
  refine lv_aload_n hx hb dX2_viewPut_0 rfl (lv_at hl 0 rfl) ?_
  refine va_get (ci := 2) (v := .ref aR) (C := RX2) (T := TX2) (N := 4) hx hb hts hin_X2 hown hK hP 0 rfl rfl 2 (by decide) kf_29 (fun _ h9 => h9) rfl dX2_viewPut_1 ?_
  refine lv_iload_n hx hb dX2_viewPut_4 rfl (lv_at hl 1 rfl) ?_
  refine lv_i2l hx hb dX2_viewPut_5 rfl ?_
  refine go_R (va_runV (As := [.long x.toInt64]) (rest := []) ⟨hx, hb, hml, hown, hts⟩ (c_X1_holds l D cy aR lo li hi hn x.toInt64) (cwV 1 hts gX2_viewPut_X1_holds rfl rfl rfl (by decide +kernel) ⟨(Nat.le_of_ble_eq_true rfl), (Nat.le_of_ble_eq_true rfl)⟩) (preV_W hK (hP.sub [4] rfl) 0 1 rfl rfl) rfl rfl hl.1 rfl (lv_room (Nat.le_of_ble_eq_true rfl)) dX2_viewPut_6 ⟨(Nat.le_of_ble_eq_true rfl), (Nat.le_of_ble_eq_true rfl)⟩) ?_
  refine b_eq (tgt := 24) hx hb dX2_viewPut_9 (by decide) (fun h9 => ?_) (fun h9 => ?_)
  · have hz : (if hR lo li hi hn x.toInt64 = true then vOf k v c x else OUT) = OUT := if_neg (by rw [h9]; decide)
    have e1 : vPT k v c (hR lo li hi hn x.toInt64) x y = (c, k, v) := if_neg (by rw [h9]; decide)
    refine lv_ldc2 hx hb hown kc_86 dX2_viewPut_24 ?_
    exact ret_lM hx hb hr hlocks dX2_viewPut_27 hS (hz.symm) (by rw [e1]; exact hP)
  · have hz : (if hR lo li hi hn x.toInt64 = true then vOf k v c x else OUT) = vOf k v c x := if_pos h9
    have e1 : vPT k v c (hR lo li hi hn x.toInt64) x y = (stC k c x, stK k c x, stV k v c x y) := if_pos h9
    refine lv_aload_n hx hb dX2_viewPut_12 rfl (lv_at hl 0 rfl) ?_
    refine va_get (ci := 2) (v := .ref aE) (C := RX2) (T := TX2) (N := 4) hx hb hts hin_X2 hown hK hP 0 rfl rfl 0 (by decide) kf_12 (fun _ h9 => h9) rfl dX2_viewPut_13 ?_
    refine lv_iload_n hx hb dX2_viewPut_16 rfl (lv_at hl 1 rfl) ?_
    refine lv_iload_n hx hb dX2_viewPut_17 rfl (lv_at hl 2 rfl) ?_
    refine go_M (va_runV (As := [.int x, .int y]) (rest := []) ⟨hx, hb, hml, hown, hts⟩ (c_X0_store l D cy aE aK aV k v c (by omega) (by simp; omega) _ (by omega) x y) (cwV 2 hts gX2_viewPut_X0_store rfl rfl rfl (by decide +kernel) ⟨(Nat.le_of_ble_eq_true rfl), (Nat.le_of_ble_eq_true rfl)⟩) (preV_Z hK (hP.sub [1, 2, 3] rfl) 0 0 rfl rfl) rfl rfl hl.1 rfl (lv_room (Nat.le_of_ble_eq_true rfl)) dX2_viewPut_18 ⟨(Nat.le_of_ble_eq_true rfl), (Nat.le_of_ble_eq_true rfl)⟩) hS (fun q h => mA_sub [0, 1, 2] rfl hS.1 h) (fun H1 locs1 hB hzz hk hS => ?_)
    have hP : va_P D vwCl [(aD, .inr (2, [.ref aE, .ref aW, .ref aR, .int (bI fl)])), (aE, .inr (0, [.ref aK, .ref aV, .int (nI (stC k c x))])), (aK, .inl (cy, 512, .inl (stK k c x))), (aV, .inl (cy, 512, .inl (stV k v c x y))), (aR, .inr (1, [.long lo, .int (bI li), .long hi, .int (bI hn)]))] H1 := ((P_keepM (ws := [(aD, .inr (2, [.ref aE, .ref aW, .ref aR, .int (bI fl)])), (aR, .inr (1, [.long lo, .int (bI li), .long hi, .int (bI hn)]))]) (hP.sub [0, 4] rfl) (by intro q hq; simp only [List.map_cons, List.map_nil, List.mem_cons, List.not_mem_nil, or_false, not_or] at hq ⊢; omega) hk).app hB).sub [0, 2, 3, 4, 1] rfl
    clear hB
    generalize H1 = H at hP hS ⊢
    generalize locs1 = locs at hS ⊢
    refine lv_goto (tgt := 27) hx hb dX2_viewPut_21 (by decide) ?_
    exact ret_lM hx hb hr hlocks dX2_viewPut_27 hS (hz.symm) (by rw [e1]; exact hP)

set_option maxHeartbeats 4000000 in
set_option maxRecDepth 100000 in
/-- viewRemove(key) -/
theorem c_X2_viewRemove (l : Launch) (D : va_G) (cy : ClassId) (aD aE aK aV aW aR : Nat) (k v : Nat → Int32) (c : Nat) (hc : c ≤ 512) (lo : Int64) (li : Bool) (hi : Int64) (hn : Bool) (fl : Bool) (nd : ([aD, aE, aK, aV] : List Nat).Nodup) (nr : ¬ aR ∈ ([aD, aE, aK, aV] : List Nat)) (sz : Nat) (x : Int32) : Met l yX2_viewRemove wsX2_viewRemove ({ frames := 4, cells := 0, slots := 0, locals := 95 } : Room) (pcZ D [(cy, .int)] [.ref aD, .int x] [(aD, .inr (2, [.ref aE, .ref aW, .ref aR, .int (bI fl)])), (aE, .inr (0, [.ref aK, .ref aV, .int (nI c)])), (aK, .inl (cy, 512, .inl k)), (aV, .inl (cy, 512, .inl v)), (aR, .inr (1, [.long lo, .int (bI li), .long hi, .int (bI hn)]))] sz) (qM (some (.long (if hR lo li hi hn x.toInt64 = true then vOf k v c x else NO))) (fun H => va_P D vwCl (dW cy aD aE aK aV aW aR ((vRT k v c (hR lo li hi hn x.toInt64) x).2.1) ((vRT k v c (hR lo li hi hn x.toInt64) x).2.2) ((vRT k v c (hR lo li hi hn x.toInt64) x).1) lo li hi hn fl) H) (mA [aE, aK, aV] sz)) 0 0 (mA [aE, aK, aV] sz) := by
  refine met_Z (cc := cX2_viewRemove) (maxL := 2) (ret := (some .long)) (by decide +kernel) rfl (Nat.le_of_ble_eq_true rfl) ?_
  intro pM eM s mM below meth cM ls hx hb hr hts hown hlocks hml hnm hsz hK hP hl
  have hown : s.vm.findClass RX2 = some mM.cls := hown
  have hl : lv_has ls 2 [(0, .ref aD), (1, .int x)] := hl
  have hin_X2 : ∀ w ∈ wsX20, w ∈ wsX2_viewRemove := by decide +kernel
  have kf_12 := hts (.fieldLink RX2 12 "OrderedDesk" "entries" "LOrderedDesk$Entries;") (by decide +kernel)
  have kf_29 := hts (.fieldLink RX2 29 "OrderedDesk" "range" "LOrderedDesk$Range;") (by decide +kernel)
  have kc_44 := hts (.constantLong RX2 44 (1099511627776)) (by decide +kernel)
  have hP : va_P D vwCl [(aD, .inr (2, [.ref aE, .ref aW, .ref aR, .int (bI fl)])), (aE, .inr (0, [.ref aK, .ref aV, .int (nI c)])), (aK, .inl (cy, 512, .inl k)), (aV, .inl (cy, 512, .inl v)), (aR, .inr (1, [.long lo, .int (bI li), .long hi, .int (bI hn)]))] s.heap := hP
  subst hsz
  have hS : va_S (mA [aE, aK, aV] s.heap.size) s.heap s.heap [] := va_S.rf
  simp only [List.nodup_cons, List.mem_cons, List.not_mem_nil, or_false, not_or, not_false_eq_true, List.nodup_nil, and_true] at nd nr
  refine lv_aload_n hx hb dX2_viewRemove_0 rfl (lv_at hl 0 rfl) ?_
  refine va_get (ci := 2) (v := .ref aR) (C := RX2) (T := TX2) (N := 4) hx hb hts hin_X2 hown hK hP 0 rfl rfl 2 (by decide) kf_29 (fun _ h9 => h9) rfl dX2_viewRemove_1 ?_
  refine lv_iload_n hx hb dX2_viewRemove_4 rfl (lv_at hl 1 rfl) ?_
  refine lv_i2l hx hb dX2_viewRemove_5 rfl ?_
  refine go_R (va_runV (As := [.long x.toInt64]) (rest := []) ⟨hx, hb, hml, hown, hts⟩ (c_X1_holds l D cy aR lo li hi hn x.toInt64) (cwV 1 hts gX2_viewRemove_X1_holds rfl rfl rfl (by decide +kernel) ⟨(Nat.le_of_ble_eq_true rfl), (Nat.le_of_ble_eq_true rfl)⟩) (preV_W hK (hP.sub [4] rfl) 0 1 rfl rfl) rfl rfl hl.1 rfl (lv_room (Nat.le_of_ble_eq_true rfl)) dX2_viewRemove_6 ⟨(Nat.le_of_ble_eq_true rfl), (Nat.le_of_ble_eq_true rfl)⟩) ?_
  refine b_eq (tgt := 23) hx hb dX2_viewRemove_9 (by decide) (fun h9 => ?_) (fun h9 => ?_)
  · have hz : (if hR lo li hi hn x.toInt64 = true then vOf k v c x else NO) = NO := if_neg (by rw [h9]; decide)
    have e1 : vRT k v c (hR lo li hi hn x.toInt64) x = (c, k, v) := if_neg (by rw [h9]; decide)
    refine lv_ldc2 hx hb hown kc_44 dX2_viewRemove_23 ?_
    exact ret_lM hx hb hr hlocks dX2_viewRemove_26 hS (hz.symm) (by rw [e1]; exact hP)
  · have hz : (if hR lo li hi hn x.toInt64 = true then vOf k v c x else NO) = vOf k v c x := if_pos h9
    have e1 : vRT k v c (hR lo li hi hn x.toInt64) x = drp k v c x := if_pos h9
    refine lv_aload_n hx hb dX2_viewRemove_12 rfl (lv_at hl 0 rfl) ?_
    refine va_get (ci := 2) (v := .ref aE) (C := RX2) (T := TX2) (N := 4) hx hb hts hin_X2 hown hK hP 0 rfl rfl 0 (by decide) kf_12 (fun _ h9 => h9) rfl dX2_viewRemove_13 ?_
    refine lv_iload_n hx hb dX2_viewRemove_16 rfl (lv_at hl 1 rfl) ?_
    refine go_M (va_runV (As := [.int x]) (rest := []) ⟨hx, hb, hml, hown, hts⟩ (c_X0_drop l D cy aE aK aV k v c (by omega) (by simp; omega) _ x) (cwV 1 hts gX2_viewRemove_X0_drop rfl rfl rfl (by decide +kernel) ⟨(Nat.le_of_ble_eq_true rfl), (Nat.le_of_ble_eq_true rfl)⟩) (preV_Z hK (hP.sub [1, 2, 3] rfl) 0 0 rfl rfl) rfl rfl hl.1 rfl (lv_room (Nat.le_of_ble_eq_true rfl)) dX2_viewRemove_17 ⟨(Nat.le_of_ble_eq_true rfl), (Nat.le_of_ble_eq_true rfl)⟩) hS (fun q h => mA_sub [0, 1, 2] rfl hS.1 h) (fun H1 locs1 hB hzz hk hS => ?_)
    have hP : va_P D vwCl [(aD, .inr (2, [.ref aE, .ref aW, .ref aR, .int (bI fl)])), (aE, .inr (0, [.ref aK, .ref aV, .int (nI ((drp k v c x).1))])), (aK, .inl (cy, 512, .inl ((drp k v c x).2.1))), (aV, .inl (cy, 512, .inl ((drp k v c x).2.2))), (aR, .inr (1, [.long lo, .int (bI li), .long hi, .int (bI hn)]))] H1 := ((P_keepM (ws := [(aD, .inr (2, [.ref aE, .ref aW, .ref aR, .int (bI fl)])), (aR, .inr (1, [.long lo, .int (bI li), .long hi, .int (bI hn)]))]) (hP.sub [0, 4] rfl) (by intro q hq; simp only [List.map_cons, List.map_nil, List.mem_cons, List.not_mem_nil, or_false, not_or] at hq ⊢; omega) hk).app hB).sub [0, 2, 3, 4, 1] rfl
    clear hB
    generalize H1 = H at hP hS ⊢
    generalize locs1 = locs at hS ⊢
    refine lv_goto (tgt := 26) hx hb dX2_viewRemove_20 (by decide) ?_
    exact ret_lM hx hb hr hlocks dX2_viewRemove_26 hS (hz.symm) (by rw [e1]; exact hP)

set_option maxHeartbeats 4000000 in
set_option maxRecDepth 100000 in
/-- viewPoll(last) -/
theorem c_X2_viewPoll (l : Launch) (D : va_G) (cy : ClassId) (aD aE aK aV aW aR : Nat) (k v : Nat → Int32) (c : Nat) (hc : c ≤ 512) (lo : Int64) (li : Bool) (hi : Int64) (hn : Bool) (fl : Bool) (nd : ([aD, aE, aK, aV] : List Nat).Nodup) (nr : ¬ aR ∈ ([aD, aE, aK, aV] : List Nat)) (sz : Nat) (g : Bool) : Met l yX2_viewPoll wsX2_viewPoll ({ frames := 4, cells := 0, slots := 0, locals := 97 } : Room) (pcZ D [(cy, .int)] [.ref aD, .int (bI g)] [(aD, .inr (2, [.ref aE, .ref aW, .ref aR, .int (bI fl)])), (aE, .inr (0, [.ref aK, .ref aV, .int (nI c)])), (aK, .inl (cy, 512, .inl k)), (aV, .inl (cy, 512, .inl v)), (aR, .inr (1, [.long lo, .int (bI li), .long hi, .int (bI hn)]))] sz) (qM (some (.long (kW k (pj (g != fl) (vB k c lo li) (vE k c lo li hi hn)) (vB k c lo li) (vE k c lo li hi hn)))) (fun H => va_P D vwCl (dW cy aD aE aK aV aW aR ((plP k v c (g != fl) (vB k c lo li) (vE k c lo li hi hn)).2.1) ((plP k v c (g != fl) (vB k c lo li) (vE k c lo li hi hn)).2.2) ((plP k v c (g != fl) (vB k c lo li) (vE k c lo li hi hn)).1) lo li hi hn fl) H) (mA [aE, aK, aV] sz)) 0 0 (mA [aE, aK, aV] sz) := by
  refine met_Z (cc := cX2_viewPoll) (maxL := 2) (ret := (some .long)) (by decide +kernel) rfl (Nat.le_of_ble_eq_true rfl) ?_
  intro pM eM s mM below meth cM ls hx hb hr hts hown hlocks hml hnm hsz hK hP hl
  have hown : s.vm.findClass RX2 = some mM.cls := hown
  have hl : lv_has ls 2 [(0, .ref aD), (1, .int (bI g))] := hl
  have hin_X2 : ∀ w ∈ wsX20, w ∈ wsX2_viewPoll := by decide +kernel
  have kf_32 := hts (.fieldLink RX2 32 "OrderedDesk" "falling" "Z") (by decide +kernel)
  have hP : va_P D vwCl [(aD, .inr (2, [.ref aE, .ref aW, .ref aR, .int (bI fl)])), (aE, .inr (0, [.ref aK, .ref aV, .int (nI c)])), (aK, .inl (cy, 512, .inl k)), (aV, .inl (cy, 512, .inl v)), (aR, .inr (1, [.long lo, .int (bI li), .long hi, .int (bI hn)]))] s.heap := hP
  subst hsz
  have hS : va_S (mA [aE, aK, aV] s.heap.size) s.heap s.heap [] := va_S.rf
  simp only [List.nodup_cons, List.mem_cons, List.not_mem_nil, or_false, not_or, not_false_eq_true, List.nodup_nil, and_true] at nd nr
  have q1 := vB_le k c lo li
  have q2 := vE_le k c lo li hi hn
  have q3 := vBE k c lo li hi hn
  refine lv_aload_n hx hb dX2_viewPoll_0 rfl (lv_at hl 0 rfl) ?_
  refine lv_iload_n hx hb dX2_viewPoll_1 rfl (lv_at hl 1 rfl) ?_
  refine lv_aload_n hx hb dX2_viewPoll_2 rfl (lv_at hl 0 rfl) ?_
  refine va_get (ci := 2) (v := .int (bI fl)) (C := RX2) (T := TX2) (N := 4) hx hb hts hin_X2 hown hK hP 0 rfl rfl 3 (by decide) kf_32 (fun _ h9 => h9) rfl dX2_viewPoll_3 ?_
  refine lv_xne (tgt := 13) (J := 14) hx hb dX2_viewPoll_6 (by decide) dX2_viewPoll_9 dX2_viewPoll_10 (by decide) dX2_viewPoll_13 rfl ?_
  refine lv_aload_n hx hb dX2_viewPoll_14 rfl (lv_at hl 0 rfl) ?_
  refine go_R (va_runV (As := []) (rest := [.int (bI (g != fl)), .ref aD]) ⟨hx, hb, hml, hown, hts⟩ (c_X2_viewBegin l D cy aD aE aK aV aW aR k v c (by omega) lo li hi hn fl) (cwV 0 hts gX2_viewPoll_X2_viewBegin rfl rfl rfl (by decide +kernel) ⟨(Nat.le_of_ble_eq_true rfl), (Nat.le_of_ble_eq_true rfl)⟩) (preV_W hK (hP.sub [0, 1, 2, 3, 4] rfl) 0 2 rfl rfl) rfl rfl hl.1 rfl (lv_room (Nat.le_of_ble_eq_true rfl)) dX2_viewPoll_15 ⟨(Nat.le_of_ble_eq_true rfl), (Nat.le_of_ble_eq_true rfl)⟩) ?_
  refine lv_aload_n hx hb dX2_viewPoll_18 rfl (lv_at hl 0 rfl) ?_
  refine go_R (va_runV (As := []) (rest := [.int (nI (vB k c lo li)), .int (bI (g != fl)), .ref aD]) ⟨hx, hb, hml, hown, hts⟩ (c_X2_viewEnd l D cy aD aE aK aV aW aR k v c (by omega) lo li hi hn fl) (cwV 0 hts gX2_viewPoll_X2_viewEnd rfl rfl rfl (by decide +kernel) ⟨(Nat.le_of_ble_eq_true rfl), (Nat.le_of_ble_eq_true rfl)⟩) (preV_W hK (hP.sub [0, 1, 2, 3, 4] rfl) 0 2 rfl rfl) rfl rfl hl.1 rfl (lv_room (Nat.le_of_ble_eq_true rfl)) dX2_viewPoll_19 ⟨(Nat.le_of_ble_eq_true rfl), (Nat.le_of_ble_eq_true rfl)⟩) ?_
  refine go_M (va_runV (As := [.int (bI (g != fl)), .int (nI (vB k c lo li)), .int (nI (vE k c lo li hi hn))]) (rest := []) ⟨hx, hb, hml, hown, hts⟩ (c_X2_pollWithin l D cy aD aE aK aV aW aR k v c (by omega) lo li hi hn fl (by simp; omega) (by simp; omega) _ ((g != fl)) (vB k c lo li) (vE k c lo li hi hn) (by omega) (by omega)) (cwV 3 hts gX2_viewPoll_X2_pollWithin rfl rfl rfl (by decide +kernel) ⟨(Nat.le_of_ble_eq_true rfl), (Nat.le_of_ble_eq_true rfl)⟩) (preV_Z hK (hP.sub [0, 1, 2, 3, 4] rfl) 0 2 rfl rfl) rfl rfl hl.1 rfl (lv_room (Nat.le_of_ble_eq_true rfl)) dX2_viewPoll_22 ⟨(Nat.le_of_ble_eq_true rfl), (Nat.le_of_ble_eq_true rfl)⟩) hS (fun q h => mA_sub [0, 1, 2] rfl hS.1 h) (fun H1 locs1 hB hzz hk hS => ?_)
  have hP : va_P D vwCl [(aD, .inr (2, [.ref aE, .ref aW, .ref aR, .int (bI fl)])), (aE, .inr (0, [.ref aK, .ref aV, .int (nI ((plP k v c ((g != fl)) (vB k c lo li) (vE k c lo li hi hn)).1))])), (aK, .inl (cy, 512, .inl ((plP k v c ((g != fl)) (vB k c lo li) (vE k c lo li hi hn)).2.1))), (aV, .inl (cy, 512, .inl ((plP k v c ((g != fl)) (vB k c lo li) (vE k c lo li hi hn)).2.2))), (aR, .inr (1, [.long lo, .int (bI li), .long hi, .int (bI hn)]))] H1 := va_P.sub hB [0, 1, 2, 3, 4] rfl
  clear hB
  generalize H1 = H at hP hS ⊢
  generalize locs1 = locs at hS ⊢
  exact ret_lM hx hb hr hlocks dX2_viewPoll_25 hS (rfl) (hP)

set_option maxHeartbeats 4000000 in
set_option maxRecDepth 100000 in
/-- sweep(step, rest) -/
theorem c_X2_sweep (l : Launch) (D : va_G) (cy : ClassId) (aD aE aK aV aW aR : Nat) (k v : Nat → Int32) (c : Nat) (hc : c ≤ 512) (lo : Int64) (li : Bool) (hi : Int64) (hn : Bool) (fl : Bool) (nd : ([aD, aE, aK, aV] : List Nat).Nodup) (nr : ¬ aR ∈ ([aD, aE, aK, aV] : List Nat)) (sz : Nat) (step rest : Int32) : Met l yX2_sweep wsX2_sweep ({ frames := 3, cells := 0, slots := 0, locals := 63 } : Room) (pcZ D [(cy, .int)] [.ref aD, .int step, .int rest] [(aD, .inr (2, [.ref aE, .ref aW, .ref aR, .int (bI fl)])), (aE, .inr (0, [.ref aK, .ref aV, .int (nI c)])), (aK, .inl (cy, 512, .inl k)), (aV, .inl (cy, 512, .inl v)), (aR, .inr (1, [.long lo, .int (bI li), .long hi, .int (bI hn)]))] sz) (qM (some (.int (if step < 1 then (-1) else nI (c - (dlK step rest (vB k c lo li) (vE k c lo li hi hn) c k v).1)))) (fun H => va_P D vwCl (dW cy aD aE aK aV aW aR ((dlS step rest (vB k c lo li) (vE k c lo li hi hn) c k v).2.1) ((dlS step rest (vB k c lo li) (vE k c lo li hi hn) c k v).2.2) ((dlS step rest (vB k c lo li) (vE k c lo li hi hn) c k v).1) lo li hi hn fl) H) (mA [aE, aK, aV] sz)) 0 0 (mA [aE, aK, aV] sz) := by
  refine met_Z (cc := cX2_sweep) (maxL := 3) (ret := (some .int)) (by decide +kernel) rfl (Nat.le_of_ble_eq_true rfl) ?_
  intro pM eM s mM below meth cM ls hx hb hr hts hown hlocks hml hnm hsz hK hP hl
  have hown : s.vm.findClass RX2 = some mM.cls := hown
  have hl : lv_has ls 3 [(0, .ref aD), (1, .int step), (2, .int rest)] := hl
  have hin_X2 : ∀ w ∈ wsX20, w ∈ wsX2_sweep := by decide +kernel
  have kf_12 := hts (.fieldLink RX2 12 "OrderedDesk" "entries" "LOrderedDesk$Entries;") (by decide +kernel)
  have hP : va_P D vwCl [(aD, .inr (2, [.ref aE, .ref aW, .ref aR, .int (bI fl)])), (aE, .inr (0, [.ref aK, .ref aV, .int (nI c)])), (aK, .inl (cy, 512, .inl k)), (aV, .inl (cy, 512, .inl v)), (aR, .inr (1, [.long lo, .int (bI li), .long hi, .int (bI hn)]))] s.heap := hP
  subst hsz
  have hS : va_S (mA [aE, aK, aV] s.heap.size) s.heap s.heap [] := va_S.rf
  simp only [List.nodup_cons, List.mem_cons, List.not_mem_nil, or_false, not_or, not_false_eq_true, List.nodup_nil, and_true] at nd nr
  have q1 := vB_le k c lo li
  have q2 := vE_le k c lo li hi hn
  have q3 := vBE k c lo li hi hn
  refine lv_aload_n hx hb dX2_sweep_0 rfl (lv_at hl 0 rfl) ?_
  refine va_get (ci := 2) (v := .ref aE) (C := RX2) (T := TX2) (N := 4) hx hb hts hin_X2 hown hK hP 0 rfl rfl 0 (by decide) kf_12 (fun _ h9 => h9) rfl dX2_sweep_1 ?_
  refine lv_iload_n hx hb dX2_sweep_4 rfl (lv_at hl 1 rfl) ?_
  refine lv_iload_n hx hb dX2_sweep_5 rfl (lv_at hl 2 rfl) ?_
  refine lv_aload_n hx hb dX2_sweep_6 rfl (lv_at hl 0 rfl) ?_
  refine go_R (va_runV (As := []) (rest := [.int rest, .int step, .ref aE]) ⟨hx, hb, hml, hown, hts⟩ (c_X2_viewBegin l D cy aD aE aK aV aW aR k v c (by omega) lo li hi hn fl) (cwV 0 hts gX2_sweep_X2_viewBegin rfl rfl rfl (by decide +kernel) ⟨(Nat.le_of_ble_eq_true rfl), (Nat.le_of_ble_eq_true rfl)⟩) (preV_W hK (hP.sub [0, 1, 2, 3, 4] rfl) 0 2 rfl rfl) rfl rfl hl.1 rfl (lv_room (Nat.le_of_ble_eq_true rfl)) dX2_sweep_7 ⟨(Nat.le_of_ble_eq_true rfl), (Nat.le_of_ble_eq_true rfl)⟩) ?_
  refine lv_aload_n hx hb dX2_sweep_10 rfl (lv_at hl 0 rfl) ?_
  refine go_R (va_runV (As := []) (rest := [.int (nI (vB k c lo li)), .int rest, .int step, .ref aE]) ⟨hx, hb, hml, hown, hts⟩ (c_X2_viewEnd l D cy aD aE aK aV aW aR k v c (by omega) lo li hi hn fl) (cwV 0 hts gX2_sweep_X2_viewEnd rfl rfl rfl (by decide +kernel) ⟨(Nat.le_of_ble_eq_true rfl), (Nat.le_of_ble_eq_true rfl)⟩) (preV_W hK (hP.sub [0, 1, 2, 3, 4] rfl) 0 2 rfl rfl) rfl rfl hl.1 rfl (lv_room (Nat.le_of_ble_eq_true rfl)) dX2_sweep_11 ⟨(Nat.le_of_ble_eq_true rfl), (Nat.le_of_ble_eq_true rfl)⟩) ?_
  refine go_M (va_runV (As := [.int step, .int rest, .int (nI (vB k c lo li)), .int (nI (vE k c lo li hi hn))]) (rest := []) ⟨hx, hb, hml, hown, hts⟩ (c_X0_dropLeaving l D cy aE aK aV k v c (by omega) (by simp; omega) _ step rest (vB k c lo li) (vE k c lo li hi hn) (by omega) (by omega)) (cwV 4 hts gX2_sweep_X0_dropLeaving rfl rfl rfl (by decide +kernel) ⟨(Nat.le_of_ble_eq_true rfl), (Nat.le_of_ble_eq_true rfl)⟩) (preV_Z hK (hP.sub [1, 2, 3] rfl) 0 0 rfl rfl) rfl rfl hl.1 rfl (lv_room (Nat.le_of_ble_eq_true rfl)) dX2_sweep_14 ⟨(Nat.le_of_ble_eq_true rfl), (Nat.le_of_ble_eq_true rfl)⟩) hS (fun q h => mA_sub [0, 1, 2] rfl hS.1 h) (fun H1 locs1 hB hzz hk hS => ?_)
  have hP : va_P D vwCl [(aD, .inr (2, [.ref aE, .ref aW, .ref aR, .int (bI fl)])), (aE, .inr (0, [.ref aK, .ref aV, .int (nI ((dlS step rest (vB k c lo li) (vE k c lo li hi hn) c k v).1))])), (aK, .inl (cy, 512, .inl ((dlS step rest (vB k c lo li) (vE k c lo li hi hn) c k v).2.1))), (aV, .inl (cy, 512, .inl ((dlS step rest (vB k c lo li) (vE k c lo li hi hn) c k v).2.2))), (aR, .inr (1, [.long lo, .int (bI li), .long hi, .int (bI hn)]))] H1 := ((P_keepM (ws := [(aD, .inr (2, [.ref aE, .ref aW, .ref aR, .int (bI fl)])), (aR, .inr (1, [.long lo, .int (bI li), .long hi, .int (bI hn)]))]) (hP.sub [0, 4] rfl) (by intro q hq; simp only [List.map_cons, List.map_nil, List.mem_cons, List.not_mem_nil, or_false, not_or] at hq ⊢; omega) hk).app hB).sub [0, 2, 3, 4, 1] rfl
  clear hB
  generalize H1 = H at hP hS ⊢
  generalize locs1 = locs at hS ⊢
  exact ret_iM hx hb hr hlocks dX2_sweep_17 hS (rfl) (hP)

set_option maxHeartbeats 4000000 in
set_option maxRecDepth 100000 in
/-- viewClear() -/
theorem c_X2_viewClear (l : Launch) (D : va_G) (cy : ClassId) (aD aE aK aV aW aR : Nat) (k v : Nat → Int32) (c : Nat) (hc : c ≤ 512) (lo : Int64) (li : Bool) (hi : Int64) (hn : Bool) (fl : Bool) (nd : ([aD, aE, aK, aV] : List Nat).Nodup) (nr : ¬ aR ∈ ([aD, aE, aK, aV] : List Nat)) (sz : Nat) : Met l yX2_viewClear wsX2_viewClear ({ frames := 3, cells := 0, slots := 0, locals := 71 } : Room) (pcZ D [(cy, .int)] [.ref aD] [(aD, .inr (2, [.ref aE, .ref aW, .ref aR, .int (bI fl)])), (aE, .inr (0, [.ref aK, .ref aV, .int (nI c)])), (aK, .inl (cy, 512, .inl k)), (aV, .inl (cy, 512, .inl v)), (aR, .inr (1, [.long lo, .int (bI li), .long hi, .int (bI hn)]))] sz) (qM (some (.int (nI (c - (dlK 1 0 (vB k c lo li) (vE k c lo li hi hn) c k v).1)))) (fun H => va_P D vwCl (dW cy aD aE aK aV aW aR ((dlK 1 0 (vB k c lo li) (vE k c lo li hi hn) c k v).2.1) ((dlK 1 0 (vB k c lo li) (vE k c lo li hi hn) c k v).2.2) ((dlK 1 0 (vB k c lo li) (vE k c lo li hi hn) c k v).1) lo li hi hn fl) H) (mA [aE, aK, aV] sz)) 0 0 (mA [aE, aK, aV] sz) := by
  refine met_Z (cc := cX2_viewClear) (maxL := 1) (ret := (some .int)) (by decide +kernel) rfl (Nat.le_of_ble_eq_true rfl) ?_
  intro pM eM s mM below meth cM ls hx hb hr hts hown hlocks hml hnm hsz hK hP hl
  have hown : s.vm.findClass RX2 = some mM.cls := hown
  have hl : lv_has ls 1 [(0, .ref aD)] := hl
  have hin_X2 : ∀ w ∈ wsX20, w ∈ wsX2_viewClear := by decide +kernel
  have kf_12 := hts (.fieldLink RX2 12 "OrderedDesk" "entries" "LOrderedDesk$Entries;") (by decide +kernel)
  have hP : va_P D vwCl [(aD, .inr (2, [.ref aE, .ref aW, .ref aR, .int (bI fl)])), (aE, .inr (0, [.ref aK, .ref aV, .int (nI c)])), (aK, .inl (cy, 512, .inl k)), (aV, .inl (cy, 512, .inl v)), (aR, .inr (1, [.long lo, .int (bI li), .long hi, .int (bI hn)]))] s.heap := hP
  subst hsz
  have hS : va_S (mA [aE, aK, aV] s.heap.size) s.heap s.heap [] := va_S.rf
  simp only [List.nodup_cons, List.mem_cons, List.not_mem_nil, or_false, not_or, not_false_eq_true, List.nodup_nil, and_true] at nd nr
  have q1 := vB_le k c lo li
  have q2 := vE_le k c lo li hi hn
  have q3 := vBE k c lo li hi hn
  refine lv_aload_n hx hb dX2_viewClear_0 rfl (lv_at hl 0 rfl) ?_
  refine va_get (ci := 2) (v := .ref aE) (C := RX2) (T := TX2) (N := 4) hx hb hts hin_X2 hown hK hP 0 rfl rfl 0 (by decide) kf_12 (fun _ h9 => h9) rfl dX2_viewClear_1 ?_
  refine lv_aload_n hx hb dX2_viewClear_4 rfl (lv_at hl 0 rfl) ?_
  refine go_R (va_runV (As := []) (rest := [.ref aE]) ⟨hx, hb, hml, hown, hts⟩ (c_X2_viewBegin l D cy aD aE aK aV aW aR k v c (by omega) lo li hi hn fl) (cwV 0 hts gX2_viewClear_X2_viewBegin rfl rfl rfl (by decide +kernel) ⟨(Nat.le_of_ble_eq_true rfl), (Nat.le_of_ble_eq_true rfl)⟩) (preV_W hK (hP.sub [0, 1, 2, 3, 4] rfl) 0 2 rfl rfl) rfl rfl hl.1 rfl (lv_room (Nat.le_of_ble_eq_true rfl)) dX2_viewClear_5 ⟨(Nat.le_of_ble_eq_true rfl), (Nat.le_of_ble_eq_true rfl)⟩) ?_
  refine lv_aload_n hx hb dX2_viewClear_8 rfl (lv_at hl 0 rfl) ?_
  refine go_R (va_runV (As := []) (rest := [.int (nI (vB k c lo li)), .ref aE]) ⟨hx, hb, hml, hown, hts⟩ (c_X2_viewEnd l D cy aD aE aK aV aW aR k v c (by omega) lo li hi hn fl) (cwV 0 hts gX2_viewClear_X2_viewEnd rfl rfl rfl (by decide +kernel) ⟨(Nat.le_of_ble_eq_true rfl), (Nat.le_of_ble_eq_true rfl)⟩) (preV_W hK (hP.sub [0, 1, 2, 3, 4] rfl) 0 2 rfl rfl) rfl rfl hl.1 rfl (lv_room (Nat.le_of_ble_eq_true rfl)) dX2_viewClear_9 ⟨(Nat.le_of_ble_eq_true rfl), (Nat.le_of_ble_eq_true rfl)⟩) ?_
  refine go_M (va_runV (As := [.int (nI (vB k c lo li)), .int (nI (vE k c lo li hi hn))]) (rest := []) ⟨hx, hb, hml, hown, hts⟩ (c_X0_dropPlaces l D cy aE aK aV k v c (by omega) (by simp; omega) _ (vB k c lo li) (vE k c lo li hi hn) (by omega) (by omega)) (cwV 2 hts gX2_viewClear_X0_dropPlaces rfl rfl rfl (by decide +kernel) ⟨(Nat.le_of_ble_eq_true rfl), (Nat.le_of_ble_eq_true rfl)⟩) (preV_Z hK (hP.sub [1, 2, 3] rfl) 0 0 rfl rfl) rfl rfl hl.1 rfl (lv_room (Nat.le_of_ble_eq_true rfl)) dX2_viewClear_12 ⟨(Nat.le_of_ble_eq_true rfl), (Nat.le_of_ble_eq_true rfl)⟩) hS (fun q h => mA_sub [0, 1, 2] rfl hS.1 h) (fun H1 locs1 hB hzz hk hS => ?_)
  have hP : va_P D vwCl [(aD, .inr (2, [.ref aE, .ref aW, .ref aR, .int (bI fl)])), (aE, .inr (0, [.ref aK, .ref aV, .int (nI ((dlK 1 0 (vB k c lo li) (vE k c lo li hi hn) c k v).1))])), (aK, .inl (cy, 512, .inl ((dlK 1 0 (vB k c lo li) (vE k c lo li hi hn) c k v).2.1))), (aV, .inl (cy, 512, .inl ((dlK 1 0 (vB k c lo li) (vE k c lo li hi hn) c k v).2.2))), (aR, .inr (1, [.long lo, .int (bI li), .long hi, .int (bI hn)]))] H1 := ((P_keepM (ws := [(aD, .inr (2, [.ref aE, .ref aW, .ref aR, .int (bI fl)])), (aR, .inr (1, [.long lo, .int (bI li), .long hi, .int (bI hn)]))]) (hP.sub [0, 4] rfl) (by intro q hq; simp only [List.map_cons, List.map_nil, List.mem_cons, List.not_mem_nil, or_false, not_or] at hq ⊢; omega) hk).app hB).sub [0, 2, 3, 4, 1] rfl
  clear hB
  generalize H1 = H at hP hS ⊢
  generalize locs1 = locs at hS ⊢
  exact ret_iM hx hb hr hlocks dX2_viewClear_15 hS (rfl) (hP)
end
section
/-! the contracts of OrderedDeskModel's methods (written by wip/gen/x3.py) -/
abbrev mW (cy : ClassId) (aM aA aB : Nat) (k v : Nat → Int32) (c : Nat) (gl gh li hn fl : Bool) (lo hi : Int32) : va_W := [(aM, .inr (3, [.ref aA, .ref aB, .int (nI c), .int (bI gl), .int (bI gh), .int (bI li), .int (bI hn), .int (bI fl), .int lo, .int hi])), (aA, .inl (cy, 64, .inl k)), (aB, .inl (cy, 64, .inl v))]
theorem i64_lt {a b : Int32} : a.toInt64 < b.toInt64 ↔ a < b := by
  rw [Int64.lt_iff_toInt_lt, Int32.lt_iff_toInt_lt, Int32.toInt_toInt64, Int32.toInt_toInt64]
theorem i64_le {a b : Int32} : a.toInt64 ≤ b.toInt64 ↔ a ≤ b := by
  rw [Int64.le_iff_toInt_le, Int32.le_iff_toInt_le, Int32.toInt_toInt64, Int32.toInt_toInt64]
/-- a row with what stands at p taken out, of c in use -/
def delA (k : Nat → Int32) (p c : Nat) : Nat → Int32 := fun j => if p ≤ j ∧ j < c - 1 then k (j + 1) else k j
def dshA (k : Nat → Int32) (p i : Nat) : Nat → Int32 := fun j => if p ≤ j ∧ j < i then k (j + 1) else k j
theorem dshA_0 (k : Nat → Int32) (p : Nat) : dshA k p p = k := by
  funext j
  exact if_neg (by omega)
theorem dshA_s (k : Nat → Int32) {p i : Nat} (h : p ≤ i) : upd (dshA k p i) i (dshA k p i (i + 1)) = dshA k p (i + 1) := by
  funext j
  unfold upd dshA
  by_cases e : j = i
  · rw [if_pos e, if_neg (by omega), if_pos (by omega), e]
  · rw [if_neg e]
    by_cases w : p ≤ j ∧ j < i
    · rw [if_pos w, if_pos (by omega)]
    · rw [if_neg w, if_neg (by omega)]
def mdT (k v : Nat → Int32) (c : Nat) (x : Int32) : Nat × (Nat → Int32) × (Nat → Int32) := if atK k c (plc k c x.toInt64) x = true then (c - 1, delA k (plc k c x.toInt64) c, delA v (plc k c x.toInt64) c) else (c, k, v)
def maT (k v : Nat → Int32) (c : Nat) (x y : Int32) : Nat × (Nat → Int32) × (Nat → Int32) := if atK k c (plc k c x.toInt64) x = true then (c, k, v) else (c + 1, insA k (plc k c x.toInt64) c x, insA v (plc k c x.toInt64) c y)
def hsM (k v : Nat → Int32) (c : Nat) (w x : Int32) : Bool := if w = 0 then hasV k c x else if w = 1 then hasV v c x else false
/-- the loop of near -/
def nlp (k : Nat → Int32) (x : Int32) : Nat → Nat → Nat → Nat → Nat × Nat
  | 0, _, a, b => (a, b)
  | n + 1, i, a, b => nlp k x n (i + 1) (if k i < x then i + 1 else a) (if k i ≤ x then i + 1 else b)
theorem nlp_s {k : Nat → Int32} {x : Int32} {f i a b : Nat} (h : i < f) : nlp k x (f - i) i a b = nlp k x (f - (i + 1)) (i + 1) (if k i < x then i + 1 else a) (if k i ≤ x then i + 1 else b) := by
  obtain ⟨n, hn⟩ : ∃ n, f - i = n + 1 := ⟨f - i - 1, by omega⟩
  rw [hn, show f - (i + 1) = n by omega, nlp]
def kNM (k : Nat → Int32) (w x : Int32) (b f : Nat) : Int64 :=
  if w = 0 then kW k (((nlp k x (f - b) b b b).2 : Int) - 1) b f
  else if w = 1 then kW k ((nlp k x (f - b) b b b).1 : Int) b f
  else if w = 2 then kW k (((nlp k x (f - b) b b b).1 : Int) - 1) b f
  else if w = 3 then kW k ((nlp k x (f - b) b b b).2 : Int) b f
  else if w = 4 then kW k (b : Int) b f
  else if w = 5 then kW k ((f : Int) - 1) b f
  else NO
def iM (gl : Bool) (lo : Int32) (li : Bool) (gh : Bool) (hi : Int32) (hn : Bool) (x : Int32) : Bool := (!gl || decide (lo < x) || (decide (x = lo) && li)) && (!gh || decide (x < hi) || (decide (x = hi) && hn))
def mayM (gl : Bool) (lo : Int32) (li : Bool) (gh : Bool) (hi : Int32) (hn : Bool) (x : Int32) (i : Bool) : Bool := if i = true then iM gl lo li gh hi hn x else (!gl || decide (lo ≤ x)) && (!gh || decide (x ≤ hi))
def mF (k : Nat → Int32) (c : Nat) (gl : Bool) (lo : Int32) (li : Bool) (gh : Bool) (hi : Int32) (hn : Bool) : Nat := pf (fun j => !iM gl lo li gh hi hn (k j) && !(gh && decide (hi < k j))) c 0
def mE (k : Nat → Int32) (c : Nat) (gl : Bool) (lo : Int32) (li : Bool) (gh : Bool) (hi : Int32) (hn : Bool) : Nat := pf (fun j => iM gl lo li gh hi hn (k j)) (c - mF k c gl lo li gh hi hn) (mF k c gl lo li gh hi hn)
theorem mF_le (k : Nat → Int32) (c : Nat) (gl : Bool) (lo : Int32) (li : Bool) (gh : Bool) (hi : Int32) (hn : Bool) : mF k c gl lo li gh hi hn ≤ c := by
  have := pf_le (P := fun j => !iM gl lo li gh hi hn (k j) && !(gh && decide (hi < k j))) c 0
  unfold mF
  omega
theorem mFE (k : Nat → Int32) (c : Nat) (gl : Bool) (lo : Int32) (li : Bool) (gh : Bool) (hi : Int32) (hn : Bool) : mF k c gl lo li gh hi hn ≤ mE k c gl lo li gh hi hn := pf_ge _ _
theorem mE_le (k : Nat → Int32) (c : Nat) (gl : Bool) (lo : Int32) (li : Bool) (gh : Bool) (hi : Int32) (hn : Bool) : mE k c gl lo li gh hi hn ≤ c := by
  have h1 := pf_le (P := fun j => iM gl lo li gh hi hn (k j)) (c - mF k c gl lo li gh hi hn) (mF k c gl lo li gh hi hn)
  have h2 := mF_le k c gl lo li gh hi hn
  unfold mE
  omega
/-- the loop of sweep -/
def swp (G : Int32 → Bool) (f : Nat) : Nat → Nat → Nat → (Nat → Int32) → (Nat → Int32) → Nat × Nat × (Nat → Int32) × (Nat → Int32)
  | 0, m, c, k, v => (m, c, k, v)
  | n + 1, m, c, k, v => if G (k (f + n)) = true then swp G f n (m + 1) (c - 1) (delA k (f + n) c) (delA v (f + n) c) else swp G f n m c k v
/-- the loop of viewClear -/
def vcl (f : Nat) : Nat → Nat → (Nat → Int32) → (Nat → Int32) → Nat × (Nat → Int32) × (Nat → Int32)
  | 0, c, k, v => (c, k, v)
  | n + 1, c, k, v => vcl f n (c - 1) (delA k f c) (delA v f c)
def xw (w : Int32) : Int32 := w ^^^ 1
def msT (step rest : Int32) (f g c : Nat) (k v : Nat → Int32) : Nat × Nat × (Nat → Int32) × (Nat → Int32) := if step < 1 then (0, c, k, v) else swp (gLeav step rest) f (g - f) 0 c k v
def mpP (k v : Nat → Int32) (c : Nat) (g : Bool) (b f : Nat) : Nat × (Nat → Int32) × (Nat → Int32) := if b = f then (c, k, v) else (c - 1, delA k (if g = true then f - 1 else b) c, delA v (if g = true then f - 1 else b) c)
def mpA (k : Nat → Int32) (g : Bool) (b f : Nat) : Int64 := if b = f then NO else (k (if g = true then f - 1 else b)).toInt64
theorem nI_dm {n : Nat} (h : 0 < n) : nI n - 1 = nI (n - 1) := by
  rw [show (1 : Int32) = nI 1 from rfl, pk_sub (by omega)]
set_option maxHeartbeats 4000000 in
set_option maxRecDepth 100000 in
/-- placeOf(k) -/
theorem c_X3_placeOf (l : Launch) (D : va_G) (cy : ClassId) (aM aA aB : Nat) (k v : Nat → Int32) (c : Nat) (hc : c ≤ 64) (gl gh li hn fl : Bool) (lo hi : Int32) (x : Int32) : Met l yX3_placeOf wsX3_placeOf ({ frames := 0, cells := 0, slots := 0, locals := 0 } : Room) (pcW D [(cy, .int)] [.ref aM, .int x] [(aM, .inr (3, [.ref aA, .ref aB, .int (nI c), .int (bI gl), .int (bI gh), .int (bI li), .int (bI hn), .int (bI fl), .int lo, .int hi])), (aA, .inl (cy, 64, .inl k)), (aB, .inl (cy, 64, .inl v))]) (qR (.int (nI (plc k c x.toInt64)))) 0 0 (fun _ => False) := by
  refine met_W (cc := cX3_placeOf) (maxL := 3) (ret := (some .int)) (by decide +kernel) rfl (Nat.le_of_ble_eq_true rfl) ?_
  intro pM eM s mM below meth cM ls hx hb hr hts hown hlocks hml hnm hK hP hl
  have hown : s.vm.findClass RX3 = some mM.cls := hown
  have hl : lv_has ls 3 [(0, .ref aM), (1, .int x)] := hl
  have hin_X3 : ∀ w ∈ wsX30, w ∈ wsX3_placeOf := by decide +kernel
  have kf_16 := hts (.fieldLink RX3 16 "OrderedDeskModel" "many" "I") (by decide +kernel)
  have kf_9 := hts (.fieldLink RX3 9 "OrderedDeskModel" "key" "[I") (by decide +kernel)
  have hP : va_P D vwCl [(aM, .inr (3, [.ref aA, .ref aB, .int (nI c), .int (bI gl), .int (bI gh), .int (bI li), .int (bI hn), .int (bI fl), .int lo, .int hi])), (aA, .inl (cy, 64, .inl k)), (aB, .inl (cy, 64, .inl v))] s.heap := hP
  refine lv_iconst (v := nI 0) hx hb dX3_placeOf_0 (by decide) ?_
  refine lv_istore_n (lv' := [(2, .int (nI 0)), (0, .ref aM), (1, .int x)]) hx hb dX3_placeOf_1 rfl hl (by decide) rfl (fun ls hl => ?_)
  refine W_loopR (I := fun (i : Nat) (ls : Array Slot) => lv_has ls 3 [(0, .ref aM), (1, .int x), (2, .int (nI i))] ∧ i ≤ c ∧ plc k c x.toInt64 = pf (fun j => decide ((k j).toInt64 < x.toInt64)) (c - i) i) (μ := fun i => c - i) (fun i ls h ih => ?_) 0 ⟨lv_sub hl [1, 2, 0] rfl, Nat.zero_le _, rfl⟩
  obtain ⟨hl, hi1, hv⟩ := h
  refine lv_iload_n hx hb dX3_placeOf_2 rfl (lv_at hl 2 rfl) ?_
  refine lv_aload_n hx hb dX3_placeOf_3 rfl (lv_at hl 0 rfl) ?_
  refine va_get (ci := 3) (v := .int (nI c)) (C := RX3) (T := TX3) (N := 10) hx hb hts hin_X3 hown hK hP 0 rfl rfl 2 (by decide) kf_16 (fun _ h9 => h9) rfl dX3_placeOf_4 ?_
  refine n_ge (tgt := 26) (by omega) (by omega) hx hb dX3_placeOf_7 (by decide) (fun h7 => ?_) (fun h7 => ?_)
  · have hv2 : plc k c x.toInt64 = i := by rw [hv, pf_e h7]
    refine lv_iload_n hx hb dX3_placeOf_26 rfl (lv_at hl 2 rfl) ?_
    exact ret_i hx hb hr hlocks dX3_placeOf_27 (by rw [hv2])
  · refine lv_aload_n hx hb dX3_placeOf_10 rfl (lv_at hl 0 rfl) ?_
    refine va_get (ci := 3) (v := .ref aA) (C := RX3) (T := TX3) (N := 10) hx hb hts hin_X3 hown hK hP 0 rfl rfl 0 (by decide) kf_9 (fun _ h9 => h9) rfl dX3_placeOf_11 ?_
    refine lv_iload_n hx hb dX3_placeOf_14 rfl (lv_at hl 2 rfl) ?_
    refine a_ld hx hb hK hP 1 0 rfl rfl (by omega) (by decide) dX3_placeOf_15 ?_
    refine lv_iload_n hx hb dX3_placeOf_16 rfl (lv_at hl 1 rfl) ?_
    refine lv_icmp_ge (tgt := 26) hx hb dX3_placeOf_17 (by decide) (fun h17 => ?_) (fun h17 => ?_)
    · have hv2 : plc k c x.toInt64 = i := by rw [hv, pf_f (decide_eq_false (fun q => Int32.not_lt.mpr h17 (i64_lt.mp q)))]
      refine lv_iload_n hx hb dX3_placeOf_26 rfl (lv_at hl 2 rfl) ?_
      exact ret_i hx hb hr hlocks dX3_placeOf_27 (by rw [hv2])
    · refine lv_iinc (v := nI (i + 1)) (lv' := [(2, .int (nI (i + 1))), (0, .ref aM), (1, .int x)]) hx hb dX3_placeOf_20 hl (k := 2) rfl (by first | exact nI_1 _ | exact nI_add _ _) (by decide) rfl (fun ls hl => ?_)
      refine lv_goto (tgt := 2) hx hb dX3_placeOf_23 (by decide) ?_
      exact ih (i + 1) _ (by omega) ⟨lv_sub hl [1, 2, 0] rfl, by omega, by rw [hv, pf_t h7 (decide_eq_true (i64_lt.mpr (Int32.not_le.mp h17)))]⟩

set_option maxHeartbeats 4000000 in
set_option maxRecDepth 100000 in
/-- isAt(at, k) -/
theorem c_X3_isAt (l : Launch) (D : va_G) (cy : ClassId) (aM aA aB : Nat) (k v : Nat → Int32) (c : Nat) (hc : c ≤ 64) (gl gh li hn fl : Bool) (lo hi : Int32) (j : Nat) (hj : j ≤ 64) (x : Int32) : Met l yX3_isAt wsX3_isAt ({ frames := 0, cells := 0, slots := 0, locals := 0 } : Room) (pcW D [(cy, .int)] [.ref aM, .int (nI j), .int x] [(aM, .inr (3, [.ref aA, .ref aB, .int (nI c), .int (bI gl), .int (bI gh), .int (bI li), .int (bI hn), .int (bI fl), .int lo, .int hi])), (aA, .inl (cy, 64, .inl k)), (aB, .inl (cy, 64, .inl v))]) (qR (.int (bI (atK k c j x)))) 0 0 (fun _ => False) := by
  refine met_W (cc := cX3_isAt) (maxL := 3) (ret := (some .boolean)) (by decide +kernel) rfl (Nat.le_of_ble_eq_true rfl) ?_
  intro pM eM s mM below meth cM ls hx hb hr hts hown hlocks hml hnm hK hP hl
  have hown : s.vm.findClass RX3 = some mM.cls := hown
  have hl : lv_has ls 3 [(0, .ref aM), (1, .int (nI j)), (2, .int x)] := hl
  have hin_X3 : ∀ w ∈ wsX30, w ∈ wsX3_isAt := by decide +kernel
  have kf_16 := hts (.fieldLink RX3 16 "OrderedDeskModel" "many" "I") (by decide +kernel)
  have kf_9 := hts (.fieldLink RX3 9 "OrderedDeskModel" "key" "[I") (by decide +kernel)
  have hP : va_P D vwCl [(aM, .inr (3, [.ref aA, .ref aB, .int (nI c), .int (bI gl), .int (bI gh), .int (bI li), .int (bI hn), .int (bI fl), .int lo, .int hi])), (aA, .inl (cy, 64, .inl k)), (aB, .inl (cy, 64, .inl v))] s.heap := hP
  refine lv_iload_n hx hb dX3_isAt_0 rfl (lv_at hl 1 rfl) ?_
  refine lv_aload_n hx hb dX3_isAt_1 rfl (lv_at hl 0 rfl) ?_
  refine va_get (ci := 3) (v := .int (nI c)) (C := RX3) (T := TX3) (N := 10) hx hb hts hin_X3 hown hK hP 0 rfl rfl 2 (by decide) kf_16 (fun _ h9 => h9) rfl dX3_isAt_2 ?_
  refine n_ge (tgt := 22) (by omega) (by omega) hx hb dX3_isAt_5 (by decide) (fun h5 => ?_) (fun h5 => ?_)
  · have hz : atK k c j x = false := by simp [atK, Nat.not_lt.mpr h5]
    refine lv_iconst (v := bI false) hx hb dX3_isAt_22 (by decide) ?_
    exact ret_z hx hb hr hlocks dX3_isAt_23 (by rw [hz])
  · refine lv_aload_n hx hb dX3_isAt_8 rfl (lv_at hl 0 rfl) ?_
    refine va_get (ci := 3) (v := .ref aA) (C := RX3) (T := TX3) (N := 10) hx hb hts hin_X3 hown hK hP 0 rfl rfl 0 (by decide) kf_9 (fun _ h9 => h9) rfl dX3_isAt_9 ?_
    refine lv_iload_n hx hb dX3_isAt_12 rfl (lv_at hl 1 rfl) ?_
    refine a_ld hx hb hK hP 1 0 rfl rfl (by omega) (by decide) dX3_isAt_13 ?_
    refine lv_iload_n hx hb dX3_isAt_14 rfl (lv_at hl 2 rfl) ?_
    refine lv_icmp_ne (tgt := 22) hx hb dX3_isAt_15 (by decide) (fun h15 => ?_) (fun h15 => ?_)
    · have hz : atK k c j x = false := by simp [atK, h15]
      refine lv_iconst (v := bI false) hx hb dX3_isAt_22 (by decide) ?_
      exact ret_z hx hb hr hlocks dX3_isAt_23 (by rw [hz])
    · have hz : atK k c j x = true := by simp [atK, h5, h15]
      refine lv_iconst (v := bI true) hx hb dX3_isAt_18 (by decide) ?_
      refine lv_goto (tgt := 23) hx hb dX3_isAt_19 (by decide) ?_
      exact ret_z hx hb hr hlocks dX3_isAt_23 (by rw [hz])

set_option maxHeartbeats 4000000 in
set_option maxRecDepth 100000 in
/-- insert(at, k, v) -/
theorem c_X3_insert (l : Launch) (D : va_G) (cy : ClassId) (aM aA aB : Nat) (k v : Nat → Int32) (c : Nat) (hc : c ≤ 64) (gl gh li hn fl : Bool) (lo hi : Int32) (nd : ([aM, aA, aB] : List Nat).Nodup) (sz : Nat) (j : Nat) (hj : j ≤ c) (hc2 : c < 64) (x y : Int32) : Met l yX3_insert wsX3_insert ({ frames := 0, cells := 0, slots := 0, locals := 0 } : Room) (pcZ D [(cy, .int)] [.ref aM, .int (nI j), .int x, .int y] [(aM, .inr (3, [.ref aA, .ref aB, .int (nI c), .int (bI gl), .int (bI gh), .int (bI li), .int (bI hn), .int (bI fl), .int lo, .int hi])), (aA, .inl (cy, 64, .inl k)), (aB, .inl (cy, 64, .inl v))] sz) (qM none (fun H => va_P D vwCl (mW cy aM aA aB (insA k j c x) (insA v j c y) (c + 1) gl gh li hn fl lo hi) H) (mA [aM, aA, aB] sz)) 0 0 (mA [aM, aA, aB] sz) := by
  refine met_Z (cc := cX3_insert) (maxL := 5) (ret := none) (by decide +kernel) rfl (Nat.le_of_ble_eq_true rfl) ?_
  intro pM eM s mM below meth cM ls hx hb hr hts hown hlocks hml hnm hsz hK hP hl
  have hown : s.vm.findClass RX3 = some mM.cls := hown
  have hl : lv_has ls 5 [(0, .ref aM), (1, .int (nI j)), (2, .int x), (3, .int y)] := hl
  have hin_X3 : ∀ w ∈ wsX30, w ∈ wsX3_insert := by decide +kernel
  have kf_13 := hts (.fieldLink RX3 13 "OrderedDeskModel" "value" "[I") (by decide +kernel)
  have kf_16 := hts (.fieldLink RX3 16 "OrderedDeskModel" "many" "I") (by decide +kernel)
  have kf_9 := hts (.fieldLink RX3 9 "OrderedDeskModel" "key" "[I") (by decide +kernel)
  have hP : va_P D vwCl [(aM, .inr (3, [.ref aA, .ref aB, .int (nI c), .int (bI gl), .int (bI gh), .int (bI li), .int (bI hn), .int (bI fl), .int lo, .int hi])), (aA, .inl (cy, 64, .inl k)), (aB, .inl (cy, 64, .inl v))] s.heap := hP
  subst hsz
  have ndw := nd
  have hA : ∀ q : Nat, s.heap.size ≤ q → mA [aM, aA, aB] s.heap.size q := fun q h => Or.inr h
  have hAw : ∀ q ∈ ([aM, aA, aB] : List Nat), mA [aM, aA, aB] s.heap.size q := fun q h => Or.inl h
  have hS : va_S (mA [aM, aA, aB] s.heap.size) s.heap s.heap [] := va_S.rf
  have hD : va_D (mA [aM, aA, aB] s.heap.size) [(aM, .inr (3, [.ref aA, .ref aB, .int (nI c), .int (bI gl), .int (bI gh), .int (bI li), .int (bI hn), .int (bI fl), .int lo, .int hi])), (aA, .inl (cy, 64, .inl k)), (aB, .inl (cy, 64, .inl v))] := D_of ndw hAw
  simp only [List.nodup_cons, List.mem_cons, List.not_mem_nil, or_false, not_or, not_false_eq_true, List.nodup_nil, and_true] at nd
  refine lv_aload_n hx hb dX3_insert_0 rfl (lv_at hl 0 rfl) ?_
  refine va_get (ci := 3) (v := .int (nI c)) (C := RX3) (T := TX3) (N := 10) hx hb hts hin_X3 hown hK hP 0 rfl rfl 2 (by decide) kf_16 (fun _ h9 => h9) rfl dX3_insert_1 ?_
  refine lv_aload_n hx hb dX3_insert_4 rfl (lv_at hl 0 rfl) ?_
  refine va_get (ci := 3) (v := .ref aA) (C := RX3) (T := TX3) (N := 10) hx hb hts hin_X3 hown hK hP 0 rfl rfl 0 (by decide) kf_9 (fun _ h9 => h9) rfl dX3_insert_5 ?_
  refine va_alen (v := nI 64) hx hb hK hP 1 0 rfl rfl rfl dX3_insert_8 ?_
  refine n_ne (tgt := 46) (by omega) (by omega) hx hb dX3_insert_9 (by decide) (fun h9 => ?_) (fun h9 => ?_)
  · refine lv_aload_n hx hb dX3_insert_46 rfl (lv_at hl 0 rfl) ?_
    refine va_get (ci := 3) (v := .int (nI c)) (C := RX3) (T := TX3) (N := 10) hx hb hts hin_X3 hown hK hP 0 rfl rfl 2 (by decide) kf_16 (fun _ h9 => h9) rfl dX3_insert_47 ?_
    refine lv_istore (lv' := [(4, .int (nI c)), (0, .ref aM), (1, .int (nI j)), (2, .int x), (3, .int y)]) hx hb dX3_insert_50 hl (by decide) rfl (fun ls hl => ?_)
    refine W_loop (I := fun (i : Nat) (H : Heap) (locs : List Loc) (ls : Array Slot) => lv_has ls 5 [(0, .ref aM), (1, .int (nI j)), (2, .int x), (3, .int y), (4, .int (nI i))] ∧ va_P D vwCl [(aM, .inr (3, [.ref aA, .ref aB, .int (nI c), .int (bI gl), .int (bI gh), .int (bI li), .int (bI hn), .int (bI fl), .int lo, .int hi])), (aA, .inl (cy, 64, .inl (shA k i c))), (aB, .inl (cy, 64, .inl (shA v i c)))] H ∧ va_S (mA [aM, aA, aB] s.heap.size) s.heap H locs ∧ i ≤ c ∧ j ≤ i) (μ := fun i => i) (fun i H locs ls h ih => ?_) c ⟨lv_sub hl [1, 2, 3, 4, 0] rfl, by rw [shA_c, shA_c]; exact hP, hS, Nat.le_refl _, hj⟩
    obtain ⟨hl, hP, hS, hi1, hji⟩ := h
    have hD : va_D (mA [aM, aA, aB] s.heap.size) [(aM, .inr (3, [.ref aA, .ref aB, .int (nI c), .int (bI gl), .int (bI gh), .int (bI li), .int (bI hn), .int (bI fl), .int lo, .int hi])), (aA, .inl (cy, 64, .inl (shA k i c))), (aB, .inl (cy, 64, .inl (shA v i c)))] := D_of ndw hAw
    refine lv_iload hx hb dX3_insert_52 (lv_at hl 4 rfl) ?_
    refine lv_iload_n hx hb dX3_insert_54 rfl (lv_at hl 1 rfl) ?_
    refine n_le (tgt := 96) (by omega) (by omega) hx hb dX3_insert_55 (by decide) (fun h55 => ?_) (fun h55 => ?_)
    · have hij : i = j := by omega
      refine lv_aload_n hx hb dX3_insert_96 rfl (lv_at hl 0 rfl) ?_
      refine va_get (ci := 3) (v := .ref aA) (C := RX3) (T := TX3) (N := 10) hx hb hts hin_X3 hown hK hP 0 rfl rfl 0 (by decide) kf_9 (fun _ h9 => h9) rfl dX3_insert_97 ?_
      refine lv_iload_n hx hb dX3_insert_100 rfl (lv_at hl 1 rfl) ?_
      refine lv_iload_n hx hb dX3_insert_101 rfl (lv_at hl 2 rfl) ?_
      refine a_st hx hb hK hP hD hS 1 0 rfl rfl (by omega) (by decide) dX3_insert_102 (fun H locs hP hD hS => ?_)
      have hP : va_P D vwCl [(aM, .inr (3, [.ref aA, .ref aB, .int (nI c), .int (bI gl), .int (bI gh), .int (bI li), .int (bI hn), .int (bI fl), .int lo, .int hi])), (aA, .inl (cy, 64, .inl (upd (shA k i c) j x))), (aB, .inl (cy, 64, .inl (shA v i c)))] H := hP
      have hD : va_D _ [(aM, .inr (3, [.ref aA, .ref aB, .int (nI c), .int (bI gl), .int (bI gh), .int (bI li), .int (bI hn), .int (bI fl), .int lo, .int hi])), (aA, .inl (cy, 64, .inl (upd (shA k i c) j x))), (aB, .inl (cy, 64, .inl (shA v i c)))] := hD
      refine lv_aload_n hx hb dX3_insert_103 rfl (lv_at hl 0 rfl) ?_
      refine va_get (ci := 3) (v := .ref aB) (C := RX3) (T := TX3) (N := 10) hx hb hts hin_X3 hown hK hP 0 rfl rfl 1 (by decide) kf_13 (fun _ h9 => h9) rfl dX3_insert_104 ?_
      refine lv_iload_n hx hb dX3_insert_107 rfl (lv_at hl 1 rfl) ?_
      refine lv_iload_n hx hb dX3_insert_108 rfl (lv_at hl 3 rfl) ?_
      refine a_st hx hb hK hP hD hS 2 0 rfl rfl (by omega) (by decide) dX3_insert_109 (fun H locs hP hD hS => ?_)
      have hP : va_P D vwCl [(aM, .inr (3, [.ref aA, .ref aB, .int (nI c), .int (bI gl), .int (bI gh), .int (bI li), .int (bI hn), .int (bI fl), .int lo, .int hi])), (aA, .inl (cy, 64, .inl (upd (shA k i c) j x))), (aB, .inl (cy, 64, .inl (upd (shA v i c) j y)))] H := hP
      have hD : va_D _ [(aM, .inr (3, [.ref aA, .ref aB, .int (nI c), .int (bI gl), .int (bI gh), .int (bI li), .int (bI hn), .int (bI fl), .int lo, .int hi])), (aA, .inl (cy, 64, .inl (upd (shA k i c) j x))), (aB, .inl (cy, 64, .inl (upd (shA v i c) j y)))] := hD
      refine lv_aload_n hx hb dX3_insert_110 rfl (lv_at hl 0 rfl) ?_
      refine lv_dup hx hb dX3_insert_111 rfl ?_
      refine va_get (ci := 3) (v := .int (nI c)) (C := RX3) (T := TX3) (N := 10) hx hb hts hin_X3 hown hK hP 0 rfl rfl 2 (by decide) kf_16 (fun _ h9 => h9) rfl dX3_insert_112 ?_
      refine lv_iconst (v := nI 1) hx hb dX3_insert_115 (by decide) ?_
      refine lv_iadd hx hb dX3_insert_116 ?_
      refine top_i (y := nI (c + 1)) (nI_add _ _) ?_
      refine va_put (ci := 3) (v := .int (nI (c + 1))) (ty := .int) (C := RX3) (T := TX3) (N := 10) hx hb hts hin_X3 tyX3 tyX3_ok nmX3 hown hK hP hD hS 0 rfl rfl 2 (by decide) kf_16 (fun _ h9 => h9) rfl (by decide +kernel) rfl rfl (Nat.le_of_ble_eq_true rfl) dX3_insert_117 (fun H locs hP hD hS => ?_)
      have hP : va_P D vwCl [(aM, .inr (3, [.ref aA, .ref aB, .int (nI (c + 1)), .int (bI gl), .int (bI gh), .int (bI li), .int (bI hn), .int (bI fl), .int lo, .int hi])), (aA, .inl (cy, 64, .inl (upd (shA k i c) j x))), (aB, .inl (cy, 64, .inl (upd (shA v i c) j y)))] H := hP
      have hD : va_D _ [(aM, .inr (3, [.ref aA, .ref aB, .int (nI (c + 1)), .int (bI gl), .int (bI gh), .int (bI li), .int (bI hn), .int (bI fl), .int lo, .int hi])), (aA, .inl (cy, 64, .inl (upd (shA k i c) j x))), (aB, .inl (cy, 64, .inl (upd (shA v i c) j y)))] := hD
      exact ret_vM hx hb hr hlocks dX3_insert_120 hS (by rw [hij, upd_sh, upd_sh] at hP; exact hP)
    · refine lv_aload_n hx hb dX3_insert_58 rfl (lv_at hl 0 rfl) ?_
      refine va_get (ci := 3) (v := .ref aA) (C := RX3) (T := TX3) (N := 10) hx hb hts hin_X3 hown hK hP 0 rfl rfl 0 (by decide) kf_9 (fun _ h9 => h9) rfl dX3_insert_59 ?_
      refine lv_iload hx hb dX3_insert_62 (lv_at hl 4 rfl) ?_
      refine lv_aload_n hx hb dX3_insert_64 rfl (lv_at hl 0 rfl) ?_
      refine va_get (ci := 3) (v := .ref aA) (C := RX3) (T := TX3) (N := 10) hx hb hts hin_X3 hown hK hP 0 rfl rfl 0 (by decide) kf_9 (fun _ h9 => h9) rfl dX3_insert_65 ?_
      refine lv_iload hx hb dX3_insert_68 (lv_at hl 4 rfl) ?_
      refine lv_iconst (v := nI 1) hx hb dX3_insert_70 (by decide) ?_
      refine lv_isub hx hb dX3_insert_71 ?_
      refine top_i (y := nI (i - 1)) (pk_sub (by omega)) ?_
      refine a_ld hx hb hK hP 1 0 rfl rfl (by omega) (by decide) dX3_insert_72 ?_
      refine a_st hx hb hK hP hD hS 1 0 rfl rfl (by omega) (by decide) dX3_insert_73 (fun H locs hP hD hS => ?_)
      have hP : va_P D vwCl [(aM, .inr (3, [.ref aA, .ref aB, .int (nI c), .int (bI gl), .int (bI gh), .int (bI li), .int (bI hn), .int (bI fl), .int lo, .int hi])), (aA, .inl (cy, 64, .inl (upd (shA k i c) i ((shA k i c) (i - 1))))), (aB, .inl (cy, 64, .inl (shA v i c)))] H := hP
      have hD : va_D _ [(aM, .inr (3, [.ref aA, .ref aB, .int (nI c), .int (bI gl), .int (bI gh), .int (bI li), .int (bI hn), .int (bI fl), .int lo, .int hi])), (aA, .inl (cy, 64, .inl (upd (shA k i c) i ((shA k i c) (i - 1))))), (aB, .inl (cy, 64, .inl (shA v i c)))] := hD
      refine lv_aload_n hx hb dX3_insert_74 rfl (lv_at hl 0 rfl) ?_
      refine va_get (ci := 3) (v := .ref aB) (C := RX3) (T := TX3) (N := 10) hx hb hts hin_X3 hown hK hP 0 rfl rfl 1 (by decide) kf_13 (fun _ h9 => h9) rfl dX3_insert_75 ?_
      refine lv_iload hx hb dX3_insert_78 (lv_at hl 4 rfl) ?_
      refine lv_aload_n hx hb dX3_insert_80 rfl (lv_at hl 0 rfl) ?_
      refine va_get (ci := 3) (v := .ref aB) (C := RX3) (T := TX3) (N := 10) hx hb hts hin_X3 hown hK hP 0 rfl rfl 1 (by decide) kf_13 (fun _ h9 => h9) rfl dX3_insert_81 ?_
      refine lv_iload hx hb dX3_insert_84 (lv_at hl 4 rfl) ?_
      refine lv_iconst (v := nI 1) hx hb dX3_insert_86 (by decide) ?_
      refine lv_isub hx hb dX3_insert_87 ?_
      refine top_i (y := nI (i - 1)) (pk_sub (by omega)) ?_
      refine a_ld hx hb hK hP 2 0 rfl rfl (by omega) (by decide) dX3_insert_88 ?_
      refine a_st hx hb hK hP hD hS 2 0 rfl rfl (by omega) (by decide) dX3_insert_89 (fun H locs hP hD hS => ?_)
      have hP : va_P D vwCl [(aM, .inr (3, [.ref aA, .ref aB, .int (nI c), .int (bI gl), .int (bI gh), .int (bI li), .int (bI hn), .int (bI fl), .int lo, .int hi])), (aA, .inl (cy, 64, .inl (upd (shA k i c) i ((shA k i c) (i - 1))))), (aB, .inl (cy, 64, .inl (upd (shA v i c) i ((shA v i c) (i - 1)))))] H := hP
      have hD : va_D _ [(aM, .inr (3, [.ref aA, .ref aB, .int (nI c), .int (bI gl), .int (bI gh), .int (bI li), .int (bI hn), .int (bI fl), .int lo, .int hi])), (aA, .inl (cy, 64, .inl (upd (shA k i c) i ((shA k i c) (i - 1))))), (aB, .inl (cy, 64, .inl (upd (shA v i c) i ((shA v i c) (i - 1)))))] := hD
      refine lv_iinc (v := nI (i - 1)) (lv' := [(4, .int (nI (i - 1))), (0, .ref aM), (1, .int (nI j)), (2, .int x), (3, .int y)]) hx hb dX3_insert_90 hl (k := 4) rfl (sb_m1 (by omega)) (by decide) rfl (fun ls hl => ?_)
      refine lv_goto (tgt := 52) hx hb dX3_insert_93 (by decide) ?_
      exact ih (i - 1) _ _ _ (by omega) ⟨lv_sub hl [1, 2, 3, 4, 0] rfl, by rw [← shA_s k (by omega) hi1, ← shA_s v (by omega) hi1]; exact hP, hS, by omega, by omega⟩
  · exact absurd h9 (by omega)

set_option maxHeartbeats 4000000 in
set_option maxRecDepth 100000 in
/-- delete(at) -/
theorem c_X3_delete (l : Launch) (D : va_G) (cy : ClassId) (aM aA aB : Nat) (k v : Nat → Int32) (c : Nat) (hc : c ≤ 64) (gl gh li hn fl : Bool) (lo hi : Int32) (nd : ([aM, aA, aB] : List Nat).Nodup) (sz : Nat) (j : Nat) (hj : j < c) : Met l yX3_delete wsX3_delete ({ frames := 0, cells := 0, slots := 0, locals := 0 } : Room) (pcZ D [(cy, .int)] [.ref aM, .int (nI j)] [(aM, .inr (3, [.ref aA, .ref aB, .int (nI c), .int (bI gl), .int (bI gh), .int (bI li), .int (bI hn), .int (bI fl), .int lo, .int hi])), (aA, .inl (cy, 64, .inl k)), (aB, .inl (cy, 64, .inl v))] sz) (qM none (fun H => va_P D vwCl (mW cy aM aA aB (delA k j c) (delA v j c) (c - 1) gl gh li hn fl lo hi) H) (mA [aM, aA, aB] sz)) 0 0 (mA [aM, aA, aB] sz) := by
  refine met_Z (cc := cX3_delete) (maxL := 3) (ret := none) (by decide +kernel) rfl (Nat.le_of_ble_eq_true rfl) ?_
  intro pM eM s mM below meth cM ls hx hb hr hts hown hlocks hml hnm hsz hK hP hl
  have hown : s.vm.findClass RX3 = some mM.cls := hown
  have hl : lv_has ls 3 [(0, .ref aM), (1, .int (nI j))] := hl
  have hin_X3 : ∀ w ∈ wsX30, w ∈ wsX3_delete := by decide +kernel
  have kf_13 := hts (.fieldLink RX3 13 "OrderedDeskModel" "value" "[I") (by decide +kernel)
  have kf_16 := hts (.fieldLink RX3 16 "OrderedDeskModel" "many" "I") (by decide +kernel)
  have kf_9 := hts (.fieldLink RX3 9 "OrderedDeskModel" "key" "[I") (by decide +kernel)
  have hP : va_P D vwCl [(aM, .inr (3, [.ref aA, .ref aB, .int (nI c), .int (bI gl), .int (bI gh), .int (bI li), .int (bI hn), .int (bI fl), .int lo, .int hi])), (aA, .inl (cy, 64, .inl k)), (aB, .inl (cy, 64, .inl v))] s.heap := hP
  subst hsz
  have ndw := nd
  have hA : ∀ q : Nat, s.heap.size ≤ q → mA [aM, aA, aB] s.heap.size q := fun q h => Or.inr h
  have hAw : ∀ q ∈ ([aM, aA, aB] : List Nat), mA [aM, aA, aB] s.heap.size q := fun q h => Or.inl h
  have hS : va_S (mA [aM, aA, aB] s.heap.size) s.heap s.heap [] := va_S.rf
  have hD : va_D (mA [aM, aA, aB] s.heap.size) [(aM, .inr (3, [.ref aA, .ref aB, .int (nI c), .int (bI gl), .int (bI gh), .int (bI li), .int (bI hn), .int (bI fl), .int lo, .int hi])), (aA, .inl (cy, 64, .inl k)), (aB, .inl (cy, 64, .inl v))] := D_of ndw hAw
  simp only [List.nodup_cons, List.mem_cons, List.not_mem_nil, or_false, not_or, not_false_eq_true, List.nodup_nil, and_true] at nd
  refine lv_aload_n hx hb dX3_delete_0 rfl (lv_at hl 0 rfl) ?_
  refine lv_dup hx hb dX3_delete_1 rfl ?_
  refine va_get (ci := 3) (v := .int (nI c)) (C := RX3) (T := TX3) (N := 10) hx hb hts hin_X3 hown hK hP 0 rfl rfl 2 (by decide) kf_16 (fun _ h9 => h9) rfl dX3_delete_2 ?_
  refine lv_iconst (v := nI 1) hx hb dX3_delete_5 (by decide) ?_
  refine lv_isub hx hb dX3_delete_6 ?_
  refine top_i (y := nI (c - 1)) (pk_sub (by omega)) ?_
  refine va_put (ci := 3) (v := .int (nI (c - 1))) (ty := .int) (C := RX3) (T := TX3) (N := 10) hx hb hts hin_X3 tyX3 tyX3_ok nmX3 hown hK hP hD hS 0 rfl rfl 2 (by decide) kf_16 (fun _ h9 => h9) rfl (by decide +kernel) rfl rfl (Nat.le_of_ble_eq_true rfl) dX3_delete_7 (fun H locs hP hD hS => ?_)
  have hP : va_P D vwCl [(aM, .inr (3, [.ref aA, .ref aB, .int (nI (c - 1)), .int (bI gl), .int (bI gh), .int (bI li), .int (bI hn), .int (bI fl), .int lo, .int hi])), (aA, .inl (cy, 64, .inl k)), (aB, .inl (cy, 64, .inl v))] H := hP
  have hD : va_D _ [(aM, .inr (3, [.ref aA, .ref aB, .int (nI (c - 1)), .int (bI gl), .int (bI gh), .int (bI li), .int (bI hn), .int (bI fl), .int lo, .int hi])), (aA, .inl (cy, 64, .inl k)), (aB, .inl (cy, 64, .inl v))] := hD
  refine lv_iload_n hx hb dX3_delete_10 rfl (lv_at hl 1 rfl) ?_
  refine lv_istore_n (lv' := [(2, .int (nI j)), (0, .ref aM), (1, .int (nI j))]) hx hb dX3_delete_11 rfl hl (by decide) rfl (fun ls hl => ?_)
  refine W_loop (I := fun (i : Nat) (H : Heap) (locs : List Loc) (ls : Array Slot) => lv_has ls 3 [(0, .ref aM), (1, .int (nI j)), (2, .int (nI i))] ∧ va_P D vwCl [(aM, .inr (3, [.ref aA, .ref aB, .int (nI (c - 1)), .int (bI gl), .int (bI gh), .int (bI li), .int (bI hn), .int (bI fl), .int lo, .int hi])), (aA, .inl (cy, 64, .inl (dshA k j i))), (aB, .inl (cy, 64, .inl (dshA v j i)))] H ∧ va_S (mA [aM, aA, aB] s.heap.size) s.heap H locs ∧ i ≤ c - 1 ∧ j ≤ i) (μ := fun i => c - 1 - i) (fun i H locs ls h ih => ?_) j ⟨lv_sub hl [1, 2, 0] rfl, by rw [dshA_0, dshA_0]; exact hP, hS, by omega, Nat.le_refl _⟩
  obtain ⟨hl, hP, hS, hi1, hji⟩ := h
  have hD : va_D (mA [aM, aA, aB] s.heap.size) [(aM, .inr (3, [.ref aA, .ref aB, .int (nI (c - 1)), .int (bI gl), .int (bI gh), .int (bI li), .int (bI hn), .int (bI fl), .int lo, .int hi])), (aA, .inl (cy, 64, .inl (dshA k j i))), (aB, .inl (cy, 64, .inl (dshA v j i)))] := D_of ndw hAw
  refine lv_iload_n hx hb dX3_delete_12 rfl (lv_at hl 2 rfl) ?_
  refine lv_aload_n hx hb dX3_delete_13 rfl (lv_at hl 0 rfl) ?_
  refine va_get (ci := 3) (v := .int (nI (c - 1))) (C := RX3) (T := TX3) (N := 10) hx hb hts hin_X3 hown hK hP 0 rfl rfl 2 (by decide) kf_16 (fun _ h9 => h9) rfl dX3_delete_14 ?_
  refine n_ge (tgt := 54) (by omega) (by omega) hx hb dX3_delete_17 (by decide) (fun h17 => ?_) (fun h17 => ?_)
  · have hij : i = c - 1 := by omega
    exact ret_vM hx hb hr hlocks dX3_delete_54 hS (by rw [hij] at hP; exact hP)
  · refine lv_aload_n hx hb dX3_delete_20 rfl (lv_at hl 0 rfl) ?_
    refine va_get (ci := 3) (v := .ref aA) (C := RX3) (T := TX3) (N := 10) hx hb hts hin_X3 hown hK hP 0 rfl rfl 0 (by decide) kf_9 (fun _ h9 => h9) rfl dX3_delete_21 ?_
    refine lv_iload_n hx hb dX3_delete_24 rfl (lv_at hl 2 rfl) ?_
    refine lv_aload_n hx hb dX3_delete_25 rfl (lv_at hl 0 rfl) ?_
    refine va_get (ci := 3) (v := .ref aA) (C := RX3) (T := TX3) (N := 10) hx hb hts hin_X3 hown hK hP 0 rfl rfl 0 (by decide) kf_9 (fun _ h9 => h9) rfl dX3_delete_26 ?_
    refine lv_iload_n hx hb dX3_delete_29 rfl (lv_at hl 2 rfl) ?_
    refine lv_iconst (v := nI 1) hx hb dX3_delete_30 (by decide) ?_
    refine lv_iadd hx hb dX3_delete_31 ?_
    refine top_i (y := nI (i + 1)) (nI_add _ _) ?_
    refine a_ld hx hb hK hP 1 0 rfl rfl (by omega) (by decide) dX3_delete_32 ?_
    refine a_st hx hb hK hP hD hS 1 0 rfl rfl (by omega) (by decide) dX3_delete_33 (fun H locs hP hD hS => ?_)
    have hP : va_P D vwCl [(aM, .inr (3, [.ref aA, .ref aB, .int (nI (c - 1)), .int (bI gl), .int (bI gh), .int (bI li), .int (bI hn), .int (bI fl), .int lo, .int hi])), (aA, .inl (cy, 64, .inl (upd (dshA k j i) i ((dshA k j i) (i + 1))))), (aB, .inl (cy, 64, .inl (dshA v j i)))] H := hP
    have hD : va_D _ [(aM, .inr (3, [.ref aA, .ref aB, .int (nI (c - 1)), .int (bI gl), .int (bI gh), .int (bI li), .int (bI hn), .int (bI fl), .int lo, .int hi])), (aA, .inl (cy, 64, .inl (upd (dshA k j i) i ((dshA k j i) (i + 1))))), (aB, .inl (cy, 64, .inl (dshA v j i)))] := hD
    refine lv_aload_n hx hb dX3_delete_34 rfl (lv_at hl 0 rfl) ?_
    refine va_get (ci := 3) (v := .ref aB) (C := RX3) (T := TX3) (N := 10) hx hb hts hin_X3 hown hK hP 0 rfl rfl 1 (by decide) kf_13 (fun _ h9 => h9) rfl dX3_delete_35 ?_
    refine lv_iload_n hx hb dX3_delete_38 rfl (lv_at hl 2 rfl) ?_
    refine lv_aload_n hx hb dX3_delete_39 rfl (lv_at hl 0 rfl) ?_
    refine va_get (ci := 3) (v := .ref aB) (C := RX3) (T := TX3) (N := 10) hx hb hts hin_X3 hown hK hP 0 rfl rfl 1 (by decide) kf_13 (fun _ h9 => h9) rfl dX3_delete_40 ?_
    refine lv_iload_n hx hb dX3_delete_43 rfl (lv_at hl 2 rfl) ?_
    refine lv_iconst (v := nI 1) hx hb dX3_delete_44 (by decide) ?_
    refine lv_iadd hx hb dX3_delete_45 ?_
    refine top_i (y := nI (i + 1)) (nI_add _ _) ?_
    refine a_ld hx hb hK hP 2 0 rfl rfl (by omega) (by decide) dX3_delete_46 ?_
    refine a_st hx hb hK hP hD hS 2 0 rfl rfl (by omega) (by decide) dX3_delete_47 (fun H locs hP hD hS => ?_)
    have hP : va_P D vwCl [(aM, .inr (3, [.ref aA, .ref aB, .int (nI (c - 1)), .int (bI gl), .int (bI gh), .int (bI li), .int (bI hn), .int (bI fl), .int lo, .int hi])), (aA, .inl (cy, 64, .inl (upd (dshA k j i) i ((dshA k j i) (i + 1))))), (aB, .inl (cy, 64, .inl (upd (dshA v j i) i ((dshA v j i) (i + 1)))))] H := hP
    have hD : va_D _ [(aM, .inr (3, [.ref aA, .ref aB, .int (nI (c - 1)), .int (bI gl), .int (bI gh), .int (bI li), .int (bI hn), .int (bI fl), .int lo, .int hi])), (aA, .inl (cy, 64, .inl (upd (dshA k j i) i ((dshA k j i) (i + 1))))), (aB, .inl (cy, 64, .inl (upd (dshA v j i) i ((dshA v j i) (i + 1)))))] := hD
    refine lv_iinc (v := nI (i + 1)) (lv' := [(2, .int (nI (i + 1))), (0, .ref aM), (1, .int (nI j))]) hx hb dX3_delete_48 hl (k := 2) rfl (by first | exact nI_1 _ | exact nI_add _ _) (by decide) rfl (fun ls hl => ?_)
    refine lv_goto (tgt := 12) hx hb dX3_delete_51 (by decide) ?_
    exact ih (i + 1) _ _ _ (by omega) ⟨lv_sub hl [1, 2, 0] rfl, by rw [← dshA_s k hji, ← dshA_s v hji]; exact hP, hS, by omega, by omega⟩

set_option maxHeartbeats 4000000 in
set_option maxRecDepth 100000 in
/-- get(k) -/
theorem c_X3_get (l : Launch) (D : va_G) (cy : ClassId) (aM aA aB : Nat) (k v : Nat → Int32) (c : Nat) (hc : c ≤ 64) (gl gh li hn fl : Bool) (lo hi : Int32) (x : Int32) : Met l yX3_get wsX3_get ({ frames := 1, cells := 0, slots := 0, locals := 22 } : Room) (pcW D [(cy, .int)] [.ref aM, .int x] [(aM, .inr (3, [.ref aA, .ref aB, .int (nI c), .int (bI gl), .int (bI gh), .int (bI li), .int (bI hn), .int (bI fl), .int lo, .int hi])), (aA, .inl (cy, 64, .inl k)), (aB, .inl (cy, 64, .inl v))]) (qR (.long (vOf k v c x))) 0 0 (fun _ => False) := by
  refine met_W (cc := cX3_get) (maxL := 3) (ret := (some .long)) (by decide +kernel) rfl (Nat.le_of_ble_eq_true rfl) ?_
  intro pM eM s mM below meth cM ls hx hb hr hts hown hlocks hml hnm hK hP hl
  have hown : s.vm.findClass RX3 = some mM.cls := hown
  have hl : lv_has ls 3 [(0, .ref aM), (1, .int x)] := hl
  have hin_X3 : ∀ w ∈ wsX30, w ∈ wsX3_get := by decide +kernel
  have kf_13 := hts (.fieldLink RX3 13 "OrderedDeskModel" "value" "[I") (by decide +kernel)
  have kc_38 := hts (.constantLong RX3 38 (1099511627776)) (by decide +kernel)
  have hP : va_P D vwCl [(aM, .inr (3, [.ref aA, .ref aB, .int (nI c), .int (bI gl), .int (bI gh), .int (bI li), .int (bI hn), .int (bI fl), .int lo, .int hi])), (aA, .inl (cy, 64, .inl k)), (aB, .inl (cy, 64, .inl v))] s.heap := hP
  have hpl := plc_le k c x.toInt64
  refine lv_aload_n hx hb dX3_get_0 rfl (lv_at hl 0 rfl) ?_
  refine lv_iload_n hx hb dX3_get_1 rfl (lv_at hl 1 rfl) ?_
  refine go_R (va_runV (As := [.int x]) (rest := []) ⟨hx, hb, hml, hown, hts⟩ (c_X3_placeOf l D cy aM aA aB k v c (by omega) gl gh li hn fl lo hi x) (cwV 1 hts gX3_get_X3_placeOf rfl rfl rfl (by decide +kernel) ⟨(Nat.le_of_ble_eq_true rfl), (Nat.le_of_ble_eq_true rfl)⟩) (preV_W hK (hP.sub [0, 1, 2] rfl) 0 3 rfl rfl) rfl rfl hl.1 rfl (lv_room (Nat.le_of_ble_eq_true rfl)) dX3_get_2 ⟨(Nat.le_of_ble_eq_true rfl), (Nat.le_of_ble_eq_true rfl)⟩) ?_
  refine lv_istore_n (lv' := [(2, .int (nI (plc k c x.toInt64))), (0, .ref aM), (1, .int x)]) hx hb dX3_get_5 rfl hl (by decide) rfl (fun ls hl => ?_)
  refine lv_aload_n hx hb dX3_get_6 rfl (lv_at hl 1 rfl) ?_
  refine lv_iload_n hx hb dX3_get_7 rfl (lv_at hl 0 rfl) ?_
  refine lv_iload_n hx hb dX3_get_8 rfl (lv_at hl 2 rfl) ?_
  refine go_R (va_runV (As := [.int (nI (plc k c x.toInt64)), .int x]) (rest := []) ⟨hx, hb, hml, hown, hts⟩ (c_X3_isAt l D cy aM aA aB k v c (by omega) gl gh li hn fl lo hi (plc k c x.toInt64) (by omega) x) (cwV 2 hts gX3_get_X3_isAt rfl rfl rfl (by decide +kernel) ⟨(Nat.le_of_ble_eq_true rfl), (Nat.le_of_ble_eq_true rfl)⟩) (preV_W hK (hP.sub [0, 1, 2] rfl) 0 3 rfl rfl) rfl rfl hl.1 rfl (lv_room (Nat.le_of_ble_eq_true rfl)) dX3_get_9 ⟨(Nat.le_of_ble_eq_true rfl), (Nat.le_of_ble_eq_true rfl)⟩) ?_
  refine b_eq (tgt := 25) hx hb dX3_get_12 (by decide) (fun h12 => ?_) (fun h12 => ?_)
  · have hz : vOf k v c x = NO := if_neg (by rw [h12]; decide)
    refine lv_ldc2 hx hb hown kc_38 dX3_get_25 ?_
    exact ret_l hx hb hr hlocks dX3_get_28 (by rw [hz])
  · have hz : vOf k v c x = (v (plc k c x.toInt64)).toInt64 := if_pos h12
    refine lv_aload_n hx hb dX3_get_15 rfl (lv_at hl 1 rfl) ?_
    refine va_get (ci := 3) (v := .ref aB) (C := RX3) (T := TX3) (N := 10) hx hb hts hin_X3 hown hK hP 0 rfl rfl 1 (by decide) kf_13 (fun _ h9 => h9) rfl dX3_get_16 ?_
    refine lv_iload_n hx hb dX3_get_19 rfl (lv_at hl 0 rfl) ?_
    refine a_ld hx hb hK hP 2 0 rfl rfl (by have := atK_lt h12; omega) (by decide) dX3_get_20 ?_
    refine lv_i2l hx hb dX3_get_21 rfl ?_
    refine lv_goto (tgt := 28) hx hb dX3_get_22 (by decide) ?_
    exact ret_l hx hb hr hlocks dX3_get_28 (by rw [hz])

set_option maxHeartbeats 4000000 in
set_option maxRecDepth 100000 in
/-- put(k, v) -/
theorem c_X3_put (l : Launch) (D : va_G) (cy : ClassId) (aM aA aB : Nat) (k v : Nat → Int32) (c : Nat) (hc : c ≤ 64) (gl gh li hn fl : Bool) (lo hi : Int32) (nd : ([aM, aA, aB] : List Nat).Nodup) (sz : Nat) (hc2 : c < 64) (x y : Int32) : Met l yX3_put wsX3_put ({ frames := 1, cells := 0, slots := 0, locals := 24 } : Room) (pcZ D [(cy, .int)] [.ref aM, .int x, .int y] [(aM, .inr (3, [.ref aA, .ref aB, .int (nI c), .int (bI gl), .int (bI gh), .int (bI li), .int (bI hn), .int (bI fl), .int lo, .int hi])), (aA, .inl (cy, 64, .inl k)), (aB, .inl (cy, 64, .inl v))] sz) (qM (some (.long (vOf k v c x))) (fun H => va_P D vwCl (mW cy aM aA aB (stK k c x) (stV k v c x y) (stC k c x) gl gh li hn fl lo hi) H) (mA [aM, aA, aB] sz)) 0 0 (mA [aM, aA, aB] sz) := by
  refine met_Z (cc := cX3_put) (maxL := 5) (ret := (some .long)) (by decide +kernel) rfl (Nat.le_of_ble_eq_true rfl) ?_
  intro pM eM s mM below meth cM ls hx hb hr hts hown hlocks hml hnm hsz hK hP hl
  have hown : s.vm.findClass RX3 = some mM.cls := hown
  have hl : lv_has ls 5 [(0, .ref aM), (1, .int x), (2, .int y)] := hl
  have hin_X3 : ∀ w ∈ wsX30, w ∈ wsX3_put := by decide +kernel
  have kf_13 := hts (.fieldLink RX3 13 "OrderedDeskModel" "value" "[I") (by decide +kernel)
  have kc_38 := hts (.constantLong RX3 38 (1099511627776)) (by decide +kernel)
  have hP : va_P D vwCl [(aM, .inr (3, [.ref aA, .ref aB, .int (nI c), .int (bI gl), .int (bI gh), .int (bI li), .int (bI hn), .int (bI fl), .int lo, .int hi])), (aA, .inl (cy, 64, .inl k)), (aB, .inl (cy, 64, .inl v))] s.heap := hP
  subst hsz
  have ndw := nd
  have hA : ∀ q : Nat, s.heap.size ≤ q → mA [aM, aA, aB] s.heap.size q := fun q h => Or.inr h
  have hAw : ∀ q ∈ ([aM, aA, aB] : List Nat), mA [aM, aA, aB] s.heap.size q := fun q h => Or.inl h
  have hS : va_S (mA [aM, aA, aB] s.heap.size) s.heap s.heap [] := va_S.rf
  have hD : va_D (mA [aM, aA, aB] s.heap.size) [(aM, .inr (3, [.ref aA, .ref aB, .int (nI c), .int (bI gl), .int (bI gh), .int (bI li), .int (bI hn), .int (bI fl), .int lo, .int hi])), (aA, .inl (cy, 64, .inl k)), (aB, .inl (cy, 64, .inl v))] := D_of ndw hAw
  simp only [List.nodup_cons, List.mem_cons, List.not_mem_nil, or_false, not_or, not_false_eq_true, List.nodup_nil, and_true] at nd
  have hpl := plc_le k c x.toInt64
  refine lv_aload_n hx hb dX3_put_0 rfl (lv_at hl 0 rfl) ?_
  refine lv_iload_n hx hb dX3_put_1 rfl (lv_at hl 1 rfl) ?_
  refine go_R (va_runV (As := [.int x]) (rest := []) ⟨hx, hb, hml, hown, hts⟩ (c_X3_placeOf l D cy aM aA aB k v c (by omega) gl gh li hn fl lo hi x) (cwV 1 hts gX3_put_X3_placeOf rfl rfl rfl (by decide +kernel) ⟨(Nat.le_of_ble_eq_true rfl), (Nat.le_of_ble_eq_true rfl)⟩) (preV_W hK (hP.sub [0, 1, 2] rfl) 0 3 rfl rfl) rfl rfl hl.1 rfl (lv_room (Nat.le_of_ble_eq_true rfl)) dX3_put_2 ⟨(Nat.le_of_ble_eq_true rfl), (Nat.le_of_ble_eq_true rfl)⟩) ?_
  refine lv_istore_n (lv' := [(3, .int (nI (plc k c x.toInt64))), (0, .ref aM), (1, .int x), (2, .int y)]) hx hb dX3_put_5 rfl hl (by decide) rfl (fun ls hl => ?_)
  refine lv_aload_n hx hb dX3_put_6 rfl (lv_at hl 1 rfl) ?_
  refine lv_iload_n hx hb dX3_put_7 rfl (lv_at hl 0 rfl) ?_
  refine lv_iload_n hx hb dX3_put_8 rfl (lv_at hl 2 rfl) ?_
  refine go_R (va_runV (As := [.int (nI (plc k c x.toInt64)), .int x]) (rest := []) ⟨hx, hb, hml, hown, hts⟩ (c_X3_isAt l D cy aM aA aB k v c (by omega) gl gh li hn fl lo hi (plc k c x.toInt64) (by omega) x) (cwV 2 hts gX3_put_X3_isAt rfl rfl rfl (by decide +kernel) ⟨(Nat.le_of_ble_eq_true rfl), (Nat.le_of_ble_eq_true rfl)⟩) (preV_W hK (hP.sub [0, 1, 2] rfl) 0 3 rfl rfl) rfl rfl hl.1 rfl (lv_room (Nat.le_of_ble_eq_true rfl)) dX3_put_9 ⟨(Nat.le_of_ble_eq_true rfl), (Nat.le_of_ble_eq_true rfl)⟩) ?_
  refine b_ne (tgt := 26) hx hb dX3_put_12 (by decide) (fun h12 => ?_) (fun h12 => ?_)
  · have hz : vOf k v c x = (v (plc k c x.toInt64)).toInt64 := if_pos h12
    have e1 : stK k c x = k := if_pos h12
    have e2 : stV k v c x y = upd v (plc k c x.toInt64) y := if_pos h12
    have e3 : stC k c x = c := if_pos h12
    refine lv_aload_n hx hb dX3_put_26 rfl (lv_at hl 1 rfl) ?_
    refine va_get (ci := 3) (v := .ref aB) (C := RX3) (T := TX3) (N := 10) hx hb hts hin_X3 hown hK hP 0 rfl rfl 1 (by decide) kf_13 (fun _ h9 => h9) rfl dX3_put_27 ?_
    refine lv_iload_n hx hb dX3_put_30 rfl (lv_at hl 0 rfl) ?_
    refine a_ld hx hb hK hP 2 0 rfl rfl (by have := atK_lt h12; omega) (by decide) dX3_put_31 ?_
    refine lv_istore (lv' := [(4, .int (v (plc k c x.toInt64))), (3, .int (nI (plc k c x.toInt64))), (0, .ref aM), (1, .int x), (2, .int y)]) hx hb dX3_put_32 hl (by decide) rfl (fun ls hl => ?_)
    refine lv_aload_n hx hb dX3_put_34 rfl (lv_at hl 2 rfl) ?_
    refine va_get (ci := 3) (v := .ref aB) (C := RX3) (T := TX3) (N := 10) hx hb hts hin_X3 hown hK hP 0 rfl rfl 1 (by decide) kf_13 (fun _ h9 => h9) rfl dX3_put_35 ?_
    refine lv_iload_n hx hb dX3_put_38 rfl (lv_at hl 1 rfl) ?_
    refine lv_iload_n hx hb dX3_put_39 rfl (lv_at hl 4 rfl) ?_
    refine a_st hx hb hK hP hD hS 2 0 rfl rfl (by have := atK_lt h12; omega) (by decide) dX3_put_40 (fun H locs hP hD hS => ?_)
    have hP : va_P D vwCl [(aM, .inr (3, [.ref aA, .ref aB, .int (nI c), .int (bI gl), .int (bI gh), .int (bI li), .int (bI hn), .int (bI fl), .int lo, .int hi])), (aA, .inl (cy, 64, .inl k)), (aB, .inl (cy, 64, .inl (upd v (plc k c x.toInt64) y)))] H := hP
    have hD : va_D _ [(aM, .inr (3, [.ref aA, .ref aB, .int (nI c), .int (bI gl), .int (bI gh), .int (bI li), .int (bI hn), .int (bI fl), .int lo, .int hi])), (aA, .inl (cy, 64, .inl k)), (aB, .inl (cy, 64, .inl (upd v (plc k c x.toInt64) y)))] := hD
    refine lv_iload hx hb dX3_put_41 (lv_at hl 0 rfl) ?_
    refine lv_i2l hx hb dX3_put_43 rfl ?_
    exact ret_lM hx hb hr hlocks dX3_put_44 hS (by rw [hz]) (by rw [e1, e2, e3]; exact hP)
  · have h12n : ¬ atK k c (plc k c x.toInt64) x = true := by rw [h12]; decide
    have hz : vOf k v c x = NO := if_neg h12n
    have e1 : stK k c x = insA k (plc k c x.toInt64) c x := if_neg h12n
    have e2 : stV k v c x y = insA v (plc k c x.toInt64) c y := if_neg h12n
    have e3 : stC k c x = c + 1 := if_neg h12n
    refine lv_aload_n hx hb dX3_put_15 rfl (lv_at hl 1 rfl) ?_
    refine lv_iload_n hx hb dX3_put_16 rfl (lv_at hl 0 rfl) ?_
    refine lv_iload_n hx hb dX3_put_17 rfl (lv_at hl 2 rfl) ?_
    refine lv_iload_n hx hb dX3_put_18 rfl (lv_at hl 3 rfl) ?_
    refine go_V (va_runV (As := [.int (nI (plc k c x.toInt64)), .int x, .int y]) (rest := []) ⟨hx, hb, hml, hown, hts⟩ (c_X3_insert l D cy aM aA aB k v c (by omega) gl gh li hn fl lo hi (by simp; omega) _ (plc k c x.toInt64) (by omega) (by omega) x y) (cwV 3 hts gX3_put_X3_insert rfl rfl rfl (by decide +kernel) ⟨(Nat.le_of_ble_eq_true rfl), (Nat.le_of_ble_eq_true rfl)⟩) (preV_Z hK (hP.sub [0, 1, 2] rfl) 0 3 rfl rfl) rfl rfl hl.1 rfl (lv_room (Nat.le_of_ble_eq_true rfl)) dX3_put_19 ⟨(Nat.le_of_ble_eq_true rfl), (Nat.le_of_ble_eq_true rfl)⟩) hS (fun q h => mA_sub [0, 1, 2] rfl hS.1 h) (fun H1 locs1 hB hzz hk hS => ?_)
    have hP : va_P D vwCl [(aM, .inr (3, [.ref aA, .ref aB, .int (nI (c + 1)), .int (bI gl), .int (bI gh), .int (bI li), .int (bI hn), .int (bI fl), .int lo, .int hi])), (aA, .inl (cy, 64, .inl (insA k (plc k c x.toInt64) c x))), (aB, .inl (cy, 64, .inl (insA v (plc k c x.toInt64) c y)))] H1 := va_P.sub hB [0, 1, 2] rfl
    have hD : va_D (mA [aM, aA, aB] s.heap.size) [(aM, .inr (3, [.ref aA, .ref aB, .int (nI (c + 1)), .int (bI gl), .int (bI gh), .int (bI li), .int (bI hn), .int (bI fl), .int lo, .int hi])), (aA, .inl (cy, 64, .inl (insA k (plc k c x.toInt64) c x))), (aB, .inl (cy, 64, .inl (insA v (plc k c x.toInt64) c y)))] := D_of ndw hAw
    clear hB
    generalize H1 = H at hP hS ⊢
    generalize locs1 = locs at hS ⊢
    refine lv_ldc2 hx hb hown kc_38 dX3_put_22 ?_
    exact ret_lM hx hb hr hlocks dX3_put_25 hS (by rw [hz]) (by rw [e1, e2, e3]; exact hP)

set_option maxHeartbeats 4000000 in
set_option maxRecDepth 100000 in
/-- add(k, v) -/
theorem c_X3_add (l : Launch) (D : va_G) (cy : ClassId) (aM aA aB : Nat) (k v : Nat → Int32) (c : Nat) (hc : c ≤ 64) (gl gh li hn fl : Bool) (lo hi : Int32) (nd : ([aM, aA, aB] : List Nat).Nodup) (sz : Nat) (hc2 : c < 64) (x y : Int32) : Met l yX3_add wsX3_add ({ frames := 1, cells := 0, slots := 0, locals := 24 } : Room) (pcZ D [(cy, .int)] [.ref aM, .int x, .int y] [(aM, .inr (3, [.ref aA, .ref aB, .int (nI c), .int (bI gl), .int (bI gh), .int (bI li), .int (bI hn), .int (bI fl), .int lo, .int hi])), (aA, .inl (cy, 64, .inl k)), (aB, .inl (cy, 64, .inl v))] sz) (qM (some (.long (vOf k v c x))) (fun H => va_P D vwCl (mW cy aM aA aB ((maT k v c x y).2.1) ((maT k v c x y).2.2) ((maT k v c x y).1) gl gh li hn fl lo hi) H) (mA [aM, aA, aB] sz)) 0 0 (mA [aM, aA, aB] sz) := by
  refine met_Z (cc := cX3_add) (maxL := 4) (ret := (some .long)) (by decide +kernel) rfl (Nat.le_of_ble_eq_true rfl) ?_
  intro pM eM s mM below meth cM ls hx hb hr hts hown hlocks hml hnm hsz hK hP hl
  have hown : s.vm.findClass RX3 = some mM.cls := hown
  have hl : lv_has ls 4 [(0, .ref aM), (1, .int x), (2, .int y)] := hl
  have hin_X3 : ∀ w ∈ wsX30, w ∈ wsX3_add := by decide +kernel
  have kf_13 := hts (.fieldLink RX3 13 "OrderedDeskModel" "value" "[I") (by decide +kernel)
  have kc_38 := hts (.constantLong RX3 38 (1099511627776)) (by decide +kernel)
  have hP : va_P D vwCl [(aM, .inr (3, [.ref aA, .ref aB, .int (nI c), .int (bI gl), .int (bI gh), .int (bI li), .int (bI hn), .int (bI fl), .int lo, .int hi])), (aA, .inl (cy, 64, .inl k)), (aB, .inl (cy, 64, .inl v))] s.heap := hP
  subst hsz
  have ndw := nd
  have hA : ∀ q : Nat, s.heap.size ≤ q → mA [aM, aA, aB] s.heap.size q := fun q h => Or.inr h
  have hAw : ∀ q ∈ ([aM, aA, aB] : List Nat), mA [aM, aA, aB] s.heap.size q := fun q h => Or.inl h
  have hS : va_S (mA [aM, aA, aB] s.heap.size) s.heap s.heap [] := va_S.rf
  have hD : va_D (mA [aM, aA, aB] s.heap.size) [(aM, .inr (3, [.ref aA, .ref aB, .int (nI c), .int (bI gl), .int (bI gh), .int (bI li), .int (bI hn), .int (bI fl), .int lo, .int hi])), (aA, .inl (cy, 64, .inl k)), (aB, .inl (cy, 64, .inl v))] := D_of ndw hAw
  simp only [List.nodup_cons, List.mem_cons, List.not_mem_nil, or_false, not_or, not_false_eq_true, List.nodup_nil, and_true] at nd
  have hpl := plc_le k c x.toInt64
  refine lv_aload_n hx hb dX3_add_0 rfl (lv_at hl 0 rfl) ?_
  refine lv_iload_n hx hb dX3_add_1 rfl (lv_at hl 1 rfl) ?_
  refine go_R (va_runV (As := [.int x]) (rest := []) ⟨hx, hb, hml, hown, hts⟩ (c_X3_placeOf l D cy aM aA aB k v c (by omega) gl gh li hn fl lo hi x) (cwV 1 hts gX3_add_X3_placeOf rfl rfl rfl (by decide +kernel) ⟨(Nat.le_of_ble_eq_true rfl), (Nat.le_of_ble_eq_true rfl)⟩) (preV_W hK (hP.sub [0, 1, 2] rfl) 0 3 rfl rfl) rfl rfl hl.1 rfl (lv_room (Nat.le_of_ble_eq_true rfl)) dX3_add_2 ⟨(Nat.le_of_ble_eq_true rfl), (Nat.le_of_ble_eq_true rfl)⟩) ?_
  refine lv_istore_n (lv' := [(3, .int (nI (plc k c x.toInt64))), (0, .ref aM), (1, .int x), (2, .int y)]) hx hb dX3_add_5 rfl hl (by decide) rfl (fun ls hl => ?_)
  refine lv_aload_n hx hb dX3_add_6 rfl (lv_at hl 1 rfl) ?_
  refine lv_iload_n hx hb dX3_add_7 rfl (lv_at hl 0 rfl) ?_
  refine lv_iload_n hx hb dX3_add_8 rfl (lv_at hl 2 rfl) ?_
  refine go_R (va_runV (As := [.int (nI (plc k c x.toInt64)), .int x]) (rest := []) ⟨hx, hb, hml, hown, hts⟩ (c_X3_isAt l D cy aM aA aB k v c (by omega) gl gh li hn fl lo hi (plc k c x.toInt64) (by omega) x) (cwV 2 hts gX3_add_X3_isAt rfl rfl rfl (by decide +kernel) ⟨(Nat.le_of_ble_eq_true rfl), (Nat.le_of_ble_eq_true rfl)⟩) (preV_W hK (hP.sub [0, 1, 2] rfl) 0 3 rfl rfl) rfl rfl hl.1 rfl (lv_room (Nat.le_of_ble_eq_true rfl)) dX3_add_9 ⟨(Nat.le_of_ble_eq_true rfl), (Nat.le_of_ble_eq_true rfl)⟩) ?_
  refine b_eq (tgt := 23) hx hb dX3_add_12 (by decide) (fun h12 => ?_) (fun h12 => ?_)
  · have h12n : ¬ atK k c (plc k c x.toInt64) x = true := by rw [h12]; decide
    have hz : vOf k v c x = NO := if_neg h12n
    have e1 : maT k v c x y = (c + 1, insA k (plc k c x.toInt64) c x, insA v (plc k c x.toInt64) c y) := if_neg h12n
    refine lv_aload_n hx hb dX3_add_23 rfl (lv_at hl 1 rfl) ?_
    refine lv_iload_n hx hb dX3_add_24 rfl (lv_at hl 0 rfl) ?_
    refine lv_iload_n hx hb dX3_add_25 rfl (lv_at hl 2 rfl) ?_
    refine lv_iload_n hx hb dX3_add_26 rfl (lv_at hl 3 rfl) ?_
    refine go_V (va_runV (As := [.int (nI (plc k c x.toInt64)), .int x, .int y]) (rest := []) ⟨hx, hb, hml, hown, hts⟩ (c_X3_insert l D cy aM aA aB k v c (by omega) gl gh li hn fl lo hi (by simp; omega) _ (plc k c x.toInt64) (by omega) (by omega) x y) (cwV 3 hts gX3_add_X3_insert rfl rfl rfl (by decide +kernel) ⟨(Nat.le_of_ble_eq_true rfl), (Nat.le_of_ble_eq_true rfl)⟩) (preV_Z hK (hP.sub [0, 1, 2] rfl) 0 3 rfl rfl) rfl rfl hl.1 rfl (lv_room (Nat.le_of_ble_eq_true rfl)) dX3_add_27 ⟨(Nat.le_of_ble_eq_true rfl), (Nat.le_of_ble_eq_true rfl)⟩) hS (fun q h => mA_sub [0, 1, 2] rfl hS.1 h) (fun H1 locs1 hB hzz hk hS => ?_)
    have hP : va_P D vwCl [(aM, .inr (3, [.ref aA, .ref aB, .int (nI (c + 1)), .int (bI gl), .int (bI gh), .int (bI li), .int (bI hn), .int (bI fl), .int lo, .int hi])), (aA, .inl (cy, 64, .inl (insA k (plc k c x.toInt64) c x))), (aB, .inl (cy, 64, .inl (insA v (plc k c x.toInt64) c y)))] H1 := va_P.sub hB [0, 1, 2] rfl
    have hD : va_D (mA [aM, aA, aB] s.heap.size) [(aM, .inr (3, [.ref aA, .ref aB, .int (nI (c + 1)), .int (bI gl), .int (bI gh), .int (bI li), .int (bI hn), .int (bI fl), .int lo, .int hi])), (aA, .inl (cy, 64, .inl (insA k (plc k c x.toInt64) c x))), (aB, .inl (cy, 64, .inl (insA v (plc k c x.toInt64) c y)))] := D_of ndw hAw
    clear hB
    generalize H1 = H at hP hS ⊢
    generalize locs1 = locs at hS ⊢
    refine lv_ldc2 hx hb hown kc_38 dX3_add_30 ?_
    exact ret_lM hx hb hr hlocks dX3_add_33 hS (by rw [hz]) (by rw [e1]; exact hP)
  · have hz : vOf k v c x = (v (plc k c x.toInt64)).toInt64 := if_pos h12
    have e1 : maT k v c x y = (c, k, v) := if_pos h12
    refine lv_aload_n hx hb dX3_add_15 rfl (lv_at hl 1 rfl) ?_
    refine va_get (ci := 3) (v := .ref aB) (C := RX3) (T := TX3) (N := 10) hx hb hts hin_X3 hown hK hP 0 rfl rfl 1 (by decide) kf_13 (fun _ h9 => h9) rfl dX3_add_16 ?_
    refine lv_iload_n hx hb dX3_add_19 rfl (lv_at hl 0 rfl) ?_
    refine a_ld hx hb hK hP 2 0 rfl rfl (by have := atK_lt h12; omega) (by decide) dX3_add_20 ?_
    refine lv_i2l hx hb dX3_add_21 rfl ?_
    exact ret_lM hx hb hr hlocks dX3_add_22 hS (by rw [hz]) (by rw [e1]; exact hP)

set_option maxHeartbeats 4000000 in
set_option maxRecDepth 100000 in
/-- remove(k) -/
theorem c_X3_remove (l : Launch) (D : va_G) (cy : ClassId) (aM aA aB : Nat) (k v : Nat → Int32) (c : Nat) (hc : c ≤ 64) (gl gh li hn fl : Bool) (lo hi : Int32) (nd : ([aM, aA, aB] : List Nat).Nodup) (sz : Nat) (x : Int32) : Met l yX3_remove wsX3_remove ({ frames := 1, cells := 0, slots := 0, locals := 22 } : Room) (pcZ D [(cy, .int)] [.ref aM, .int x] [(aM, .inr (3, [.ref aA, .ref aB, .int (nI c), .int (bI gl), .int (bI gh), .int (bI li), .int (bI hn), .int (bI fl), .int lo, .int hi])), (aA, .inl (cy, 64, .inl k)), (aB, .inl (cy, 64, .inl v))] sz) (qM (some (.long (vOf k v c x))) (fun H => va_P D vwCl (mW cy aM aA aB ((mdT k v c x).2.1) ((mdT k v c x).2.2) ((mdT k v c x).1) gl gh li hn fl lo hi) H) (mA [aM, aA, aB] sz)) 0 0 (mA [aM, aA, aB] sz) := by
  refine met_Z (cc := cX3_remove) (maxL := 4) (ret := (some .long)) (by decide +kernel) rfl (Nat.le_of_ble_eq_true rfl) ?_
  intro pM eM s mM below meth cM ls hx hb hr hts hown hlocks hml hnm hsz hK hP hl
  have hown : s.vm.findClass RX3 = some mM.cls := hown
  have hl : lv_has ls 4 [(0, .ref aM), (1, .int x)] := hl
  have hin_X3 : ∀ w ∈ wsX30, w ∈ wsX3_remove := by decide +kernel
  have kf_13 := hts (.fieldLink RX3 13 "OrderedDeskModel" "value" "[I") (by decide +kernel)
  have kc_38 := hts (.constantLong RX3 38 (1099511627776)) (by decide +kernel)
  have hP : va_P D vwCl [(aM, .inr (3, [.ref aA, .ref aB, .int (nI c), .int (bI gl), .int (bI gh), .int (bI li), .int (bI hn), .int (bI fl), .int lo, .int hi])), (aA, .inl (cy, 64, .inl k)), (aB, .inl (cy, 64, .inl v))] s.heap := hP
  subst hsz
  have ndw := nd
  have hA : ∀ q : Nat, s.heap.size ≤ q → mA [aM, aA, aB] s.heap.size q := fun q h => Or.inr h
  have hAw : ∀ q ∈ ([aM, aA, aB] : List Nat), mA [aM, aA, aB] s.heap.size q := fun q h => Or.inl h
  have hS : va_S (mA [aM, aA, aB] s.heap.size) s.heap s.heap [] := va_S.rf
  have hD : va_D (mA [aM, aA, aB] s.heap.size) [(aM, .inr (3, [.ref aA, .ref aB, .int (nI c), .int (bI gl), .int (bI gh), .int (bI li), .int (bI hn), .int (bI fl), .int lo, .int hi])), (aA, .inl (cy, 64, .inl k)), (aB, .inl (cy, 64, .inl v))] := D_of ndw hAw
  simp only [List.nodup_cons, List.mem_cons, List.not_mem_nil, or_false, not_or, not_false_eq_true, List.nodup_nil, and_true] at nd
  have hpl := plc_le k c x.toInt64
  refine lv_aload_n hx hb dX3_remove_0 rfl (lv_at hl 0 rfl) ?_
  refine lv_iload_n hx hb dX3_remove_1 rfl (lv_at hl 1 rfl) ?_
  refine go_R (va_runV (As := [.int x]) (rest := []) ⟨hx, hb, hml, hown, hts⟩ (c_X3_placeOf l D cy aM aA aB k v c (by omega) gl gh li hn fl lo hi x) (cwV 1 hts gX3_remove_X3_placeOf rfl rfl rfl (by decide +kernel) ⟨(Nat.le_of_ble_eq_true rfl), (Nat.le_of_ble_eq_true rfl)⟩) (preV_W hK (hP.sub [0, 1, 2] rfl) 0 3 rfl rfl) rfl rfl hl.1 rfl (lv_room (Nat.le_of_ble_eq_true rfl)) dX3_remove_2 ⟨(Nat.le_of_ble_eq_true rfl), (Nat.le_of_ble_eq_true rfl)⟩) ?_
  refine lv_istore_n (lv' := [(2, .int (nI (plc k c x.toInt64))), (0, .ref aM), (1, .int x)]) hx hb dX3_remove_5 rfl hl (by decide) rfl (fun ls hl => ?_)
  refine lv_aload_n hx hb dX3_remove_6 rfl (lv_at hl 1 rfl) ?_
  refine lv_iload_n hx hb dX3_remove_7 rfl (lv_at hl 0 rfl) ?_
  refine lv_iload_n hx hb dX3_remove_8 rfl (lv_at hl 2 rfl) ?_
  refine go_R (va_runV (As := [.int (nI (plc k c x.toInt64)), .int x]) (rest := []) ⟨hx, hb, hml, hown, hts⟩ (c_X3_isAt l D cy aM aA aB k v c (by omega) gl gh li hn fl lo hi (plc k c x.toInt64) (by omega) x) (cwV 2 hts gX3_remove_X3_isAt rfl rfl rfl (by decide +kernel) ⟨(Nat.le_of_ble_eq_true rfl), (Nat.le_of_ble_eq_true rfl)⟩) (preV_W hK (hP.sub [0, 1, 2] rfl) 0 3 rfl rfl) rfl rfl hl.1 rfl (lv_room (Nat.le_of_ble_eq_true rfl)) dX3_remove_9 ⟨(Nat.le_of_ble_eq_true rfl), (Nat.le_of_ble_eq_true rfl)⟩) ?_
  refine b_ne (tgt := 19) hx hb dX3_remove_12 (by decide) (fun h12 => ?_) (fun h12 => ?_)
  · have hlt := atK_lt h12
    have hz : vOf k v c x = (v (plc k c x.toInt64)).toInt64 := if_pos h12
    have e1 : mdT k v c x = (c - 1, delA k (plc k c x.toInt64) c, delA v (plc k c x.toInt64) c) := if_pos h12
    refine lv_aload_n hx hb dX3_remove_19 rfl (lv_at hl 1 rfl) ?_
    refine va_get (ci := 3) (v := .ref aB) (C := RX3) (T := TX3) (N := 10) hx hb hts hin_X3 hown hK hP 0 rfl rfl 1 (by decide) kf_13 (fun _ h9 => h9) rfl dX3_remove_20 ?_
    refine lv_iload_n hx hb dX3_remove_23 rfl (lv_at hl 0 rfl) ?_
    refine a_ld hx hb hK hP 2 0 rfl rfl (by have := atK_lt h12; omega) (by decide) dX3_remove_24 ?_
    refine lv_istore_n (lv' := [(3, .int (v (plc k c x.toInt64))), (2, .int (nI (plc k c x.toInt64))), (0, .ref aM), (1, .int x)]) hx hb dX3_remove_25 rfl hl (by decide) rfl (fun ls hl => ?_)
    refine lv_aload_n hx hb dX3_remove_26 rfl (lv_at hl 2 rfl) ?_
    refine lv_iload_n hx hb dX3_remove_27 rfl (lv_at hl 1 rfl) ?_
    refine go_V (va_runV (As := [.int (nI (plc k c x.toInt64))]) (rest := []) ⟨hx, hb, hml, hown, hts⟩ (c_X3_delete l D cy aM aA aB k v c (by omega) gl gh li hn fl lo hi (by simp; omega) _ (plc k c x.toInt64) (by omega)) (cwV 1 hts gX3_remove_X3_delete rfl rfl rfl (by decide +kernel) ⟨(Nat.le_of_ble_eq_true rfl), (Nat.le_of_ble_eq_true rfl)⟩) (preV_Z hK (hP.sub [0, 1, 2] rfl) 0 3 rfl rfl) rfl rfl hl.1 rfl (lv_room (Nat.le_of_ble_eq_true rfl)) dX3_remove_28 ⟨(Nat.le_of_ble_eq_true rfl), (Nat.le_of_ble_eq_true rfl)⟩) hS (fun q h => mA_sub [0, 1, 2] rfl hS.1 h) (fun H1 locs1 hB hzz hk hS => ?_)
    have hP : va_P D vwCl [(aM, .inr (3, [.ref aA, .ref aB, .int (nI (c - 1)), .int (bI gl), .int (bI gh), .int (bI li), .int (bI hn), .int (bI fl), .int lo, .int hi])), (aA, .inl (cy, 64, .inl (delA k (plc k c x.toInt64) c))), (aB, .inl (cy, 64, .inl (delA v (plc k c x.toInt64) c)))] H1 := va_P.sub hB [0, 1, 2] rfl
    have hD : va_D (mA [aM, aA, aB] s.heap.size) [(aM, .inr (3, [.ref aA, .ref aB, .int (nI (c - 1)), .int (bI gl), .int (bI gh), .int (bI li), .int (bI hn), .int (bI fl), .int lo, .int hi])), (aA, .inl (cy, 64, .inl (delA k (plc k c x.toInt64) c))), (aB, .inl (cy, 64, .inl (delA v (plc k c x.toInt64) c)))] := D_of ndw hAw
    clear hB
    generalize H1 = H at hP hS ⊢
    generalize locs1 = locs at hS ⊢
    refine lv_iload_n hx hb dX3_remove_31 rfl (lv_at hl 0 rfl) ?_
    refine lv_i2l hx hb dX3_remove_32 rfl ?_
    exact ret_lM hx hb hr hlocks dX3_remove_33 hS (by rw [hz]) (by rw [e1]; exact hP)
  · have h12n : ¬ atK k c (plc k c x.toInt64) x = true := by rw [h12]; decide
    have hz : vOf k v c x = NO := if_neg h12n
    have e1 : mdT k v c x = (c, k, v) := if_neg h12n
    refine lv_ldc2 hx hb hown kc_38 dX3_remove_15 ?_
    exact ret_lM hx hb hr hlocks dX3_remove_18 hS (by rw [hz]) (by rw [e1]; exact hP)

set_option maxHeartbeats 4000000 in
set_option maxRecDepth 100000 in
/-- has(what, number) -/
theorem c_X3_has (l : Launch) (D : va_G) (cy : ClassId) (aM aA aB : Nat) (k v : Nat → Int32) (c : Nat) (hc : c ≤ 64) (gl gh li hn fl : Bool) (lo hi : Int32) (w x : Int32) : Met l yX3_has wsX3_has ({ frames := 0, cells := 0, slots := 0, locals := 0 } : Room) (pcW D [(cy, .int)] [.ref aM, .int w, .int x] [(aM, .inr (3, [.ref aA, .ref aB, .int (nI c), .int (bI gl), .int (bI gh), .int (bI li), .int (bI hn), .int (bI fl), .int lo, .int hi])), (aA, .inl (cy, 64, .inl k)), (aB, .inl (cy, 64, .inl v))]) (qR (.int (bI (hsM k v c w x)))) 0 0 (fun _ => False) := by
  refine met_W (cc := cX3_has) (maxL := 4) (ret := (some .boolean)) (by decide +kernel) rfl (Nat.le_of_ble_eq_true rfl) ?_
  intro pM eM s mM below meth cM ls hx hb hr hts hown hlocks hml hnm hK hP hl
  have hown : s.vm.findClass RX3 = some mM.cls := hown
  have hl : lv_has ls 4 [(0, .ref aM), (1, .int w), (2, .int x)] := hl
  have hin_X3 : ∀ w ∈ wsX30, w ∈ wsX3_has := by decide +kernel
  have kf_13 := hts (.fieldLink RX3 13 "OrderedDeskModel" "value" "[I") (by decide +kernel)
  have kf_16 := hts (.fieldLink RX3 16 "OrderedDeskModel" "many" "I") (by decide +kernel)
  have kf_9 := hts (.fieldLink RX3 9 "OrderedDeskModel" "key" "[I") (by decide +kernel)
  have hP : va_P D vwCl [(aM, .inr (3, [.ref aA, .ref aB, .int (nI c), .int (bI gl), .int (bI gh), .int (bI li), .int (bI hn), .int (bI fl), .int lo, .int hi])), (aA, .inl (cy, 64, .inl k)), (aB, .inl (cy, 64, .inl v))] s.heap := hP
  refine lv_iload_n hx hb dX3_has_0 rfl (lv_at hl 1 rfl) ?_
  refine lv_if_eq (tgt := 11) hx hb dX3_has_1 (by decide) (fun h1 => ?_) (fun h1 => ?_)
  · have hw : w = 0 ∨ ¬ w = 0 ∧ w = 1 := Or.inl h1
    rcases hw with rfl | ⟨w1, rfl⟩
    · have hd : hsM k v c 0 x = hasV k c x := if_pos rfl
      refine lv_iconst (v := nI 0) hx hb dX3_has_11 (by decide) ?_
      refine lv_istore_n (lv' := [(3, .int (nI 0)), (0, .ref aM), (1, .int 0), (2, .int x)]) hx hb dX3_has_12 rfl hl (by decide) rfl (fun ls hl => ?_)
      refine W_loopR (I := fun (i : Nat) (ls : Array Slot) => lv_has ls 4 [(0, .ref aM), (1, .int 0), (2, .int x), (3, .int (nI i))] ∧ i ≤ c ∧ pf (fun j => !decide (k j = x)) c 0 = pf (fun j => !decide (k j = x)) (c - i) i) (μ := fun i => c - i) (fun i ls h ih => ?_) 0 ⟨lv_sub hl [1, 2, 3, 0] rfl, Nat.zero_le _, rfl⟩
      obtain ⟨hl, hi1, hv⟩ := h
      refine lv_iload_n hx hb dX3_has_13 rfl (lv_at hl 3 rfl) ?_
      refine lv_aload_n hx hb dX3_has_14 rfl (lv_at hl 0 rfl) ?_
      refine va_get (ci := 3) (v := .int (nI c)) (C := RX3) (T := TX3) (N := 10) hx hb hts hin_X3 hown hK hP 0 rfl rfl 2 (by decide) kf_16 (fun _ h9 => h9) rfl dX3_has_15 ?_
      refine n_ge (tgt := 52) (by omega) (by omega) hx hb dX3_has_18 (by decide) (fun h18 => ?_) (fun h18 => ?_)
      · have hz : hsM k v c 0 x = false := by rw [hd]; unfold hasV; rw [hv, pf_e h18]; simp; omega
        refine lv_iconst (v := bI false) hx hb dX3_has_52 (by decide) ?_
        exact ret_z hx hb hr hlocks dX3_has_53 (by rw [hz])
      · refine lv_iload_n hx hb dX3_has_21 rfl (lv_at hl 1 rfl) ?_
        refine lv_if_ne (tgt := 34) hx hb dX3_has_22 (by decide) (fun c_3 => ?_) (fun c_3 => ?_)
        · exact absurd c_3 (by decide)
        · refine lv_aload_n hx hb dX3_has_25 rfl (lv_at hl 0 rfl) ?_
          refine va_get (ci := 3) (v := .ref aA) (C := RX3) (T := TX3) (N := 10) hx hb hts hin_X3 hown hK hP 0 rfl rfl 0 (by decide) kf_9 (fun _ h9 => h9) rfl dX3_has_26 ?_
          refine lv_iload_n hx hb dX3_has_29 rfl (lv_at hl 3 rfl) ?_
          refine a_ld hx hb hK hP 1 0 rfl rfl (by omega) (by decide) dX3_has_30 ?_
          refine lv_goto (tgt := 40) hx hb dX3_has_31 (by decide) ?_
          refine lv_iload_n hx hb dX3_has_40 rfl (lv_at hl 2 rfl) ?_
          refine lv_icmp_ne (tgt := 46) hx hb dX3_has_41 (by decide) (fun h41 => ?_) (fun h41 => ?_)
          · refine lv_iinc (v := nI (i + 1)) (lv' := [(3, .int (nI (i + 1))), (0, .ref aM), (1, .int 0), (2, .int x)]) hx hb dX3_has_46 hl (k := 3) rfl (by first | exact nI_1 _ | exact nI_add _ _) (by decide) rfl (fun ls hl => ?_)
            refine lv_goto (tgt := 13) hx hb dX3_has_49 (by decide) ?_
            exact ih (i + 1) _ (by omega) ⟨lv_sub hl [1, 2, 3, 0] rfl, by omega, by rw [hv, pf_t h18 (by simpa using h41)]⟩
          · have hz : hsM k v c 0 x = true := by rw [hd]; unfold hasV; rw [hv, pf_f (by simpa using h41)]; simp; omega
            refine lv_iconst (v := bI true) hx hb dX3_has_44 (by decide) ?_
            exact ret_z hx hb hr hlocks dX3_has_45 (by rw [hz])
    · have hd : hsM k v c 1 x = hasV v c x := by unfold hsM; rw [if_neg w1, if_pos rfl]
      refine lv_iconst (v := nI 0) hx hb dX3_has_11 (by decide) ?_
      refine lv_istore_n (lv' := [(3, .int (nI 0)), (0, .ref aM), (1, .int 1), (2, .int x)]) hx hb dX3_has_12 rfl hl (by decide) rfl (fun ls hl => ?_)
      refine W_loopR (I := fun (i : Nat) (ls : Array Slot) => lv_has ls 4 [(0, .ref aM), (1, .int 1), (2, .int x), (3, .int (nI i))] ∧ i ≤ c ∧ pf (fun j => !decide (v j = x)) c 0 = pf (fun j => !decide (v j = x)) (c - i) i) (μ := fun i => c - i) (fun i ls h ih => ?_) 0 ⟨lv_sub hl [1, 2, 3, 0] rfl, Nat.zero_le _, rfl⟩
      obtain ⟨hl, hi1, hv⟩ := h
      refine lv_iload_n hx hb dX3_has_13 rfl (lv_at hl 3 rfl) ?_
      refine lv_aload_n hx hb dX3_has_14 rfl (lv_at hl 0 rfl) ?_
      refine va_get (ci := 3) (v := .int (nI c)) (C := RX3) (T := TX3) (N := 10) hx hb hts hin_X3 hown hK hP 0 rfl rfl 2 (by decide) kf_16 (fun _ h9 => h9) rfl dX3_has_15 ?_
      refine n_ge (tgt := 52) (by omega) (by omega) hx hb dX3_has_18 (by decide) (fun h18 => ?_) (fun h18 => ?_)
      · have hz : hsM k v c 1 x = false := by rw [hd]; unfold hasV; rw [hv, pf_e h18]; simp; omega
        refine lv_iconst (v := bI false) hx hb dX3_has_52 (by decide) ?_
        exact ret_z hx hb hr hlocks dX3_has_53 (by rw [hz])
      · refine lv_iload_n hx hb dX3_has_21 rfl (lv_at hl 1 rfl) ?_
        refine lv_if_ne (tgt := 34) hx hb dX3_has_22 (by decide) (fun c_6 => ?_) (fun c_6 => ?_)
        · refine lv_aload_n hx hb dX3_has_34 rfl (lv_at hl 0 rfl) ?_
          refine va_get (ci := 3) (v := .ref aB) (C := RX3) (T := TX3) (N := 10) hx hb hts hin_X3 hown hK hP 0 rfl rfl 1 (by decide) kf_13 (fun _ h9 => h9) rfl dX3_has_35 ?_
          refine lv_iload_n hx hb dX3_has_38 rfl (lv_at hl 3 rfl) ?_
          refine a_ld hx hb hK hP 2 0 rfl rfl (by omega) (by decide) dX3_has_39 ?_
          refine lv_iload_n hx hb dX3_has_40 rfl (lv_at hl 2 rfl) ?_
          refine lv_icmp_ne (tgt := 46) hx hb dX3_has_41 (by decide) (fun h41 => ?_) (fun h41 => ?_)
          · refine lv_iinc (v := nI (i + 1)) (lv' := [(3, .int (nI (i + 1))), (0, .ref aM), (1, .int 1), (2, .int x)]) hx hb dX3_has_46 hl (k := 3) rfl (by first | exact nI_1 _ | exact nI_add _ _) (by decide) rfl (fun ls hl => ?_)
            refine lv_goto (tgt := 13) hx hb dX3_has_49 (by decide) ?_
            exact ih (i + 1) _ (by omega) ⟨lv_sub hl [1, 2, 3, 0] rfl, by omega, by rw [hv, pf_t h18 (by simpa using h41)]⟩
          · have hz : hsM k v c 1 x = true := by rw [hd]; unfold hasV; rw [hv, pf_f (by simpa using h41)]; simp; omega
            refine lv_iconst (v := bI true) hx hb dX3_has_44 (by decide) ?_
            exact ret_z hx hb hr hlocks dX3_has_45 (by rw [hz])
        · exact absurd c_6 (by decide)
  · refine lv_iload_n hx hb dX3_has_4 rfl (lv_at hl 1 rfl) ?_
    refine lv_iconst (v := 1) hx hb dX3_has_5 (by decide) ?_
    refine lv_icmp_eq (tgt := 11) hx hb dX3_has_6 (by decide) (fun h6 => ?_) (fun h6 => ?_)
    · have hw : w = 0 ∨ ¬ w = 0 ∧ w = 1 := Or.inr ⟨h1, h6⟩
      rcases hw with rfl | ⟨w1, rfl⟩
      · have hd : hsM k v c 0 x = hasV k c x := if_pos rfl
        refine lv_iconst (v := nI 0) hx hb dX3_has_11 (by decide) ?_
        refine lv_istore_n (lv' := [(3, .int (nI 0)), (0, .ref aM), (1, .int 0), (2, .int x)]) hx hb dX3_has_12 rfl hl (by decide) rfl (fun ls hl => ?_)
        refine W_loopR (I := fun (i : Nat) (ls : Array Slot) => lv_has ls 4 [(0, .ref aM), (1, .int 0), (2, .int x), (3, .int (nI i))] ∧ i ≤ c ∧ pf (fun j => !decide (k j = x)) c 0 = pf (fun j => !decide (k j = x)) (c - i) i) (μ := fun i => c - i) (fun i ls h ih => ?_) 0 ⟨lv_sub hl [1, 2, 3, 0] rfl, Nat.zero_le _, rfl⟩
        obtain ⟨hl, hi1, hv⟩ := h
        refine lv_iload_n hx hb dX3_has_13 rfl (lv_at hl 3 rfl) ?_
        refine lv_aload_n hx hb dX3_has_14 rfl (lv_at hl 0 rfl) ?_
        refine va_get (ci := 3) (v := .int (nI c)) (C := RX3) (T := TX3) (N := 10) hx hb hts hin_X3 hown hK hP 0 rfl rfl 2 (by decide) kf_16 (fun _ h9 => h9) rfl dX3_has_15 ?_
        refine n_ge (tgt := 52) (by omega) (by omega) hx hb dX3_has_18 (by decide) (fun h18 => ?_) (fun h18 => ?_)
        · have hz : hsM k v c 0 x = false := by rw [hd]; unfold hasV; rw [hv, pf_e h18]; simp; omega
          refine lv_iconst (v := bI false) hx hb dX3_has_52 (by decide) ?_
          exact ret_z hx hb hr hlocks dX3_has_53 (by rw [hz])
        · refine lv_iload_n hx hb dX3_has_21 rfl (lv_at hl 1 rfl) ?_
          refine lv_if_ne (tgt := 34) hx hb dX3_has_22 (by decide) (fun c_10 => ?_) (fun c_10 => ?_)
          · exact absurd c_10 (by decide)
          · refine lv_aload_n hx hb dX3_has_25 rfl (lv_at hl 0 rfl) ?_
            refine va_get (ci := 3) (v := .ref aA) (C := RX3) (T := TX3) (N := 10) hx hb hts hin_X3 hown hK hP 0 rfl rfl 0 (by decide) kf_9 (fun _ h9 => h9) rfl dX3_has_26 ?_
            refine lv_iload_n hx hb dX3_has_29 rfl (lv_at hl 3 rfl) ?_
            refine a_ld hx hb hK hP 1 0 rfl rfl (by omega) (by decide) dX3_has_30 ?_
            refine lv_goto (tgt := 40) hx hb dX3_has_31 (by decide) ?_
            refine lv_iload_n hx hb dX3_has_40 rfl (lv_at hl 2 rfl) ?_
            refine lv_icmp_ne (tgt := 46) hx hb dX3_has_41 (by decide) (fun h41 => ?_) (fun h41 => ?_)
            · refine lv_iinc (v := nI (i + 1)) (lv' := [(3, .int (nI (i + 1))), (0, .ref aM), (1, .int 0), (2, .int x)]) hx hb dX3_has_46 hl (k := 3) rfl (by first | exact nI_1 _ | exact nI_add _ _) (by decide) rfl (fun ls hl => ?_)
              refine lv_goto (tgt := 13) hx hb dX3_has_49 (by decide) ?_
              exact ih (i + 1) _ (by omega) ⟨lv_sub hl [1, 2, 3, 0] rfl, by omega, by rw [hv, pf_t h18 (by simpa using h41)]⟩
            · have hz : hsM k v c 0 x = true := by rw [hd]; unfold hasV; rw [hv, pf_f (by simpa using h41)]; simp; omega
              refine lv_iconst (v := bI true) hx hb dX3_has_44 (by decide) ?_
              exact ret_z hx hb hr hlocks dX3_has_45 (by rw [hz])
      · have hd : hsM k v c 1 x = hasV v c x := by unfold hsM; rw [if_neg w1, if_pos rfl]
        refine lv_iconst (v := nI 0) hx hb dX3_has_11 (by decide) ?_
        refine lv_istore_n (lv' := [(3, .int (nI 0)), (0, .ref aM), (1, .int 1), (2, .int x)]) hx hb dX3_has_12 rfl hl (by decide) rfl (fun ls hl => ?_)
        refine W_loopR (I := fun (i : Nat) (ls : Array Slot) => lv_has ls 4 [(0, .ref aM), (1, .int 1), (2, .int x), (3, .int (nI i))] ∧ i ≤ c ∧ pf (fun j => !decide (v j = x)) c 0 = pf (fun j => !decide (v j = x)) (c - i) i) (μ := fun i => c - i) (fun i ls h ih => ?_) 0 ⟨lv_sub hl [1, 2, 3, 0] rfl, Nat.zero_le _, rfl⟩
        obtain ⟨hl, hi1, hv⟩ := h
        refine lv_iload_n hx hb dX3_has_13 rfl (lv_at hl 3 rfl) ?_
        refine lv_aload_n hx hb dX3_has_14 rfl (lv_at hl 0 rfl) ?_
        refine va_get (ci := 3) (v := .int (nI c)) (C := RX3) (T := TX3) (N := 10) hx hb hts hin_X3 hown hK hP 0 rfl rfl 2 (by decide) kf_16 (fun _ h9 => h9) rfl dX3_has_15 ?_
        refine n_ge (tgt := 52) (by omega) (by omega) hx hb dX3_has_18 (by decide) (fun h18 => ?_) (fun h18 => ?_)
        · have hz : hsM k v c 1 x = false := by rw [hd]; unfold hasV; rw [hv, pf_e h18]; simp; omega
          refine lv_iconst (v := bI false) hx hb dX3_has_52 (by decide) ?_
          exact ret_z hx hb hr hlocks dX3_has_53 (by rw [hz])
        · refine lv_iload_n hx hb dX3_has_21 rfl (lv_at hl 1 rfl) ?_
          refine lv_if_ne (tgt := 34) hx hb dX3_has_22 (by decide) (fun c_13 => ?_) (fun c_13 => ?_)
          · refine lv_aload_n hx hb dX3_has_34 rfl (lv_at hl 0 rfl) ?_
            refine va_get (ci := 3) (v := .ref aB) (C := RX3) (T := TX3) (N := 10) hx hb hts hin_X3 hown hK hP 0 rfl rfl 1 (by decide) kf_13 (fun _ h9 => h9) rfl dX3_has_35 ?_
            refine lv_iload_n hx hb dX3_has_38 rfl (lv_at hl 3 rfl) ?_
            refine a_ld hx hb hK hP 2 0 rfl rfl (by omega) (by decide) dX3_has_39 ?_
            refine lv_iload_n hx hb dX3_has_40 rfl (lv_at hl 2 rfl) ?_
            refine lv_icmp_ne (tgt := 46) hx hb dX3_has_41 (by decide) (fun h41 => ?_) (fun h41 => ?_)
            · refine lv_iinc (v := nI (i + 1)) (lv' := [(3, .int (nI (i + 1))), (0, .ref aM), (1, .int 1), (2, .int x)]) hx hb dX3_has_46 hl (k := 3) rfl (by first | exact nI_1 _ | exact nI_add _ _) (by decide) rfl (fun ls hl => ?_)
              refine lv_goto (tgt := 13) hx hb dX3_has_49 (by decide) ?_
              exact ih (i + 1) _ (by omega) ⟨lv_sub hl [1, 2, 3, 0] rfl, by omega, by rw [hv, pf_t h18 (by simpa using h41)]⟩
            · have hz : hsM k v c 1 x = true := by rw [hd]; unfold hasV; rw [hv, pf_f (by simpa using h41)]; simp; omega
              refine lv_iconst (v := bI true) hx hb dX3_has_44 (by decide) ?_
              exact ret_z hx hb hr hlocks dX3_has_45 (by rw [hz])
          · exact absurd c_13 (by decide)
    · have hz : hsM k v c w x = false := by unfold hsM; rw [if_neg h1, if_neg h6]
      refine lv_iconst (v := bI false) hx hb dX3_has_9 (by decide) ?_
      exact ret_z hx hb hr hlocks dX3_has_10 (by rw [hz])

set_option maxHeartbeats 4000000 in
set_option maxRecDepth 100000 in
/-- keyAt(at, from, to) -/
theorem c_X3_keyAt (l : Launch) (D : va_G) (cy : ClassId) (aM aA aB : Nat) (k v : Nat → Int32) (c : Nat) (hc : c ≤ 64) (gl gh li hn fl : Bool) (lo hi : Int32) (x : Int32) (b f : Nat) (hb2 : b ≤ 64) (hf2 : f ≤ 64) : Met l yX3_keyAt wsX3_keyAt ({ frames := 0, cells := 0, slots := 0, locals := 0 } : Room) (pcW D [(cy, .int)] [.ref aM, .int x, .int (nI b), .int (nI f)] [(aM, .inr (3, [.ref aA, .ref aB, .int (nI c), .int (bI gl), .int (bI gh), .int (bI li), .int (bI hn), .int (bI fl), .int lo, .int hi])), (aA, .inl (cy, 64, .inl k)), (aB, .inl (cy, 64, .inl v))]) (qR (.long (kW k x.toInt b f))) 0 0 (fun _ => False) := by
  refine met_W (cc := cX3_keyAt) (maxL := 4) (ret := (some .long)) (by decide +kernel) rfl (Nat.le_of_ble_eq_true rfl) ?_
  intro pM eM s mM below meth cM ls hx hb hr hts hown hlocks hml hnm hK hP hl
  have hown : s.vm.findClass RX3 = some mM.cls := hown
  have hl : lv_has ls 4 [(0, .ref aM), (1, .int x), (2, .int (nI b)), (3, .int (nI f))] := hl
  have hin_X3 : ∀ w ∈ wsX30, w ∈ wsX3_keyAt := by decide +kernel
  have kf_9 := hts (.fieldLink RX3 9 "OrderedDeskModel" "key" "[I") (by decide +kernel)
  have kc_38 := hts (.constantLong RX3 38 (1099511627776)) (by decide +kernel)
  have hP : va_P D vwCl [(aM, .inr (3, [.ref aA, .ref aB, .int (nI c), .int (bI gl), .int (bI gh), .int (bI li), .int (bI hn), .int (bI fl), .int lo, .int hi])), (aA, .inl (cy, 64, .inl k)), (aB, .inl (cy, 64, .inl v))] s.heap := hP
  refine lv_iload_n hx hb dX3_keyAt_0 rfl (lv_at hl 1 rfl) ?_
  refine lv_iload_n hx hb dX3_keyAt_1 rfl (lv_at hl 2 rfl) ?_
  refine lv_icmp_lt (tgt := 20) hx hb dX3_keyAt_2 (by decide) (fun h2 => ?_) (fun h2 => ?_)
  · have hz : kW k x.toInt b f = NO := kW_no (by rw [Int32.lt_iff_toInt_lt, nI_toInt (by omega)] at h2; omega)
    refine lv_ldc2 hx hb hown kc_38 dX3_keyAt_20 ?_
    exact ret_l hx hb hr hlocks dX3_keyAt_23 (by rw [hz])
  · refine lv_iload_n hx hb dX3_keyAt_5 rfl (lv_at hl 1 rfl) ?_
    refine lv_iload_n hx hb dX3_keyAt_6 rfl (lv_at hl 3 rfl) ?_
    refine lv_icmp_ge (tgt := 20) hx hb dX3_keyAt_7 (by decide) (fun h7 => ?_) (fun h7 => ?_)
    · have hz : kW k x.toInt b f = NO := kW_no (by rw [Int32.le_iff_toInt_le, nI_toInt (by omega)] at h7; omega)
      refine lv_ldc2 hx hb hown kc_38 dX3_keyAt_20 ?_
      exact ret_l hx hb hr hlocks dX3_keyAt_23 (by rw [hz])
    · rw [Int32.lt_iff_toInt_lt, nI_toInt (by omega)] at h2
      rw [Int32.le_iff_toInt_le, nI_toInt (by omega)] at h7
      obtain ⟨j, hj⟩ : ∃ j : Nat, x.toInt = (j : Int) := ⟨x.toInt.toNat, by omega⟩
      obtain rfl : x = nI j := I32_of hj (by omega)
      have hz : kW k (nI j).toInt b f = (k j).toInt64 := by rw [hj]; exact kW_yes (by omega) (by omega)
      refine lv_aload_n hx hb dX3_keyAt_10 rfl (lv_at hl 0 rfl) ?_
      refine va_get (ci := 3) (v := .ref aA) (C := RX3) (T := TX3) (N := 10) hx hb hts hin_X3 hown hK hP 0 rfl rfl 0 (by decide) kf_9 (fun _ h9 => h9) rfl dX3_keyAt_11 ?_
      refine lv_iload_n hx hb dX3_keyAt_14 rfl (lv_at hl 1 rfl) ?_
      refine a_ld hx hb hK hP 1 0 rfl rfl (by omega) (by decide) dX3_keyAt_15 ?_
      refine lv_i2l hx hb dX3_keyAt_16 rfl ?_
      refine lv_goto (tgt := 23) hx hb dX3_keyAt_17 (by decide) ?_
      exact ret_l hx hb hr hlocks dX3_keyAt_23 (by rw [hz])

set_option maxHeartbeats 4000000 in
set_option maxRecDepth 100000 in
/-- near(what, k, from, to) -/
theorem c_X3_near (l : Launch) (D : va_G) (cy : ClassId) (aM aA aB : Nat) (k v : Nat → Int32) (c : Nat) (hc : c ≤ 64) (gl gh li hn fl : Bool) (lo hi : Int32) (w x : Int32) (b f : Nat) (hb2 : b ≤ f) (hf2 : f ≤ 64) : Met l yX3_near wsX3_near ({ frames := 1, cells := 0, slots := 0, locals := 23 } : Room) (pcW D [(cy, .int)] [.ref aM, .int w, .int x, .int (nI b), .int (nI f)] [(aM, .inr (3, [.ref aA, .ref aB, .int (nI c), .int (bI gl), .int (bI gh), .int (bI li), .int (bI hn), .int (bI fl), .int lo, .int hi])), (aA, .inl (cy, 64, .inl k)), (aB, .inl (cy, 64, .inl v))]) (qR (.long (kNM k w x b f))) 0 0 (fun _ => False) := by
  refine met_W (cc := cX3_near) (maxL := 8) (ret := (some .long)) (by decide +kernel) rfl (Nat.le_of_ble_eq_true rfl) ?_
  intro pM eM s mM below meth cM ls hx hb hr hts hown hlocks hml hnm hK hP hl
  have hown : s.vm.findClass RX3 = some mM.cls := hown
  have hl : lv_has ls 8 [(0, .ref aM), (1, .int w), (2, .int x), (3, .int (nI b)), (4, .int (nI f))] := hl
  have hin_X3 : ∀ w ∈ wsX30, w ∈ wsX3_near := by decide +kernel
  have kf_9 := hts (.fieldLink RX3 9 "OrderedDeskModel" "key" "[I") (by decide +kernel)
  have kc_38 := hts (.constantLong RX3 38 (1099511627776)) (by decide +kernel)
  have hP : va_P D vwCl [(aM, .inr (3, [.ref aA, .ref aB, .int (nI c), .int (bI gl), .int (bI gh), .int (bI li), .int (bI hn), .int (bI fl), .int lo, .int hi])), (aA, .inl (cy, 64, .inl k)), (aB, .inl (cy, 64, .inl v))] s.heap := hP
  refine lv_iload_n hx hb dX3_near_0 rfl (lv_at hl 3 rfl) ?_
  refine lv_istore (lv' := [(5, .int (nI b)), (0, .ref aM), (1, .int w), (2, .int x), (3, .int (nI b)), (4, .int (nI f))]) hx hb dX3_near_1 hl (by decide) rfl (fun ls hl => ?_)
  refine lv_iload_n hx hb dX3_near_3 rfl (lv_at hl 4 rfl) ?_
  refine lv_istore (lv' := [(6, .int (nI b)), (5, .int (nI b)), (0, .ref aM), (1, .int w), (2, .int x), (3, .int (nI b)), (4, .int (nI f))]) hx hb dX3_near_4 hl (by decide) rfl (fun ls hl => ?_)
  refine lv_iload_n hx hb dX3_near_6 rfl (lv_at hl 5 rfl) ?_
  refine lv_istore (lv' := [(7, .int (nI b)), (6, .int (nI b)), (5, .int (nI b)), (0, .ref aM), (1, .int w), (2, .int x), (3, .int (nI b)), (4, .int (nI f))]) hx hb dX3_near_7 hl (by decide) rfl (fun ls hl => ?_)
  refine W_loopR (I := fun (i : Nat) (ls : Array Slot) => ∃ (p1 : Nat) (p2 : Nat), lv_has ls 8 [(0, .ref aM), (1, .int w), (2, .int x), (3, .int (nI b)), (4, .int (nI f)), (5, .int (nI p1)), (6, .int (nI p2)), (7, .int (nI i))] ∧ b ≤ i ∧ i ≤ f ∧ p1 ≤ i ∧ p2 ≤ i ∧ nlp k x (f - b) b b b = nlp k x (f - i) i p1 p2) (μ := fun i => f - i) (fun i ls h ih => ?_) b ⟨b, b, lv_sub hl [3, 4, 5, 6, 7, 2, 1, 0] rfl, Nat.le_refl _, hb2, Nat.le_refl _, Nat.le_refl _, rfl⟩
  obtain ⟨p1, p2, hl, hi1, hi2, hp1, hp2, hv⟩ := h
  refine lv_iload hx hb dX3_near_9 (lv_at hl 7 rfl) ?_
  refine lv_iload hx hb dX3_near_11 (lv_at hl 4 rfl) ?_
  refine n_ge (tgt := 56) (by omega) (by omega) hx hb dX3_near_13 (by decide) (fun h13 => ?_) (fun h13 => ?_)
  · have e1 : nlp k x (f - b) b b b = (p1, p2) := by rw [hv, show f - i = 0 by omega]; rfl
    refine lv_iload_n hx hb dX3_near_56 rfl (lv_at hl 1 rfl) ?_
    by_cases w0 : w = 0
    · refine top_i (y := 0) w0 ?_
      refine lv_tableIn (off := 39) (tgt := 96) hx hb dX3_near_57 (by decide) (by decide) (by decide) (by decide) ?_
      have hz : kNM k w x b f = kW k (((nlp k x (f - b) b b b).2 : Int) - 1) b f := by unfold kNM; rw [if_pos w0]
      rw [e1] at hz
      refine lv_aload_n hx hb dX3_near_96 rfl (lv_at hl 0 rfl) ?_
      refine lv_iload hx hb dX3_near_97 (lv_at hl 6 rfl) ?_
      refine lv_iconst (v := 1) hx hb dX3_near_99 (by decide) ?_
      refine lv_isub hx hb dX3_near_100 ?_
      refine lv_iload_n hx hb dX3_near_101 rfl (lv_at hl 3 rfl) ?_
      refine lv_iload hx hb dX3_near_102 (lv_at hl 4 rfl) ?_
      refine go_R (va_runV (As := [.int ((nI p2) - 1), .int (nI b), .int (nI f)]) (rest := []) ⟨hx, hb, hml, hown, hts⟩ (c_X3_keyAt l D cy aM aA aB k v c (by omega) gl gh li hn fl lo hi ((nI p2) - 1) b f (by omega) (by omega)) (cwV 3 hts gX3_near_X3_keyAt rfl rfl rfl (by decide +kernel) ⟨(Nat.le_of_ble_eq_true rfl), (Nat.le_of_ble_eq_true rfl)⟩) (preV_W hK (hP.sub [0, 1, 2] rfl) 0 3 rfl rfl) rfl rfl hl.1 rfl (lv_room (Nat.le_of_ble_eq_true rfl)) dX3_near_104 ⟨(Nat.le_of_ble_eq_true rfl), (Nat.le_of_ble_eq_true rfl)⟩) ?_
      exact ret_l hx hb hr hlocks dX3_near_107 (by first | (rw [hz]; done) | (rw [hz, nI_toInt (by omega)]; done) | (rw [hz, nI_m1I (by omega)]; done))
    by_cases w1 : w = 1
    · refine top_i (y := 1) w1 ?_
      refine lv_tableIn (off := 51) (tgt := 108) hx hb dX3_near_57 (by decide) (by decide) (by decide) (by decide) ?_
      have hz : kNM k w x b f = kW k ((nlp k x (f - b) b b b).1 : Int) b f := by unfold kNM; rw [if_neg w0, if_pos w1]
      rw [e1] at hz
      refine lv_aload_n hx hb dX3_near_108 rfl (lv_at hl 0 rfl) ?_
      refine lv_iload hx hb dX3_near_109 (lv_at hl 5 rfl) ?_
      refine lv_iload_n hx hb dX3_near_111 rfl (lv_at hl 3 rfl) ?_
      refine lv_iload hx hb dX3_near_112 (lv_at hl 4 rfl) ?_
      refine go_R (va_runV (As := [.int (nI p1), .int (nI b), .int (nI f)]) (rest := []) ⟨hx, hb, hml, hown, hts⟩ (c_X3_keyAt l D cy aM aA aB k v c (by omega) gl gh li hn fl lo hi (nI p1) b f (by omega) (by omega)) (cwV 3 hts gX3_near_X3_keyAt rfl rfl rfl (by decide +kernel) ⟨(Nat.le_of_ble_eq_true rfl), (Nat.le_of_ble_eq_true rfl)⟩) (preV_W hK (hP.sub [0, 1, 2] rfl) 0 3 rfl rfl) rfl rfl hl.1 rfl (lv_room (Nat.le_of_ble_eq_true rfl)) dX3_near_114 ⟨(Nat.le_of_ble_eq_true rfl), (Nat.le_of_ble_eq_true rfl)⟩) ?_
      exact ret_l hx hb hr hlocks dX3_near_117 (by first | (rw [hz]; done) | (rw [hz, nI_toInt (by omega)]; done) | (rw [hz, nI_m1I (by omega)]; done))
    by_cases w2 : w = 2
    · refine top_i (y := 2) w2 ?_
      refine lv_tableIn (off := 61) (tgt := 118) hx hb dX3_near_57 (by decide) (by decide) (by decide) (by decide) ?_
      have hz : kNM k w x b f = kW k (((nlp k x (f - b) b b b).1 : Int) - 1) b f := by unfold kNM; rw [if_neg w0, if_neg w1, if_pos w2]
      rw [e1] at hz
      refine lv_aload_n hx hb dX3_near_118 rfl (lv_at hl 0 rfl) ?_
      refine lv_iload hx hb dX3_near_119 (lv_at hl 5 rfl) ?_
      refine lv_iconst (v := 1) hx hb dX3_near_121 (by decide) ?_
      refine lv_isub hx hb dX3_near_122 ?_
      refine lv_iload_n hx hb dX3_near_123 rfl (lv_at hl 3 rfl) ?_
      refine lv_iload hx hb dX3_near_124 (lv_at hl 4 rfl) ?_
      refine go_R (va_runV (As := [.int ((nI p1) - 1), .int (nI b), .int (nI f)]) (rest := []) ⟨hx, hb, hml, hown, hts⟩ (c_X3_keyAt l D cy aM aA aB k v c (by omega) gl gh li hn fl lo hi ((nI p1) - 1) b f (by omega) (by omega)) (cwV 3 hts gX3_near_X3_keyAt rfl rfl rfl (by decide +kernel) ⟨(Nat.le_of_ble_eq_true rfl), (Nat.le_of_ble_eq_true rfl)⟩) (preV_W hK (hP.sub [0, 1, 2] rfl) 0 3 rfl rfl) rfl rfl hl.1 rfl (lv_room (Nat.le_of_ble_eq_true rfl)) dX3_near_126 ⟨(Nat.le_of_ble_eq_true rfl), (Nat.le_of_ble_eq_true rfl)⟩) ?_
      exact ret_l hx hb hr hlocks dX3_near_129 (by first | (rw [hz]; done) | (rw [hz, nI_toInt (by omega)]; done) | (rw [hz, nI_m1I (by omega)]; done))
    by_cases w3 : w = 3
    · refine top_i (y := 3) w3 ?_
      refine lv_tableIn (off := 73) (tgt := 130) hx hb dX3_near_57 (by decide) (by decide) (by decide) (by decide) ?_
      have hz : kNM k w x b f = kW k ((nlp k x (f - b) b b b).2 : Int) b f := by unfold kNM; rw [if_neg w0, if_neg w1, if_neg w2, if_pos w3]
      rw [e1] at hz
      refine lv_aload_n hx hb dX3_near_130 rfl (lv_at hl 0 rfl) ?_
      refine lv_iload hx hb dX3_near_131 (lv_at hl 6 rfl) ?_
      refine lv_iload_n hx hb dX3_near_133 rfl (lv_at hl 3 rfl) ?_
      refine lv_iload hx hb dX3_near_134 (lv_at hl 4 rfl) ?_
      refine go_R (va_runV (As := [.int (nI p2), .int (nI b), .int (nI f)]) (rest := []) ⟨hx, hb, hml, hown, hts⟩ (c_X3_keyAt l D cy aM aA aB k v c (by omega) gl gh li hn fl lo hi (nI p2) b f (by omega) (by omega)) (cwV 3 hts gX3_near_X3_keyAt rfl rfl rfl (by decide +kernel) ⟨(Nat.le_of_ble_eq_true rfl), (Nat.le_of_ble_eq_true rfl)⟩) (preV_W hK (hP.sub [0, 1, 2] rfl) 0 3 rfl rfl) rfl rfl hl.1 rfl (lv_room (Nat.le_of_ble_eq_true rfl)) dX3_near_136 ⟨(Nat.le_of_ble_eq_true rfl), (Nat.le_of_ble_eq_true rfl)⟩) ?_
      exact ret_l hx hb hr hlocks dX3_near_139 (by first | (rw [hz]; done) | (rw [hz, nI_toInt (by omega)]; done) | (rw [hz, nI_m1I (by omega)]; done))
    by_cases w4 : w = 4
    · refine top_i (y := 4) w4 ?_
      refine lv_tableIn (off := 83) (tgt := 140) hx hb dX3_near_57 (by decide) (by decide) (by decide) (by decide) ?_
      have hz : kNM k w x b f = kW k (b : Int) b f := by unfold kNM; rw [if_neg w0, if_neg w1, if_neg w2, if_neg w3, if_pos w4]
      refine lv_aload_n hx hb dX3_near_140 rfl (lv_at hl 0 rfl) ?_
      refine lv_iload_n hx hb dX3_near_141 rfl (lv_at hl 3 rfl) ?_
      refine lv_iload_n hx hb dX3_near_142 rfl (lv_at hl 3 rfl) ?_
      refine lv_iload hx hb dX3_near_143 (lv_at hl 4 rfl) ?_
      refine go_R (va_runV (As := [.int (nI b), .int (nI b), .int (nI f)]) (rest := []) ⟨hx, hb, hml, hown, hts⟩ (c_X3_keyAt l D cy aM aA aB k v c (by omega) gl gh li hn fl lo hi (nI b) b f (by omega) (by omega)) (cwV 3 hts gX3_near_X3_keyAt rfl rfl rfl (by decide +kernel) ⟨(Nat.le_of_ble_eq_true rfl), (Nat.le_of_ble_eq_true rfl)⟩) (preV_W hK (hP.sub [0, 1, 2] rfl) 0 3 rfl rfl) rfl rfl hl.1 rfl (lv_room (Nat.le_of_ble_eq_true rfl)) dX3_near_145 ⟨(Nat.le_of_ble_eq_true rfl), (Nat.le_of_ble_eq_true rfl)⟩) ?_
      exact ret_l hx hb hr hlocks dX3_near_148 (by first | (rw [hz]; done) | (rw [hz, nI_toInt (by omega)]; done) | (rw [hz, nI_m1I (by omega)]; done))
    by_cases w5 : w = 5
    · refine top_i (y := 5) w5 ?_
      refine lv_tableIn (off := 92) (tgt := 149) hx hb dX3_near_57 (by decide) (by decide) (by decide) (by decide) ?_
      have hz : kNM k w x b f = kW k ((f : Int) - 1) b f := by unfold kNM; rw [if_neg w0, if_neg w1, if_neg w2, if_neg w3, if_neg w4, if_pos w5]
      refine lv_aload_n hx hb dX3_near_149 rfl (lv_at hl 0 rfl) ?_
      refine lv_iload hx hb dX3_near_150 (lv_at hl 4 rfl) ?_
      refine lv_iconst (v := 1) hx hb dX3_near_152 (by decide) ?_
      refine lv_isub hx hb dX3_near_153 ?_
      refine lv_iload_n hx hb dX3_near_154 rfl (lv_at hl 3 rfl) ?_
      refine lv_iload hx hb dX3_near_155 (lv_at hl 4 rfl) ?_
      refine go_R (va_runV (As := [.int ((nI f) - 1), .int (nI b), .int (nI f)]) (rest := []) ⟨hx, hb, hml, hown, hts⟩ (c_X3_keyAt l D cy aM aA aB k v c (by omega) gl gh li hn fl lo hi ((nI f) - 1) b f (by omega) (by omega)) (cwV 3 hts gX3_near_X3_keyAt rfl rfl rfl (by decide +kernel) ⟨(Nat.le_of_ble_eq_true rfl), (Nat.le_of_ble_eq_true rfl)⟩) (preV_W hK (hP.sub [0, 1, 2] rfl) 0 3 rfl rfl) rfl rfl hl.1 rfl (lv_room (Nat.le_of_ble_eq_true rfl)) dX3_near_157 ⟨(Nat.le_of_ble_eq_true rfl), (Nat.le_of_ble_eq_true rfl)⟩) ?_
      exact ret_l hx hb hr hlocks dX3_near_160 (by first | (rw [hz]; done) | (rw [hz, nI_toInt (by omega)]; done) | (rw [hz, nI_m1I (by omega)]; done))
    refine lv_tableOut (tgt := 161) hx hb dX3_near_57 (tbl_out w0 w1 w2 w3 w4 w5) (by decide) ?_
    have hz : kNM k w x b f = NO := by unfold kNM; rw [if_neg w0, if_neg w1, if_neg w2, if_neg w3, if_neg w4, if_neg w5]
    refine lv_ldc2 hx hb hown kc_38 dX3_near_161 ?_
    exact ret_l hx hb hr hlocks dX3_near_164 (by first | (rw [hz]; done) | (rw [hz, nI_toInt (by omega)]; done) | (rw [hz, nI_m1I (by omega)]; done))
  · refine lv_aload_n hx hb dX3_near_16 rfl (lv_at hl 0 rfl) ?_
    refine va_get (ci := 3) (v := .ref aA) (C := RX3) (T := TX3) (N := 10) hx hb hts hin_X3 hown hK hP 0 rfl rfl 0 (by decide) kf_9 (fun _ h9 => h9) rfl dX3_near_17 ?_
    refine lv_iload hx hb dX3_near_20 (lv_at hl 7 rfl) ?_
    refine a_ld hx hb hK hP 1 0 rfl rfl (by omega) (by decide) dX3_near_22 ?_
    refine lv_iload_n hx hb dX3_near_23 rfl (lv_at hl 2 rfl) ?_
    refine lv_icmp_ge (tgt := 33) hx hb dX3_near_24 (by decide) (fun h24 => ?_) (fun h24 => ?_)
    · refine lv_aload_n hx hb dX3_near_33 rfl (lv_at hl 0 rfl) ?_
      refine va_get (ci := 3) (v := .ref aA) (C := RX3) (T := TX3) (N := 10) hx hb hts hin_X3 hown hK hP 0 rfl rfl 0 (by decide) kf_9 (fun _ h9 => h9) rfl dX3_near_34 ?_
      refine lv_iload hx hb dX3_near_37 (lv_at hl 7 rfl) ?_
      refine a_ld hx hb hK hP 1 0 rfl rfl (by omega) (by decide) dX3_near_39 ?_
      refine lv_iload_n hx hb dX3_near_40 rfl (lv_at hl 2 rfl) ?_
      refine lv_icmp_gt (tgt := 50) hx hb dX3_near_41 (by decide) (fun h41 => ?_) (fun h41 => ?_)
      · refine lv_iinc (v := nI (i + 1)) (lv' := [(7, .int (nI (i + 1))), (0, .ref aM), (1, .int w), (2, .int x), (3, .int (nI b)), (4, .int (nI f)), (5, .int (nI p1)), (6, .int (nI p2))]) hx hb dX3_near_50 hl (k := 7) rfl (by first | exact nI_1 _ | exact nI_add _ _) (by decide) rfl (fun ls hl => ?_)
        refine lv_goto (tgt := 9) hx hb dX3_near_53 (by decide) ?_
        exact ih (i + 1) _ (by omega) ⟨_, _, lv_sub hl [1, 2, 3, 4, 5, 6, 7, 0] rfl, by omega, by omega, by omega, by omega, by rw [hv, nlp_s h13]; first | rw [if_neg (Int32.not_lt.mpr h24), if_neg (Int32.not_le.mpr h41)] | rw [if_neg (Int32.not_lt.mpr h24), if_pos (Int32.not_lt.mp h41)] | rw [if_pos (Int32.not_le.mp h24), if_neg (Int32.not_le.mpr h41)] | rw [if_pos (Int32.not_le.mp h24), if_pos (Int32.not_lt.mp h41)]⟩
      · refine lv_iload hx hb dX3_near_44 (lv_at hl 7 rfl) ?_
        refine lv_iconst (v := nI 1) hx hb dX3_near_46 (by decide) ?_
        refine lv_iadd hx hb dX3_near_47 ?_
        refine top_i (y := nI (i + 1)) (nI_add _ _) ?_
        refine lv_istore (lv' := [(6, .int (nI (i + 1))), (0, .ref aM), (1, .int w), (2, .int x), (3, .int (nI b)), (4, .int (nI f)), (5, .int (nI p1)), (7, .int (nI i))]) hx hb dX3_near_48 hl (by decide) rfl (fun ls hl => ?_)
        refine lv_iinc (v := nI (i + 1)) (lv' := [(7, .int (nI (i + 1))), (6, .int (nI (i + 1))), (0, .ref aM), (1, .int w), (2, .int x), (3, .int (nI b)), (4, .int (nI f)), (5, .int (nI p1))]) hx hb dX3_near_50 hl (k := 7) rfl (by first | exact nI_1 _ | exact nI_add _ _) (by decide) rfl (fun ls hl => ?_)
        refine lv_goto (tgt := 9) hx hb dX3_near_53 (by decide) ?_
        exact ih (i + 1) _ (by omega) ⟨_, _, lv_sub hl [2, 3, 4, 5, 6, 7, 1, 0] rfl, by omega, by omega, by omega, by omega, by rw [hv, nlp_s h13]; first | rw [if_neg (Int32.not_lt.mpr h24), if_neg (Int32.not_le.mpr h41)] | rw [if_neg (Int32.not_lt.mpr h24), if_pos (Int32.not_lt.mp h41)] | rw [if_pos (Int32.not_le.mp h24), if_neg (Int32.not_le.mpr h41)] | rw [if_pos (Int32.not_le.mp h24), if_pos (Int32.not_lt.mp h41)]⟩
    · refine lv_iload hx hb dX3_near_27 (lv_at hl 7 rfl) ?_
      refine lv_iconst (v := nI 1) hx hb dX3_near_29 (by decide) ?_
      refine lv_iadd hx hb dX3_near_30 ?_
      refine top_i (y := nI (i + 1)) (nI_add _ _) ?_
      refine lv_istore (lv' := [(5, .int (nI (i + 1))), (0, .ref aM), (1, .int w), (2, .int x), (3, .int (nI b)), (4, .int (nI f)), (6, .int (nI p2)), (7, .int (nI i))]) hx hb dX3_near_31 hl (by decide) rfl (fun ls hl => ?_)
      refine lv_aload_n hx hb dX3_near_33 rfl (lv_at hl 1 rfl) ?_
      refine va_get (ci := 3) (v := .ref aA) (C := RX3) (T := TX3) (N := 10) hx hb hts hin_X3 hown hK hP 0 rfl rfl 0 (by decide) kf_9 (fun _ h9 => h9) rfl dX3_near_34 ?_
      refine lv_iload hx hb dX3_near_37 (lv_at hl 7 rfl) ?_
      refine a_ld hx hb hK hP 1 0 rfl rfl (by omega) (by decide) dX3_near_39 ?_
      refine lv_iload_n hx hb dX3_near_40 rfl (lv_at hl 3 rfl) ?_
      refine lv_icmp_gt (tgt := 50) hx hb dX3_near_41 (by decide) (fun h41 => ?_) (fun h41 => ?_)
      · refine lv_iinc (v := nI (i + 1)) (lv' := [(7, .int (nI (i + 1))), (5, .int (nI (i + 1))), (0, .ref aM), (1, .int w), (2, .int x), (3, .int (nI b)), (4, .int (nI f)), (6, .int (nI p2))]) hx hb dX3_near_50 hl (k := 7) rfl (by first | exact nI_1 _ | exact nI_add _ _) (by decide) rfl (fun ls hl => ?_)
        refine lv_goto (tgt := 9) hx hb dX3_near_53 (by decide) ?_
        exact ih (i + 1) _ (by omega) ⟨_, _, lv_sub hl [2, 3, 4, 5, 6, 1, 7, 0] rfl, by omega, by omega, by omega, by omega, by rw [hv, nlp_s h13]; first | rw [if_neg (Int32.not_lt.mpr h24), if_neg (Int32.not_le.mpr h41)] | rw [if_neg (Int32.not_lt.mpr h24), if_pos (Int32.not_lt.mp h41)] | rw [if_pos (Int32.not_le.mp h24), if_neg (Int32.not_le.mpr h41)] | rw [if_pos (Int32.not_le.mp h24), if_pos (Int32.not_lt.mp h41)]⟩
      · refine lv_iload hx hb dX3_near_44 (lv_at hl 7 rfl) ?_
        refine lv_iconst (v := nI 1) hx hb dX3_near_46 (by decide) ?_
        refine lv_iadd hx hb dX3_near_47 ?_
        refine top_i (y := nI (i + 1)) (nI_add _ _) ?_
        refine lv_istore (lv' := [(6, .int (nI (i + 1))), (5, .int (nI (i + 1))), (0, .ref aM), (1, .int w), (2, .int x), (3, .int (nI b)), (4, .int (nI f)), (7, .int (nI i))]) hx hb dX3_near_48 hl (by decide) rfl (fun ls hl => ?_)
        refine lv_iinc (v := nI (i + 1)) (lv' := [(7, .int (nI (i + 1))), (6, .int (nI (i + 1))), (5, .int (nI (i + 1))), (0, .ref aM), (1, .int w), (2, .int x), (3, .int (nI b)), (4, .int (nI f))]) hx hb dX3_near_50 hl (k := 7) rfl (by first | exact nI_1 _ | exact nI_add _ _) (by decide) rfl (fun ls hl => ?_)
        refine lv_goto (tgt := 9) hx hb dX3_near_53 (by decide) ?_
        exact ih (i + 1) _ (by omega) ⟨_, _, lv_sub hl [3, 4, 5, 6, 7, 2, 1, 0] rfl, by omega, by omega, by omega, by omega, by rw [hv, nlp_s h13]; first | rw [if_neg (Int32.not_lt.mpr h24), if_neg (Int32.not_le.mpr h41)] | rw [if_neg (Int32.not_lt.mpr h24), if_pos (Int32.not_lt.mp h41)] | rw [if_pos (Int32.not_le.mp h24), if_neg (Int32.not_le.mpr h41)] | rw [if_pos (Int32.not_le.mp h24), if_pos (Int32.not_lt.mp h41)]⟩

set_option maxHeartbeats 4000000 in
set_option maxRecDepth 100000 in
/-- near(what, k) -/
theorem c_X3_near_ (l : Launch) (D : va_G) (cy : ClassId) (aM aA aB : Nat) (k v : Nat → Int32) (c : Nat) (hc : c ≤ 64) (gl gh li hn fl : Bool) (lo hi : Int32) (w x : Int32) : Met l yX3_near_ wsX3_near_ ({ frames := 2, cells := 0, slots := 0, locals := 50 } : Room) (pcW D [(cy, .int)] [.ref aM, .int w, .int x] [(aM, .inr (3, [.ref aA, .ref aB, .int (nI c), .int (bI gl), .int (bI gh), .int (bI li), .int (bI hn), .int (bI fl), .int lo, .int hi])), (aA, .inl (cy, 64, .inl k)), (aB, .inl (cy, 64, .inl v))]) (qR (.long (kNM k w x 0 c))) 0 0 (fun _ => False) := by
  refine met_W (cc := cX3_near_) (maxL := 3) (ret := (some .long)) (by decide +kernel) rfl (Nat.le_of_ble_eq_true rfl) ?_
  intro pM eM s mM below meth cM ls hx hb hr hts hown hlocks hml hnm hK hP hl
  have hown : s.vm.findClass RX3 = some mM.cls := hown
  have hl : lv_has ls 3 [(0, .ref aM), (1, .int w), (2, .int x)] := hl
  have hin_X3 : ∀ w ∈ wsX30, w ∈ wsX3_near_ := by decide +kernel
  have kf_16 := hts (.fieldLink RX3 16 "OrderedDeskModel" "many" "I") (by decide +kernel)
  have hP : va_P D vwCl [(aM, .inr (3, [.ref aA, .ref aB, .int (nI c), .int (bI gl), .int (bI gh), .int (bI li), .int (bI hn), .int (bI fl), .int lo, .int hi])), (aA, .inl (cy, 64, .inl k)), (aB, .inl (cy, 64, .inl v))] s.heap := hP
  refine lv_aload_n hx hb dX3_near__0 rfl (lv_at hl 0 rfl) ?_
  refine lv_iload_n hx hb dX3_near__1 rfl (lv_at hl 1 rfl) ?_
  refine lv_iload_n hx hb dX3_near__2 rfl (lv_at hl 2 rfl) ?_
  refine lv_iconst (v := nI 0) hx hb dX3_near__3 (by decide) ?_
  refine lv_aload_n hx hb dX3_near__4 rfl (lv_at hl 0 rfl) ?_
  refine va_get (ci := 3) (v := .int (nI c)) (C := RX3) (T := TX3) (N := 10) hx hb hts hin_X3 hown hK hP 0 rfl rfl 2 (by decide) kf_16 (fun _ h9 => h9) rfl dX3_near__5 ?_
  refine go_R (va_runV (As := [.int w, .int x, .int (nI 0), .int (nI c)]) (rest := []) ⟨hx, hb, hml, hown, hts⟩ (c_X3_near l D cy aM aA aB k v c (by omega) gl gh li hn fl lo hi w x 0 c (by omega) (by omega)) (cwV 4 hts gX3_near__X3_near rfl rfl rfl (by decide +kernel) ⟨(Nat.le_of_ble_eq_true rfl), (Nat.le_of_ble_eq_true rfl)⟩) (preV_W hK (hP.sub [0, 1, 2] rfl) 0 3 rfl rfl) rfl rfl hl.1 rfl (lv_room (Nat.le_of_ble_eq_true rfl)) dX3_near__8 ⟨(Nat.le_of_ble_eq_true rfl), (Nat.le_of_ble_eq_true rfl)⟩) ?_
  exact ret_l hx hb hr hlocks dX3_near__11 (rfl)

set_option maxHeartbeats 4000000 in
set_option maxRecDepth 100000 in
/-- size() -/
theorem c_X3_size (l : Launch) (D : va_G) (cy : ClassId) (aM aA aB : Nat) (k v : Nat → Int32) (c : Nat) (hc : c ≤ 64) (gl gh li hn fl : Bool) (lo hi : Int32) : Met l yX3_size wsX3_size ({ frames := 0, cells := 0, slots := 0, locals := 0 } : Room) (pcW D [(cy, .int)] [.ref aM] [(aM, .inr (3, [.ref aA, .ref aB, .int (nI c), .int (bI gl), .int (bI gh), .int (bI li), .int (bI hn), .int (bI fl), .int lo, .int hi])), (aA, .inl (cy, 64, .inl k)), (aB, .inl (cy, 64, .inl v))]) (qR (.int (nI c))) 0 0 (fun _ => False) := by
  refine met_W (cc := cX3_size) (maxL := 1) (ret := (some .int)) (by decide +kernel) rfl (Nat.le_of_ble_eq_true rfl) ?_
  intro pM eM s mM below meth cM ls hx hb hr hts hown hlocks hml hnm hK hP hl
  have hown : s.vm.findClass RX3 = some mM.cls := hown
  have hl : lv_has ls 1 [(0, .ref aM)] := hl
  have hin_X3 : ∀ w ∈ wsX30, w ∈ wsX3_size := by decide +kernel
  have kf_16 := hts (.fieldLink RX3 16 "OrderedDeskModel" "many" "I") (by decide +kernel)
  have hP : va_P D vwCl [(aM, .inr (3, [.ref aA, .ref aB, .int (nI c), .int (bI gl), .int (bI gh), .int (bI li), .int (bI hn), .int (bI fl), .int lo, .int hi])), (aA, .inl (cy, 64, .inl k)), (aB, .inl (cy, 64, .inl v))] s.heap := hP
  refine lv_aload_n hx hb dX3_size_0 rfl (lv_at hl 0 rfl) ?_
  refine va_get (ci := 3) (v := .int (nI c)) (C := RX3) (T := TX3) (N := 10) hx hb hts hin_X3 hown hK hP 0 rfl rfl 2 (by decide) kf_16 (fun _ h9 => h9) rfl dX3_size_1 ?_
  exact ret_i hx hb hr hlocks dX3_size_4 (rfl)

set_option maxHeartbeats 4000000 in
set_option maxRecDepth 100000 in
/-- isIn(k) -/
theorem c_X3_isIn (l : Launch) (D : va_G) (cy : ClassId) (aM aA aB : Nat) (k v : Nat → Int32) (c : Nat) (hc : c ≤ 64) (gl gh li hn fl : Bool) (lo hi : Int32) (x : Int32) : Met l yX3_isIn wsX3_isIn ({ frames := 0, cells := 0, slots := 0, locals := 0 } : Room) (pcW D [(cy, .int)] [.ref aM, .int x] [(aM, .inr (3, [.ref aA, .ref aB, .int (nI c), .int (bI gl), .int (bI gh), .int (bI li), .int (bI hn), .int (bI fl), .int lo, .int hi])), (aA, .inl (cy, 64, .inl k)), (aB, .inl (cy, 64, .inl v))]) (qR (.int (bI (iM gl lo li gh hi hn x)))) 0 0 (fun _ => False) := by
  refine met_W (cc := cX3_isIn) (maxL := 2) (ret := (some .boolean)) (by decide +kernel) rfl (Nat.le_of_ble_eq_true rfl) ?_
  intro pM eM s mM below meth cM ls hx hb hr hts hown hlocks hml hnm hK hP hl
  have hown : s.vm.findClass RX3 = some mM.cls := hown
  have hl : lv_has ls 2 [(0, .ref aM), (1, .int x)] := hl
  have hin_X3 : ∀ w ∈ wsX30, w ∈ wsX3_isIn := by decide +kernel
  have kf_52 := hts (.fieldLink RX3 52 "OrderedDeskModel" "hasLow" "Z") (by decide +kernel)
  have kf_56 := hts (.fieldLink RX3 56 "OrderedDeskModel" "hasHigh" "Z") (by decide +kernel)
  have kf_72 := hts (.fieldLink RX3 72 "OrderedDeskModel" "low" "I") (by decide +kernel)
  have kf_75 := hts (.fieldLink RX3 75 "OrderedDeskModel" "lowIn" "Z") (by decide +kernel)
  have kf_78 := hts (.fieldLink RX3 78 "OrderedDeskModel" "high" "I") (by decide +kernel)
  have kf_81 := hts (.fieldLink RX3 81 "OrderedDeskModel" "highIn" "Z") (by decide +kernel)
  have hP : va_P D vwCl [(aM, .inr (3, [.ref aA, .ref aB, .int (nI c), .int (bI gl), .int (bI gh), .int (bI li), .int (bI hn), .int (bI fl), .int lo, .int hi])), (aA, .inl (cy, 64, .inl k)), (aB, .inl (cy, 64, .inl v))] s.heap := hP
  refine lv_aload_n hx hb dX3_isIn_0 rfl (lv_at hl 0 rfl) ?_
  refine va_get (ci := 3) (v := .int (bI gl)) (C := RX3) (T := TX3) (N := 10) hx hb hts hin_X3 hown hK hP 0 rfl rfl 3 (by decide) kf_52 (fun _ h9 => h9) rfl dX3_isIn_1 ?_
  refine b_eq (tgt := 30) hx hb dX3_isIn_4 (by decide) (fun a1 => ?_) (fun a1 => ?_)
  · have hlw : (!gl || decide (lo < x) || (decide (x = lo) && li)) = true := by rw [a1]; rfl
    refine lv_aload_n hx hb dX3_isIn_30 rfl (lv_at hl 0 rfl) ?_
    refine va_get (ci := 3) (v := .int (bI gh)) (C := RX3) (T := TX3) (N := 10) hx hb hts hin_X3 hown hK hP 0 rfl rfl 4 (by decide) kf_56 (fun _ h9 => h9) rfl dX3_isIn_31 ?_
    refine b_eq (tgt := 60) hx hb dX3_isIn_34 (by decide) (fun b1 => ?_) (fun b1 => ?_)
    · have hz : iM gl lo li gh hi hn x = true := by unfold iM; rw [hlw, b1]; rfl
      refine lv_iconst (v := bI true) hx hb dX3_isIn_60 (by decide) ?_
      refine lv_goto (tgt := 65) hx hb dX3_isIn_61 (by decide) ?_
      exact ret_z hx hb hr hlocks dX3_isIn_65 (by rw [hz])
    · refine lv_iload_n hx hb dX3_isIn_37 rfl (lv_at hl 1 rfl) ?_
      refine lv_aload_n hx hb dX3_isIn_38 rfl (lv_at hl 0 rfl) ?_
      refine va_get (ci := 3) (v := .int hi) (C := RX3) (T := TX3) (N := 10) hx hb hts hin_X3 hown hK hP 0 rfl rfl 9 (by decide) kf_78 (fun _ h9 => h9) rfl dX3_isIn_39 ?_
      refine lv_icmp_lt (tgt := 60) hx hb dX3_isIn_42 (by decide) (fun b2 => ?_) (fun b2 => ?_)
      · have hz : iM gl lo li gh hi hn x = true := by unfold iM; rw [hlw]; simp [b2]
        refine lv_iconst (v := bI true) hx hb dX3_isIn_60 (by decide) ?_
        refine lv_goto (tgt := 65) hx hb dX3_isIn_61 (by decide) ?_
        exact ret_z hx hb hr hlocks dX3_isIn_65 (by rw [hz])
      · refine lv_iload_n hx hb dX3_isIn_45 rfl (lv_at hl 1 rfl) ?_
        refine lv_aload_n hx hb dX3_isIn_46 rfl (lv_at hl 0 rfl) ?_
        refine va_get (ci := 3) (v := .int hi) (C := RX3) (T := TX3) (N := 10) hx hb hts hin_X3 hown hK hP 0 rfl rfl 9 (by decide) kf_78 (fun _ h9 => h9) rfl dX3_isIn_47 ?_
        refine lv_icmp_ne (tgt := 64) hx hb dX3_isIn_50 (by decide) (fun b3 => ?_) (fun b3 => ?_)
        · have hz : iM gl lo li gh hi hn x = false := by unfold iM; rw [hlw]; simp [b1, b2, b3]; first | exact Int32.not_lt.mp b2 | skip
          refine lv_iconst (v := bI false) hx hb dX3_isIn_64 (by decide) ?_
          exact ret_z hx hb hr hlocks dX3_isIn_65 (by rw [hz])
        · refine lv_aload_n hx hb dX3_isIn_53 rfl (lv_at hl 0 rfl) ?_
          refine va_get (ci := 3) (v := .int (bI hn)) (C := RX3) (T := TX3) (N := 10) hx hb hts hin_X3 hown hK hP 0 rfl rfl 6 (by decide) kf_81 (fun _ h9 => h9) rfl dX3_isIn_54 ?_
          refine b_eq (tgt := 64) hx hb dX3_isIn_57 (by decide) (fun b4 => ?_) (fun b4 => ?_)
          · have hz : iM gl lo li gh hi hn x = false := by unfold iM; rw [hlw]; simp [b1, b2, b4]; first | exact Int32.not_lt.mp b2 | skip
            refine lv_iconst (v := bI false) hx hb dX3_isIn_64 (by decide) ?_
            exact ret_z hx hb hr hlocks dX3_isIn_65 (by rw [hz])
          · have hz : iM gl lo li gh hi hn x = true := by unfold iM; rw [hlw]; simp [b3, b4]
            refine lv_iconst (v := bI true) hx hb dX3_isIn_60 (by decide) ?_
            refine lv_goto (tgt := 65) hx hb dX3_isIn_61 (by decide) ?_
            exact ret_z hx hb hr hlocks dX3_isIn_65 (by rw [hz])
  · refine lv_iload_n hx hb dX3_isIn_7 rfl (lv_at hl 1 rfl) ?_
    refine lv_aload_n hx hb dX3_isIn_8 rfl (lv_at hl 0 rfl) ?_
    refine va_get (ci := 3) (v := .int lo) (C := RX3) (T := TX3) (N := 10) hx hb hts hin_X3 hown hK hP 0 rfl rfl 8 (by decide) kf_72 (fun _ h9 => h9) rfl dX3_isIn_9 ?_
    refine lv_icmp_gt (tgt := 30) hx hb dX3_isIn_12 (by decide) (fun a2 => ?_) (fun a2 => ?_)
    · have hlw : (!gl || decide (lo < x) || (decide (x = lo) && li)) = true := by simp [a2]
      refine lv_aload_n hx hb dX3_isIn_30 rfl (lv_at hl 0 rfl) ?_
      refine va_get (ci := 3) (v := .int (bI gh)) (C := RX3) (T := TX3) (N := 10) hx hb hts hin_X3 hown hK hP 0 rfl rfl 4 (by decide) kf_56 (fun _ h9 => h9) rfl dX3_isIn_31 ?_
      refine b_eq (tgt := 60) hx hb dX3_isIn_34 (by decide) (fun b1 => ?_) (fun b1 => ?_)
      · have hz : iM gl lo li gh hi hn x = true := by unfold iM; rw [hlw, b1]; rfl
        refine lv_iconst (v := bI true) hx hb dX3_isIn_60 (by decide) ?_
        refine lv_goto (tgt := 65) hx hb dX3_isIn_61 (by decide) ?_
        exact ret_z hx hb hr hlocks dX3_isIn_65 (by rw [hz])
      · refine lv_iload_n hx hb dX3_isIn_37 rfl (lv_at hl 1 rfl) ?_
        refine lv_aload_n hx hb dX3_isIn_38 rfl (lv_at hl 0 rfl) ?_
        refine va_get (ci := 3) (v := .int hi) (C := RX3) (T := TX3) (N := 10) hx hb hts hin_X3 hown hK hP 0 rfl rfl 9 (by decide) kf_78 (fun _ h9 => h9) rfl dX3_isIn_39 ?_
        refine lv_icmp_lt (tgt := 60) hx hb dX3_isIn_42 (by decide) (fun b2 => ?_) (fun b2 => ?_)
        · have hz : iM gl lo li gh hi hn x = true := by unfold iM; rw [hlw]; simp [b2]
          refine lv_iconst (v := bI true) hx hb dX3_isIn_60 (by decide) ?_
          refine lv_goto (tgt := 65) hx hb dX3_isIn_61 (by decide) ?_
          exact ret_z hx hb hr hlocks dX3_isIn_65 (by rw [hz])
        · refine lv_iload_n hx hb dX3_isIn_45 rfl (lv_at hl 1 rfl) ?_
          refine lv_aload_n hx hb dX3_isIn_46 rfl (lv_at hl 0 rfl) ?_
          refine va_get (ci := 3) (v := .int hi) (C := RX3) (T := TX3) (N := 10) hx hb hts hin_X3 hown hK hP 0 rfl rfl 9 (by decide) kf_78 (fun _ h9 => h9) rfl dX3_isIn_47 ?_
          refine lv_icmp_ne (tgt := 64) hx hb dX3_isIn_50 (by decide) (fun b3 => ?_) (fun b3 => ?_)
          · have hz : iM gl lo li gh hi hn x = false := by unfold iM; rw [hlw]; simp [b1, b2, b3]; first | exact Int32.not_lt.mp b2 | skip
            refine lv_iconst (v := bI false) hx hb dX3_isIn_64 (by decide) ?_
            exact ret_z hx hb hr hlocks dX3_isIn_65 (by rw [hz])
          · refine lv_aload_n hx hb dX3_isIn_53 rfl (lv_at hl 0 rfl) ?_
            refine va_get (ci := 3) (v := .int (bI hn)) (C := RX3) (T := TX3) (N := 10) hx hb hts hin_X3 hown hK hP 0 rfl rfl 6 (by decide) kf_81 (fun _ h9 => h9) rfl dX3_isIn_54 ?_
            refine b_eq (tgt := 64) hx hb dX3_isIn_57 (by decide) (fun b4 => ?_) (fun b4 => ?_)
            · have hz : iM gl lo li gh hi hn x = false := by unfold iM; rw [hlw]; simp [b1, b2, b4]; first | exact Int32.not_lt.mp b2 | skip
              refine lv_iconst (v := bI false) hx hb dX3_isIn_64 (by decide) ?_
              exact ret_z hx hb hr hlocks dX3_isIn_65 (by rw [hz])
            · have hz : iM gl lo li gh hi hn x = true := by unfold iM; rw [hlw]; simp [b3, b4]
              refine lv_iconst (v := bI true) hx hb dX3_isIn_60 (by decide) ?_
              refine lv_goto (tgt := 65) hx hb dX3_isIn_61 (by decide) ?_
              exact ret_z hx hb hr hlocks dX3_isIn_65 (by rw [hz])
    · refine lv_iload_n hx hb dX3_isIn_15 rfl (lv_at hl 1 rfl) ?_
      refine lv_aload_n hx hb dX3_isIn_16 rfl (lv_at hl 0 rfl) ?_
      refine va_get (ci := 3) (v := .int lo) (C := RX3) (T := TX3) (N := 10) hx hb hts hin_X3 hown hK hP 0 rfl rfl 8 (by decide) kf_72 (fun _ h9 => h9) rfl dX3_isIn_17 ?_
      refine lv_icmp_ne (tgt := 64) hx hb dX3_isIn_20 (by decide) (fun a3 => ?_) (fun a3 => ?_)
      · have hlw : (!gl || decide (lo < x) || (decide (x = lo) && li)) = false := by simp [a1, a2, a3]; first | exact Int32.not_lt.mp a2 | skip
        have hz : iM gl lo li gh hi hn x = false := by unfold iM; rw [hlw]; rfl
        refine lv_iconst (v := bI false) hx hb dX3_isIn_64 (by decide) ?_
        exact ret_z hx hb hr hlocks dX3_isIn_65 (by rw [hz])
      · refine lv_aload_n hx hb dX3_isIn_23 rfl (lv_at hl 0 rfl) ?_
        refine va_get (ci := 3) (v := .int (bI li)) (C := RX3) (T := TX3) (N := 10) hx hb hts hin_X3 hown hK hP 0 rfl rfl 5 (by decide) kf_75 (fun _ h9 => h9) rfl dX3_isIn_24 ?_
        refine b_eq (tgt := 64) hx hb dX3_isIn_27 (by decide) (fun a4 => ?_) (fun a4 => ?_)
        · have hlw : (!gl || decide (lo < x) || (decide (x = lo) && li)) = false := by simp [a1, a2, a4]; first | exact Int32.not_lt.mp a2 | skip
          have hz : iM gl lo li gh hi hn x = false := by unfold iM; rw [hlw]; rfl
          refine lv_iconst (v := bI false) hx hb dX3_isIn_64 (by decide) ?_
          exact ret_z hx hb hr hlocks dX3_isIn_65 (by rw [hz])
        · have hlw : (!gl || decide (lo < x) || (decide (x = lo) && li)) = true := by simp [a3, a4]
          refine lv_aload_n hx hb dX3_isIn_30 rfl (lv_at hl 0 rfl) ?_
          refine va_get (ci := 3) (v := .int (bI gh)) (C := RX3) (T := TX3) (N := 10) hx hb hts hin_X3 hown hK hP 0 rfl rfl 4 (by decide) kf_56 (fun _ h9 => h9) rfl dX3_isIn_31 ?_
          refine b_eq (tgt := 60) hx hb dX3_isIn_34 (by decide) (fun b1 => ?_) (fun b1 => ?_)
          · have hz : iM gl lo li gh hi hn x = true := by unfold iM; rw [hlw, b1]; rfl
            refine lv_iconst (v := bI true) hx hb dX3_isIn_60 (by decide) ?_
            refine lv_goto (tgt := 65) hx hb dX3_isIn_61 (by decide) ?_
            exact ret_z hx hb hr hlocks dX3_isIn_65 (by rw [hz])
          · refine lv_iload_n hx hb dX3_isIn_37 rfl (lv_at hl 1 rfl) ?_
            refine lv_aload_n hx hb dX3_isIn_38 rfl (lv_at hl 0 rfl) ?_
            refine va_get (ci := 3) (v := .int hi) (C := RX3) (T := TX3) (N := 10) hx hb hts hin_X3 hown hK hP 0 rfl rfl 9 (by decide) kf_78 (fun _ h9 => h9) rfl dX3_isIn_39 ?_
            refine lv_icmp_lt (tgt := 60) hx hb dX3_isIn_42 (by decide) (fun b2 => ?_) (fun b2 => ?_)
            · have hz : iM gl lo li gh hi hn x = true := by unfold iM; rw [hlw]; simp [b2]
              refine lv_iconst (v := bI true) hx hb dX3_isIn_60 (by decide) ?_
              refine lv_goto (tgt := 65) hx hb dX3_isIn_61 (by decide) ?_
              exact ret_z hx hb hr hlocks dX3_isIn_65 (by rw [hz])
            · refine lv_iload_n hx hb dX3_isIn_45 rfl (lv_at hl 1 rfl) ?_
              refine lv_aload_n hx hb dX3_isIn_46 rfl (lv_at hl 0 rfl) ?_
              refine va_get (ci := 3) (v := .int hi) (C := RX3) (T := TX3) (N := 10) hx hb hts hin_X3 hown hK hP 0 rfl rfl 9 (by decide) kf_78 (fun _ h9 => h9) rfl dX3_isIn_47 ?_
              refine lv_icmp_ne (tgt := 64) hx hb dX3_isIn_50 (by decide) (fun b3 => ?_) (fun b3 => ?_)
              · have hz : iM gl lo li gh hi hn x = false := by unfold iM; rw [hlw]; simp [b1, b2, b3]; first | exact Int32.not_lt.mp b2 | skip
                refine lv_iconst (v := bI false) hx hb dX3_isIn_64 (by decide) ?_
                exact ret_z hx hb hr hlocks dX3_isIn_65 (by rw [hz])
              · refine lv_aload_n hx hb dX3_isIn_53 rfl (lv_at hl 0 rfl) ?_
                refine va_get (ci := 3) (v := .int (bI hn)) (C := RX3) (T := TX3) (N := 10) hx hb hts hin_X3 hown hK hP 0 rfl rfl 6 (by decide) kf_81 (fun _ h9 => h9) rfl dX3_isIn_54 ?_
                refine b_eq (tgt := 64) hx hb dX3_isIn_57 (by decide) (fun b4 => ?_) (fun b4 => ?_)
                · have hz : iM gl lo li gh hi hn x = false := by unfold iM; rw [hlw]; simp [b1, b2, b4]; first | exact Int32.not_lt.mp b2 | skip
                  refine lv_iconst (v := bI false) hx hb dX3_isIn_64 (by decide) ?_
                  exact ret_z hx hb hr hlocks dX3_isIn_65 (by rw [hz])
                · have hz : iM gl lo li gh hi hn x = true := by unfold iM; rw [hlw]; simp [b3, b4]
                  refine lv_iconst (v := bI true) hx hb dX3_isIn_60 (by decide) ?_
                  refine lv_goto (tgt := 65) hx hb dX3_isIn_61 (by decide) ?_
                  exact ret_z hx hb hr hlocks dX3_isIn_65 (by rw [hz])

set_option maxHeartbeats 4000000 in
set_option maxRecDepth 100000 in
/-- mayEnd(k, in) -/
theorem c_X3_mayEnd (l : Launch) (D : va_G) (cy : ClassId) (aM aA aB : Nat) (k v : Nat → Int32) (c : Nat) (hc : c ≤ 64) (gl gh li hn fl : Bool) (lo hi : Int32) (x : Int32) (i : Bool) : Met l yX3_mayEnd wsX3_mayEnd ({ frames := 1, cells := 0, slots := 0, locals := 21 } : Room) (pcW D [(cy, .int)] [.ref aM, .int x, .int (bI i)] [(aM, .inr (3, [.ref aA, .ref aB, .int (nI c), .int (bI gl), .int (bI gh), .int (bI li), .int (bI hn), .int (bI fl), .int lo, .int hi])), (aA, .inl (cy, 64, .inl k)), (aB, .inl (cy, 64, .inl v))]) (qR (.int (bI (mayM gl lo li gh hi hn x i)))) 0 0 (fun _ => False) := by
  refine met_W (cc := cX3_mayEnd) (maxL := 3) (ret := (some .boolean)) (by decide +kernel) rfl (Nat.le_of_ble_eq_true rfl) ?_
  intro pM eM s mM below meth cM ls hx hb hr hts hown hlocks hml hnm hK hP hl
  have hown : s.vm.findClass RX3 = some mM.cls := hown
  have hl : lv_has ls 3 [(0, .ref aM), (1, .int x), (2, .int (bI i))] := hl
  have hin_X3 : ∀ w ∈ wsX30, w ∈ wsX3_mayEnd := by decide +kernel
  have kf_52 := hts (.fieldLink RX3 52 "OrderedDeskModel" "hasLow" "Z") (by decide +kernel)
  have kf_56 := hts (.fieldLink RX3 56 "OrderedDeskModel" "hasHigh" "Z") (by decide +kernel)
  have kf_72 := hts (.fieldLink RX3 72 "OrderedDeskModel" "low" "I") (by decide +kernel)
  have kf_78 := hts (.fieldLink RX3 78 "OrderedDeskModel" "high" "I") (by decide +kernel)
  have hP : va_P D vwCl [(aM, .inr (3, [.ref aA, .ref aB, .int (nI c), .int (bI gl), .int (bI gh), .int (bI li), .int (bI hn), .int (bI fl), .int lo, .int hi])), (aA, .inl (cy, 64, .inl k)), (aB, .inl (cy, 64, .inl v))] s.heap := hP
  refine lv_iload_n hx hb dX3_mayEnd_0 rfl (lv_at hl 2 rfl) ?_
  refine b_eq (tgt := 12) hx hb dX3_mayEnd_1 (by decide) (fun h1 => ?_) (fun h1 => ?_)
  · have hz0 : mayM gl lo li gh hi hn x i = ((!gl || decide (lo ≤ x)) && (!gh || decide (x ≤ hi))) := if_neg (by rw [h1]; decide)
    refine lv_aload_n hx hb dX3_mayEnd_12 rfl (lv_at hl 0 rfl) ?_
    refine va_get (ci := 3) (v := .int (bI gl)) (C := RX3) (T := TX3) (N := 10) hx hb hts hin_X3 hown hK hP 0 rfl rfl 3 (by decide) kf_52 (fun _ h9 => h9) rfl dX3_mayEnd_13 ?_
    refine b_eq (tgt := 27) hx hb dX3_mayEnd_16 (by decide) (fun a1 => ?_) (fun a1 => ?_)
    · have hlw : (!gl || decide (lo ≤ x)) = true := by rw [a1]; rfl
      refine lv_aload_n hx hb dX3_mayEnd_27 rfl (lv_at hl 0 rfl) ?_
      refine va_get (ci := 3) (v := .int (bI gh)) (C := RX3) (T := TX3) (N := 10) hx hb hts hin_X3 hown hK hP 0 rfl rfl 4 (by decide) kf_56 (fun _ h9 => h9) rfl dX3_mayEnd_28 ?_
      refine b_eq (tgt := 42) hx hb dX3_mayEnd_31 (by decide) (fun b1 => ?_) (fun b1 => ?_)
      · have hz : mayM gl lo li gh hi hn x i = true := by rw [hz0, hlw, b1]; rfl
        refine lv_iconst (v := bI true) hx hb dX3_mayEnd_42 (by decide) ?_
        refine lv_goto (tgt := 47) hx hb dX3_mayEnd_43 (by decide) ?_
        exact ret_z hx hb hr hlocks dX3_mayEnd_47 (by rw [hz])
      · refine lv_iload_n hx hb dX3_mayEnd_34 rfl (lv_at hl 1 rfl) ?_
        refine lv_aload_n hx hb dX3_mayEnd_35 rfl (lv_at hl 0 rfl) ?_
        refine va_get (ci := 3) (v := .int hi) (C := RX3) (T := TX3) (N := 10) hx hb hts hin_X3 hown hK hP 0 rfl rfl 9 (by decide) kf_78 (fun _ h9 => h9) rfl dX3_mayEnd_36 ?_
        refine lv_icmp_gt (tgt := 46) hx hb dX3_mayEnd_39 (by decide) (fun b2 => ?_) (fun b2 => ?_)
        · have hz : mayM gl lo li gh hi hn x i = false := by rw [hz0, hlw]; simp [b1, Int32.not_le.mpr b2]
          refine lv_iconst (v := bI false) hx hb dX3_mayEnd_46 (by decide) ?_
          exact ret_z hx hb hr hlocks dX3_mayEnd_47 (by rw [hz])
        · have hz : mayM gl lo li gh hi hn x i = true := by rw [hz0, hlw]; simp [Int32.not_lt.mp b2]
          refine lv_iconst (v := bI true) hx hb dX3_mayEnd_42 (by decide) ?_
          refine lv_goto (tgt := 47) hx hb dX3_mayEnd_43 (by decide) ?_
          exact ret_z hx hb hr hlocks dX3_mayEnd_47 (by rw [hz])
    · refine lv_iload_n hx hb dX3_mayEnd_19 rfl (lv_at hl 1 rfl) ?_
      refine lv_aload_n hx hb dX3_mayEnd_20 rfl (lv_at hl 0 rfl) ?_
      refine va_get (ci := 3) (v := .int lo) (C := RX3) (T := TX3) (N := 10) hx hb hts hin_X3 hown hK hP 0 rfl rfl 8 (by decide) kf_72 (fun _ h9 => h9) rfl dX3_mayEnd_21 ?_
      refine lv_icmp_lt (tgt := 46) hx hb dX3_mayEnd_24 (by decide) (fun a2 => ?_) (fun a2 => ?_)
      · have hz : mayM gl lo li gh hi hn x i = false := by rw [hz0]; simp [a1, Int32.not_le.mpr a2]
        refine lv_iconst (v := bI false) hx hb dX3_mayEnd_46 (by decide) ?_
        exact ret_z hx hb hr hlocks dX3_mayEnd_47 (by rw [hz])
      · have hlw : (!gl || decide (lo ≤ x)) = true := by simp [Int32.not_lt.mp a2]
        refine lv_aload_n hx hb dX3_mayEnd_27 rfl (lv_at hl 0 rfl) ?_
        refine va_get (ci := 3) (v := .int (bI gh)) (C := RX3) (T := TX3) (N := 10) hx hb hts hin_X3 hown hK hP 0 rfl rfl 4 (by decide) kf_56 (fun _ h9 => h9) rfl dX3_mayEnd_28 ?_
        refine b_eq (tgt := 42) hx hb dX3_mayEnd_31 (by decide) (fun b1 => ?_) (fun b1 => ?_)
        · have hz : mayM gl lo li gh hi hn x i = true := by rw [hz0, hlw, b1]; rfl
          refine lv_iconst (v := bI true) hx hb dX3_mayEnd_42 (by decide) ?_
          refine lv_goto (tgt := 47) hx hb dX3_mayEnd_43 (by decide) ?_
          exact ret_z hx hb hr hlocks dX3_mayEnd_47 (by rw [hz])
        · refine lv_iload_n hx hb dX3_mayEnd_34 rfl (lv_at hl 1 rfl) ?_
          refine lv_aload_n hx hb dX3_mayEnd_35 rfl (lv_at hl 0 rfl) ?_
          refine va_get (ci := 3) (v := .int hi) (C := RX3) (T := TX3) (N := 10) hx hb hts hin_X3 hown hK hP 0 rfl rfl 9 (by decide) kf_78 (fun _ h9 => h9) rfl dX3_mayEnd_36 ?_
          refine lv_icmp_gt (tgt := 46) hx hb dX3_mayEnd_39 (by decide) (fun b2 => ?_) (fun b2 => ?_)
          · have hz : mayM gl lo li gh hi hn x i = false := by rw [hz0, hlw]; simp [b1, Int32.not_le.mpr b2]
            refine lv_iconst (v := bI false) hx hb dX3_mayEnd_46 (by decide) ?_
            exact ret_z hx hb hr hlocks dX3_mayEnd_47 (by rw [hz])
          · have hz : mayM gl lo li gh hi hn x i = true := by rw [hz0, hlw]; simp [Int32.not_lt.mp b2]
            refine lv_iconst (v := bI true) hx hb dX3_mayEnd_42 (by decide) ?_
            refine lv_goto (tgt := 47) hx hb dX3_mayEnd_43 (by decide) ?_
            exact ret_z hx hb hr hlocks dX3_mayEnd_47 (by rw [hz])
  · have hz : mayM gl lo li gh hi hn x i = iM gl lo li gh hi hn x := if_pos h1
    refine lv_aload_n hx hb dX3_mayEnd_4 rfl (lv_at hl 0 rfl) ?_
    refine lv_iload_n hx hb dX3_mayEnd_5 rfl (lv_at hl 1 rfl) ?_
    refine go_R (va_runV (As := [.int x]) (rest := []) ⟨hx, hb, hml, hown, hts⟩ (c_X3_isIn l D cy aM aA aB k v c (by omega) gl gh li hn fl lo hi x) (cwV 1 hts gX3_mayEnd_X3_isIn rfl rfl rfl (by decide +kernel) ⟨(Nat.le_of_ble_eq_true rfl), (Nat.le_of_ble_eq_true rfl)⟩) (preV_W hK (hP.sub [0, 1, 2] rfl) 0 3 rfl rfl) rfl rfl hl.1 rfl (lv_room (Nat.le_of_ble_eq_true rfl)) dX3_mayEnd_6 ⟨(Nat.le_of_ble_eq_true rfl), (Nat.le_of_ble_eq_true rfl)⟩) ?_
    refine lv_goto (tgt := 47) hx hb dX3_mayEnd_9 (by decide) ?_
    exact ret_z hx hb hr hlocks dX3_mayEnd_47 (by rw [hz])

set_option maxHeartbeats 4000000 in
set_option maxRecDepth 100000 in
/-- first() -/
theorem c_X3_first (l : Launch) (D : va_G) (cy : ClassId) (aM aA aB : Nat) (k v : Nat → Int32) (c : Nat) (hc : c ≤ 64) (gl gh li hn fl : Bool) (lo hi : Int32) : Met l yX3_first wsX3_first ({ frames := 1, cells := 0, slots := 0, locals := 21 } : Room) (pcW D [(cy, .int)] [.ref aM] [(aM, .inr (3, [.ref aA, .ref aB, .int (nI c), .int (bI gl), .int (bI gh), .int (bI li), .int (bI hn), .int (bI fl), .int lo, .int hi])), (aA, .inl (cy, 64, .inl k)), (aB, .inl (cy, 64, .inl v))]) (qR (.int (nI (mF k c gl lo li gh hi hn)))) 0 0 (fun _ => False) := by
  refine met_W (cc := cX3_first) (maxL := 2) (ret := (some .int)) (by decide +kernel) rfl (Nat.le_of_ble_eq_true rfl) ?_
  intro pM eM s mM below meth cM ls hx hb hr hts hown hlocks hml hnm hK hP hl
  have hown : s.vm.findClass RX3 = some mM.cls := hown
  have hl : lv_has ls 2 [(0, .ref aM)] := hl
  have hin_X3 : ∀ w ∈ wsX30, w ∈ wsX3_first := by decide +kernel
  have kf_16 := hts (.fieldLink RX3 16 "OrderedDeskModel" "many" "I") (by decide +kernel)
  have kf_56 := hts (.fieldLink RX3 56 "OrderedDeskModel" "hasHigh" "Z") (by decide +kernel)
  have kf_78 := hts (.fieldLink RX3 78 "OrderedDeskModel" "high" "I") (by decide +kernel)
  have kf_9 := hts (.fieldLink RX3 9 "OrderedDeskModel" "key" "[I") (by decide +kernel)
  have hP : va_P D vwCl [(aM, .inr (3, [.ref aA, .ref aB, .int (nI c), .int (bI gl), .int (bI gh), .int (bI li), .int (bI hn), .int (bI fl), .int lo, .int hi])), (aA, .inl (cy, 64, .inl k)), (aB, .inl (cy, 64, .inl v))] s.heap := hP
  refine lv_iconst (v := nI 0) hx hb dX3_first_0 (by decide) ?_
  refine lv_istore_n (lv' := [(1, .int (nI 0)), (0, .ref aM)]) hx hb dX3_first_1 rfl hl (by decide) rfl (fun ls hl => ?_)
  refine W_loopR (I := fun (i : Nat) (ls : Array Slot) => lv_has ls 2 [(0, .ref aM), (1, .int (nI i))] ∧ i ≤ c ∧ mF k c gl lo li gh hi hn = pf (fun j => !iM gl lo li gh hi hn (k j) && !(gh && decide (hi < k j))) (c - i) i) (μ := fun i => c - i) (fun i ls h ih => ?_) 0 ⟨lv_sub hl [1, 0] rfl, Nat.zero_le _, rfl⟩
  obtain ⟨hl, hi1, hv⟩ := h
  refine lv_iload_n hx hb dX3_first_2 rfl (lv_at hl 1 rfl) ?_
  refine lv_aload_n hx hb dX3_first_3 rfl (lv_at hl 0 rfl) ?_
  refine va_get (ci := 3) (v := .int (nI c)) (C := RX3) (T := TX3) (N := 10) hx hb hts hin_X3 hown hK hP 0 rfl rfl 2 (by decide) kf_16 (fun _ h9 => h9) rfl dX3_first_4 ?_
  refine n_ge (tgt := 49) (by omega) (by omega) hx hb dX3_first_7 (by decide) (fun h7 => ?_) (fun h7 => ?_)
  · have hv2 : mF k c gl lo li gh hi hn = i := by rw [hv, pf_e h7]
    refine lv_iload_n hx hb dX3_first_49 rfl (lv_at hl 1 rfl) ?_
    exact ret_i hx hb hr hlocks dX3_first_50 (by rw [hv2])
  · refine lv_aload_n hx hb dX3_first_10 rfl (lv_at hl 0 rfl) ?_
    refine lv_aload_n hx hb dX3_first_11 rfl (lv_at hl 0 rfl) ?_
    refine va_get (ci := 3) (v := .ref aA) (C := RX3) (T := TX3) (N := 10) hx hb hts hin_X3 hown hK hP 0 rfl rfl 0 (by decide) kf_9 (fun _ h9 => h9) rfl dX3_first_12 ?_
    refine lv_iload_n hx hb dX3_first_15 rfl (lv_at hl 1 rfl) ?_
    refine a_ld hx hb hK hP 1 0 rfl rfl (by omega) (by decide) dX3_first_16 ?_
    refine go_R (va_runV (As := [.int (k i)]) (rest := []) ⟨hx, hb, hml, hown, hts⟩ (c_X3_isIn l D cy aM aA aB k v c (by omega) gl gh li hn fl lo hi (k i)) (cwV 1 hts gX3_first_X3_isIn rfl rfl rfl (by decide +kernel) ⟨(Nat.le_of_ble_eq_true rfl), (Nat.le_of_ble_eq_true rfl)⟩) (preV_W hK (hP.sub [0, 1, 2] rfl) 0 3 rfl rfl) rfl rfl hl.1 rfl (lv_room (Nat.le_of_ble_eq_true rfl)) dX3_first_17 ⟨(Nat.le_of_ble_eq_true rfl), (Nat.le_of_ble_eq_true rfl)⟩) ?_
    refine b_ne (tgt := 49) hx hb dX3_first_20 (by decide) (fun h20 => ?_) (fun h20 => ?_)
    · have hv2 : mF k c gl lo li gh hi hn = i := by rw [hv, pf_f (by simp [h20])]
      refine lv_iload_n hx hb dX3_first_49 rfl (lv_at hl 1 rfl) ?_
      exact ret_i hx hb hr hlocks dX3_first_50 (by rw [hv2])
    · refine lv_aload_n hx hb dX3_first_23 rfl (lv_at hl 0 rfl) ?_
      refine va_get (ci := 3) (v := .int (bI gh)) (C := RX3) (T := TX3) (N := 10) hx hb hts hin_X3 hown hK hP 0 rfl rfl 4 (by decide) kf_56 (fun _ h9 => h9) rfl dX3_first_24 ?_
      refine b_eq (tgt := 43) hx hb dX3_first_27 (by decide) (fun h27 => ?_) (fun h27 => ?_)
      · refine lv_iinc (v := nI (i + 1)) (lv' := [(1, .int (nI (i + 1))), (0, .ref aM)]) hx hb dX3_first_43 hl (k := 1) rfl (by first | exact nI_1 _ | exact nI_add _ _) (by decide) rfl (fun ls hl => ?_)
        refine lv_goto (tgt := 2) hx hb dX3_first_46 (by decide) ?_
        exact ih (i + 1) _ (by omega) ⟨lv_sub hl [1, 0] rfl, by omega, by rw [hv, pf_t h7 (by show (!iM gl lo li gh hi hn (k i) && !(gh && decide (hi < k i))) = true; rw [h20]; first | (rw [h27]; rfl) | (rw [decide_eq_false h40, Bool.and_false]; rfl))]⟩
      · refine lv_aload_n hx hb dX3_first_30 rfl (lv_at hl 0 rfl) ?_
        refine va_get (ci := 3) (v := .ref aA) (C := RX3) (T := TX3) (N := 10) hx hb hts hin_X3 hown hK hP 0 rfl rfl 0 (by decide) kf_9 (fun _ h9 => h9) rfl dX3_first_31 ?_
        refine lv_iload_n hx hb dX3_first_34 rfl (lv_at hl 1 rfl) ?_
        refine a_ld hx hb hK hP 1 0 rfl rfl (by omega) (by decide) dX3_first_35 ?_
        refine lv_aload_n hx hb dX3_first_36 rfl (lv_at hl 0 rfl) ?_
        refine va_get (ci := 3) (v := .int hi) (C := RX3) (T := TX3) (N := 10) hx hb hts hin_X3 hown hK hP 0 rfl rfl 9 (by decide) kf_78 (fun _ h9 => h9) rfl dX3_first_37 ?_
        refine lv_icmp_gt (tgt := 49) hx hb dX3_first_40 (by decide) (fun h40 => ?_) (fun h40 => ?_)
        · have hv2 : mF k c gl lo li gh hi hn = i := by rw [hv, pf_f (by simp [h27, h40])]
          refine lv_iload_n hx hb dX3_first_49 rfl (lv_at hl 1 rfl) ?_
          exact ret_i hx hb hr hlocks dX3_first_50 (by rw [hv2])
        · refine lv_iinc (v := nI (i + 1)) (lv' := [(1, .int (nI (i + 1))), (0, .ref aM)]) hx hb dX3_first_43 hl (k := 1) rfl (by first | exact nI_1 _ | exact nI_add _ _) (by decide) rfl (fun ls hl => ?_)
          refine lv_goto (tgt := 2) hx hb dX3_first_46 (by decide) ?_
          exact ih (i + 1) _ (by omega) ⟨lv_sub hl [1, 0] rfl, by omega, by rw [hv, pf_t h7 (by show (!iM gl lo li gh hi hn (k i) && !(gh && decide (hi < k i))) = true; rw [h20]; first | (rw [h27]; rfl) | (rw [decide_eq_false h40, Bool.and_false]; rfl))]⟩

set_option maxHeartbeats 4000000 in
set_option maxRecDepth 100000 in
/-- behind() -/
theorem c_X3_behind (l : Launch) (D : va_G) (cy : ClassId) (aM aA aB : Nat) (k v : Nat → Int32) (c : Nat) (hc : c ≤ 64) (gl gh li hn fl : Bool) (lo hi : Int32) : Met l yX3_behind wsX3_behind ({ frames := 2, cells := 0, slots := 0, locals := 42 } : Room) (pcW D [(cy, .int)] [.ref aM] [(aM, .inr (3, [.ref aA, .ref aB, .int (nI c), .int (bI gl), .int (bI gh), .int (bI li), .int (bI hn), .int (bI fl), .int lo, .int hi])), (aA, .inl (cy, 64, .inl k)), (aB, .inl (cy, 64, .inl v))]) (qR (.int (nI (mE k c gl lo li gh hi hn)))) 0 0 (fun _ => False) := by
  refine met_W (cc := cX3_behind) (maxL := 2) (ret := (some .int)) (by decide +kernel) rfl (Nat.le_of_ble_eq_true rfl) ?_
  intro pM eM s mM below meth cM ls hx hb hr hts hown hlocks hml hnm hK hP hl
  have hown : s.vm.findClass RX3 = some mM.cls := hown
  have hl : lv_has ls 2 [(0, .ref aM)] := hl
  have hin_X3 : ∀ w ∈ wsX30, w ∈ wsX3_behind := by decide +kernel
  have kf_16 := hts (.fieldLink RX3 16 "OrderedDeskModel" "many" "I") (by decide +kernel)
  have kf_9 := hts (.fieldLink RX3 9 "OrderedDeskModel" "key" "[I") (by decide +kernel)
  have hP : va_P D vwCl [(aM, .inr (3, [.ref aA, .ref aB, .int (nI c), .int (bI gl), .int (bI gh), .int (bI li), .int (bI hn), .int (bI fl), .int lo, .int hi])), (aA, .inl (cy, 64, .inl k)), (aB, .inl (cy, 64, .inl v))] s.heap := hP
  have q1 := mF_le k c gl lo li gh hi hn
  have q2 := mE_le k c gl lo li gh hi hn
  have q3 := mFE k c gl lo li gh hi hn
  refine lv_aload_n hx hb dX3_behind_0 rfl (lv_at hl 0 rfl) ?_
  refine go_R (va_runV (As := []) (rest := []) ⟨hx, hb, hml, hown, hts⟩ (c_X3_first l D cy aM aA aB k v c (by omega) gl gh li hn fl lo hi) (cwV 0 hts gX3_behind_X3_first rfl rfl rfl (by decide +kernel) ⟨(Nat.le_of_ble_eq_true rfl), (Nat.le_of_ble_eq_true rfl)⟩) (preV_W hK (hP.sub [0, 1, 2] rfl) 0 3 rfl rfl) rfl rfl hl.1 rfl (lv_room (Nat.le_of_ble_eq_true rfl)) dX3_behind_1 ⟨(Nat.le_of_ble_eq_true rfl), (Nat.le_of_ble_eq_true rfl)⟩) ?_
  refine lv_istore_n (lv' := [(1, .int (nI (mF k c gl lo li gh hi hn))), (0, .ref aM)]) hx hb dX3_behind_4 rfl hl (by decide) rfl (fun ls hl => ?_)
  refine W_loopR (I := fun (i : Nat) (ls : Array Slot) => lv_has ls 2 [(0, .ref aM), (1, .int (nI i))] ∧ i ≤ c ∧ mE k c gl lo li gh hi hn = pf (fun j => iM gl lo li gh hi hn (k j)) (c - i) i) (μ := fun i => c - i) (fun i ls h ih => ?_) (mF k c gl lo li gh hi hn) ⟨lv_sub hl [1, 0] rfl, mF_le _ _ _ _ _ _ _ _, rfl⟩
  obtain ⟨hl, hi1, hv⟩ := h
  refine lv_iload_n hx hb dX3_behind_5 rfl (lv_at hl 1 rfl) ?_
  refine lv_aload_n hx hb dX3_behind_6 rfl (lv_at hl 0 rfl) ?_
  refine va_get (ci := 3) (v := .int (nI c)) (C := RX3) (T := TX3) (N := 10) hx hb hts hin_X3 hown hK hP 0 rfl rfl 2 (by decide) kf_16 (fun _ h9 => h9) rfl dX3_behind_7 ?_
  refine n_ge (tgt := 32) (by omega) (by omega) hx hb dX3_behind_10 (by decide) (fun h10 => ?_) (fun h10 => ?_)
  · have hv2 : mE k c gl lo li gh hi hn = i := by rw [hv, pf_e h10]
    refine lv_iload_n hx hb dX3_behind_32 rfl (lv_at hl 1 rfl) ?_
    exact ret_i hx hb hr hlocks dX3_behind_33 (by rw [hv2])
  · refine lv_aload_n hx hb dX3_behind_13 rfl (lv_at hl 0 rfl) ?_
    refine lv_aload_n hx hb dX3_behind_14 rfl (lv_at hl 0 rfl) ?_
    refine va_get (ci := 3) (v := .ref aA) (C := RX3) (T := TX3) (N := 10) hx hb hts hin_X3 hown hK hP 0 rfl rfl 0 (by decide) kf_9 (fun _ h9 => h9) rfl dX3_behind_15 ?_
    refine lv_iload_n hx hb dX3_behind_18 rfl (lv_at hl 1 rfl) ?_
    refine a_ld hx hb hK hP 1 0 rfl rfl (by omega) (by decide) dX3_behind_19 ?_
    refine go_R (va_runV (As := [.int (k i)]) (rest := []) ⟨hx, hb, hml, hown, hts⟩ (c_X3_isIn l D cy aM aA aB k v c (by omega) gl gh li hn fl lo hi (k i)) (cwV 1 hts gX3_behind_X3_isIn rfl rfl rfl (by decide +kernel) ⟨(Nat.le_of_ble_eq_true rfl), (Nat.le_of_ble_eq_true rfl)⟩) (preV_W hK (hP.sub [0, 1, 2] rfl) 0 3 rfl rfl) rfl rfl hl.1 rfl (lv_room (Nat.le_of_ble_eq_true rfl)) dX3_behind_20 ⟨(Nat.le_of_ble_eq_true rfl), (Nat.le_of_ble_eq_true rfl)⟩) ?_
    refine b_eq (tgt := 32) hx hb dX3_behind_23 (by decide) (fun h23 => ?_) (fun h23 => ?_)
    · have hv2 : mE k c gl lo li gh hi hn = i := by rw [hv, pf_f h23]
      refine lv_iload_n hx hb dX3_behind_32 rfl (lv_at hl 1 rfl) ?_
      exact ret_i hx hb hr hlocks dX3_behind_33 (by rw [hv2])
    · refine lv_iinc (v := nI (i + 1)) (lv' := [(1, .int (nI (i + 1))), (0, .ref aM)]) hx hb dX3_behind_26 hl (k := 1) rfl (by first | exact nI_1 _ | exact nI_add _ _) (by decide) rfl (fun ls hl => ?_)
      refine lv_goto (tgt := 5) hx hb dX3_behind_29 (by decide) ?_
      exact ih (i + 1) _ (by omega) ⟨lv_sub hl [1, 0] rfl, by omega, by rw [hv, pf_t h10 h23]⟩

set_option maxHeartbeats 4000000 in
set_option maxRecDepth 100000 in
/-- viewSize() -/
theorem c_X3_viewSize (l : Launch) (D : va_G) (cy : ClassId) (aM aA aB : Nat) (k v : Nat → Int32) (c : Nat) (hc : c ≤ 64) (gl gh li hn fl : Bool) (lo hi : Int32) : Met l yX3_viewSize wsX3_viewSize ({ frames := 3, cells := 0, slots := 0, locals := 63 } : Room) (pcW D [(cy, .int)] [.ref aM] [(aM, .inr (3, [.ref aA, .ref aB, .int (nI c), .int (bI gl), .int (bI gh), .int (bI li), .int (bI hn), .int (bI fl), .int lo, .int hi])), (aA, .inl (cy, 64, .inl k)), (aB, .inl (cy, 64, .inl v))]) (qR (.int (nI (mE k c gl lo li gh hi hn - mF k c gl lo li gh hi hn)))) 0 0 (fun _ => False) := by
  refine met_W (cc := cX3_viewSize) (maxL := 1) (ret := (some .int)) (by decide +kernel) rfl (Nat.le_of_ble_eq_true rfl) ?_
  intro pM eM s mM below meth cM ls hx hb hr hts hown hlocks hml hnm hK hP hl
  have hown : s.vm.findClass RX3 = some mM.cls := hown
  have hl : lv_has ls 1 [(0, .ref aM)] := hl
  have hP : va_P D vwCl [(aM, .inr (3, [.ref aA, .ref aB, .int (nI c), .int (bI gl), .int (bI gh), .int (bI li), .int (bI hn), .int (bI fl), .int lo, .int hi])), (aA, .inl (cy, 64, .inl k)), (aB, .inl (cy, 64, .inl v))] s.heap := hP
  have q1 := mF_le k c gl lo li gh hi hn
  have q2 := mE_le k c gl lo li gh hi hn
  have q3 := mFE k c gl lo li gh hi hn
  refine lv_aload_n hx hb dX3_viewSize_0 rfl (lv_at hl 0 rfl) ?_
  refine go_R (va_runV (As := []) (rest := []) ⟨hx, hb, hml, hown, hts⟩ (c_X3_behind l D cy aM aA aB k v c (by omega) gl gh li hn fl lo hi) (cwV 0 hts gX3_viewSize_X3_behind rfl rfl rfl (by decide +kernel) ⟨(Nat.le_of_ble_eq_true rfl), (Nat.le_of_ble_eq_true rfl)⟩) (preV_W hK (hP.sub [0, 1, 2] rfl) 0 3 rfl rfl) rfl rfl hl.1 rfl (lv_room (Nat.le_of_ble_eq_true rfl)) dX3_viewSize_1 ⟨(Nat.le_of_ble_eq_true rfl), (Nat.le_of_ble_eq_true rfl)⟩) ?_
  refine lv_aload_n hx hb dX3_viewSize_4 rfl (lv_at hl 0 rfl) ?_
  refine go_R (va_runV (As := []) (rest := [.int (nI (mE k c gl lo li gh hi hn))]) ⟨hx, hb, hml, hown, hts⟩ (c_X3_first l D cy aM aA aB k v c (by omega) gl gh li hn fl lo hi) (cwV 0 hts gX3_viewSize_X3_first rfl rfl rfl (by decide +kernel) ⟨(Nat.le_of_ble_eq_true rfl), (Nat.le_of_ble_eq_true rfl)⟩) (preV_W hK (hP.sub [0, 1, 2] rfl) 0 3 rfl rfl) rfl rfl hl.1 rfl (lv_room (Nat.le_of_ble_eq_true rfl)) dX3_viewSize_5 ⟨(Nat.le_of_ble_eq_true rfl), (Nat.le_of_ble_eq_true rfl)⟩) ?_
  refine lv_isub hx hb dX3_viewSize_8 ?_
  refine top_i (y := nI ((mE k c gl lo li gh hi hn) - (mF k c gl lo li gh hi hn))) (pk_sub (by omega)) ?_
  exact ret_i hx hb hr hlocks dX3_viewSize_9 (rfl)

set_option maxHeartbeats 4000000 in
set_option maxRecDepth 100000 in
/-- viewGet(k) -/
theorem c_X3_viewGet (l : Launch) (D : va_G) (cy : ClassId) (aM aA aB : Nat) (k v : Nat → Int32) (c : Nat) (hc : c ≤ 64) (gl gh li hn fl : Bool) (lo hi : Int32) (x : Int32) : Met l yX3_viewGet wsX3_viewGet ({ frames := 2, cells := 0, slots := 0, locals := 44 } : Room) (pcW D [(cy, .int)] [.ref aM, .int x] [(aM, .inr (3, [.ref aA, .ref aB, .int (nI c), .int (bI gl), .int (bI gh), .int (bI li), .int (bI hn), .int (bI fl), .int lo, .int hi])), (aA, .inl (cy, 64, .inl k)), (aB, .inl (cy, 64, .inl v))]) (qR (.long (if iM gl lo li gh hi hn x = true then vOf k v c x else NO))) 0 0 (fun _ => False) := by
  refine met_W (cc := cX3_viewGet) (maxL := 2) (ret := (some .long)) (by decide +kernel) rfl (Nat.le_of_ble_eq_true rfl) ?_
  intro pM eM s mM below meth cM ls hx hb hr hts hown hlocks hml hnm hK hP hl
  have hown : s.vm.findClass RX3 = some mM.cls := hown
  have hl : lv_has ls 2 [(0, .ref aM), (1, .int x)] := hl
  have kc_38 := hts (.constantLong RX3 38 (1099511627776)) (by decide +kernel)
  have hP : va_P D vwCl [(aM, .inr (3, [.ref aA, .ref aB, .int (nI c), .int (bI gl), .int (bI gh), .int (bI li), .int (bI hn), .int (bI fl), .int lo, .int hi])), (aA, .inl (cy, 64, .inl k)), (aB, .inl (cy, 64, .inl v))] s.heap := hP
  refine lv_aload_n hx hb dX3_viewGet_0 rfl (lv_at hl 0 rfl) ?_
  refine lv_iload_n hx hb dX3_viewGet_1 rfl (lv_at hl 1 rfl) ?_
  refine go_R (va_runV (As := [.int x]) (rest := []) ⟨hx, hb, hml, hown, hts⟩ (c_X3_isIn l D cy aM aA aB k v c (by omega) gl gh li hn fl lo hi x) (cwV 1 hts gX3_viewGet_X3_isIn rfl rfl rfl (by decide +kernel) ⟨(Nat.le_of_ble_eq_true rfl), (Nat.le_of_ble_eq_true rfl)⟩) (preV_W hK (hP.sub [0, 1, 2] rfl) 0 3 rfl rfl) rfl rfl hl.1 rfl (lv_room (Nat.le_of_ble_eq_true rfl)) dX3_viewGet_2 ⟨(Nat.le_of_ble_eq_true rfl), (Nat.le_of_ble_eq_true rfl)⟩) ?_
  refine b_eq (tgt := 16) hx hb dX3_viewGet_5 (by decide) (fun h5 => ?_) (fun h5 => ?_)
  · refine lv_ldc2 hx hb hown kc_38 dX3_viewGet_16 ?_
    exact ret_l hx hb hr hlocks dX3_viewGet_19 (by rw [h5]; rfl)
  · refine lv_aload_n hx hb dX3_viewGet_8 rfl (lv_at hl 0 rfl) ?_
    refine lv_iload_n hx hb dX3_viewGet_9 rfl (lv_at hl 1 rfl) ?_
    refine go_R (va_runV (As := [.int x]) (rest := []) ⟨hx, hb, hml, hown, hts⟩ (c_X3_get l D cy aM aA aB k v c (by omega) gl gh li hn fl lo hi x) (cwV 1 hts gX3_viewGet_X3_get rfl rfl rfl (by decide +kernel) ⟨(Nat.le_of_ble_eq_true rfl), (Nat.le_of_ble_eq_true rfl)⟩) (preV_W hK (hP.sub [0, 1, 2] rfl) 0 3 rfl rfl) rfl rfl hl.1 rfl (lv_room (Nat.le_of_ble_eq_true rfl)) dX3_viewGet_10 ⟨(Nat.le_of_ble_eq_true rfl), (Nat.le_of_ble_eq_true rfl)⟩) ?_
    refine lv_goto (tgt := 19) hx hb dX3_viewGet_13 (by decide) ?_
    exact ret_l hx hb hr hlocks dX3_viewGet_19 (by rw [h5]; rfl)

set_option maxHeartbeats 4000000 in
set_option maxRecDepth 100000 in
/-- viewNear(what, k) -/
theorem c_X3_viewNear (l : Launch) (D : va_G) (cy : ClassId) (aM aA aB : Nat) (k v : Nat → Int32) (c : Nat) (hc : c ≤ 64) (gl gh li hn fl : Bool) (lo hi : Int32) (w x : Int32) : Met l yX3_viewNear wsX3_viewNear ({ frames := 3, cells := 0, slots := 0, locals := 63 } : Room) (pcW D [(cy, .int)] [.ref aM, .int w, .int x] [(aM, .inr (3, [.ref aA, .ref aB, .int (nI c), .int (bI gl), .int (bI gh), .int (bI li), .int (bI hn), .int (bI fl), .int lo, .int hi])), (aA, .inl (cy, 64, .inl k)), (aB, .inl (cy, 64, .inl v))]) (qR (.long (if w < 0 ∨ 5 < w then NO else kNM k (if fl = true then xw w else w) x (mF k c gl lo li gh hi hn) (mE k c gl lo li gh hi hn)))) 0 0 (fun _ => False) := by
  refine met_W (cc := cX3_viewNear) (maxL := 3) (ret := (some .long)) (by decide +kernel) rfl (Nat.le_of_ble_eq_true rfl) ?_
  intro pM eM s mM below meth cM ls hx hb hr hts hown hlocks hml hnm hK hP hl
  have hown : s.vm.findClass RX3 = some mM.cls := hown
  have hl : lv_has ls 3 [(0, .ref aM), (1, .int w), (2, .int x)] := hl
  have hin_X3 : ∀ w ∈ wsX30, w ∈ wsX3_viewNear := by decide +kernel
  have kf_59 := hts (.fieldLink RX3 59 "OrderedDeskModel" "falls" "Z") (by decide +kernel)
  have kc_38 := hts (.constantLong RX3 38 (1099511627776)) (by decide +kernel)
  have hP : va_P D vwCl [(aM, .inr (3, [.ref aA, .ref aB, .int (nI c), .int (bI gl), .int (bI gh), .int (bI li), .int (bI hn), .int (bI fl), .int lo, .int hi])), (aA, .inl (cy, 64, .inl k)), (aB, .inl (cy, 64, .inl v))] s.heap := hP
  have q1 := mF_le k c gl lo li gh hi hn
  have q2 := mE_le k c gl lo li gh hi hn
  have q3 := mFE k c gl lo li gh hi hn
  refine lv_iload_n hx hb dX3_viewNear_0 rfl (lv_at hl 1 rfl) ?_
  refine lv_if_lt (tgt := 9) hx hb dX3_viewNear_1 (by decide) (fun h1 => ?_) (fun h1 => ?_)
  · have hz : (if w < 0 ∨ 5 < w then NO else kNM k (if fl = true then xw w else w) x (mF k c gl lo li gh hi hn) (mE k c gl lo li gh hi hn)) = NO := if_pos (Or.inl h1)
    refine lv_ldc2 hx hb hown kc_38 dX3_viewNear_9 ?_
    exact ret_l hx hb hr hlocks dX3_viewNear_12 (by first | (rw [if_neg (show ¬ fl = true by rw [h18]; decide)]; exact hz.symm) | (rw [if_pos h18]; exact hz.symm) | exact hz.symm)
  · refine lv_iload_n hx hb dX3_viewNear_4 rfl (lv_at hl 1 rfl) ?_
    refine lv_iconst (v := 5) hx hb dX3_viewNear_5 (by decide) ?_
    refine lv_icmp_le (tgt := 13) hx hb dX3_viewNear_6 (by decide) (fun h6 => ?_) (fun h6 => ?_)
    · have hz : (if w < 0 ∨ 5 < w then NO else kNM k (if fl = true then xw w else w) x (mF k c gl lo li gh hi hn) (mE k c gl lo li gh hi hn)) = kNM k (if fl = true then xw w else w) x (mF k c gl lo li gh hi hn) (mE k c gl lo li gh hi hn) := if_neg (fun q => q.elim h1 (Int32.not_lt.mpr h6))
      refine lv_aload_n hx hb dX3_viewNear_13 rfl (lv_at hl 0 rfl) ?_
      refine lv_aload_n hx hb dX3_viewNear_14 rfl (lv_at hl 0 rfl) ?_
      refine va_get (ci := 3) (v := .int (bI fl)) (C := RX3) (T := TX3) (N := 10) hx hb hts hin_X3 hown hK hP 0 rfl rfl 7 (by decide) kf_59 (fun _ h9 => h9) rfl dX3_viewNear_15 ?_
      refine b_eq (tgt := 27) hx hb dX3_viewNear_18 (by decide) (fun h18 => ?_) (fun h18 => ?_)
      · rw [if_neg (show ¬ fl = true by rw [h18]; decide)] at hz
        refine lv_iload_n hx hb dX3_viewNear_27 rfl (lv_at hl 1 rfl) ?_
        refine lv_iload_n hx hb dX3_viewNear_28 rfl (lv_at hl 2 rfl) ?_
        refine lv_aload_n hx hb dX3_viewNear_29 rfl (lv_at hl 0 rfl) ?_
        refine go_R (va_runV (As := []) (rest := [.int x, .int w, .ref aM]) ⟨hx, hb, hml, hown, hts⟩ (c_X3_first l D cy aM aA aB k v c (by omega) gl gh li hn fl lo hi) (cwV 0 hts gX3_viewNear_X3_first rfl rfl rfl (by decide +kernel) ⟨(Nat.le_of_ble_eq_true rfl), (Nat.le_of_ble_eq_true rfl)⟩) (preV_W hK (hP.sub [0, 1, 2] rfl) 0 3 rfl rfl) rfl rfl hl.1 rfl (lv_room (Nat.le_of_ble_eq_true rfl)) dX3_viewNear_30 ⟨(Nat.le_of_ble_eq_true rfl), (Nat.le_of_ble_eq_true rfl)⟩) ?_
        refine lv_aload_n hx hb dX3_viewNear_33 rfl (lv_at hl 0 rfl) ?_
        refine go_R (va_runV (As := []) (rest := [.int (nI (mF k c gl lo li gh hi hn)), .int x, .int w, .ref aM]) ⟨hx, hb, hml, hown, hts⟩ (c_X3_behind l D cy aM aA aB k v c (by omega) gl gh li hn fl lo hi) (cwV 0 hts gX3_viewNear_X3_behind rfl rfl rfl (by decide +kernel) ⟨(Nat.le_of_ble_eq_true rfl), (Nat.le_of_ble_eq_true rfl)⟩) (preV_W hK (hP.sub [0, 1, 2] rfl) 0 3 rfl rfl) rfl rfl hl.1 rfl (lv_room (Nat.le_of_ble_eq_true rfl)) dX3_viewNear_34 ⟨(Nat.le_of_ble_eq_true rfl), (Nat.le_of_ble_eq_true rfl)⟩) ?_
        refine go_R (va_runV (As := [.int w, .int x, .int (nI (mF k c gl lo li gh hi hn)), .int (nI (mE k c gl lo li gh hi hn))]) (rest := []) ⟨hx, hb, hml, hown, hts⟩ (c_X3_near l D cy aM aA aB k v c (by omega) gl gh li hn fl lo hi w x (mF k c gl lo li gh hi hn) (mE k c gl lo li gh hi hn) (by omega) (by omega)) (cwV 4 hts gX3_viewNear_X3_near rfl rfl rfl (by decide +kernel) ⟨(Nat.le_of_ble_eq_true rfl), (Nat.le_of_ble_eq_true rfl)⟩) (preV_W hK (hP.sub [0, 1, 2] rfl) 0 3 rfl rfl) rfl rfl hl.1 rfl (lv_room (Nat.le_of_ble_eq_true rfl)) dX3_viewNear_37 ⟨(Nat.le_of_ble_eq_true rfl), (Nat.le_of_ble_eq_true rfl)⟩) ?_
        exact ret_l hx hb hr hlocks dX3_viewNear_40 (by first | (rw [if_neg (show ¬ fl = true by rw [h18]; decide)]; exact hz.symm) | (rw [if_pos h18]; exact hz.symm) | exact hz.symm)
      · rw [if_pos h18] at hz
        refine lv_iload_n hx hb dX3_viewNear_21 rfl (lv_at hl 1 rfl) ?_
        refine lv_iconst (v := 1) hx hb dX3_viewNear_22 (by decide) ?_
        refine lv_ixor hx hb dX3_viewNear_23 ?_
        refine lv_goto (tgt := 28) hx hb dX3_viewNear_24 (by decide) ?_
        refine lv_iload_n hx hb dX3_viewNear_28 rfl (lv_at hl 2 rfl) ?_
        refine lv_aload_n hx hb dX3_viewNear_29 rfl (lv_at hl 0 rfl) ?_
        refine go_R (va_runV (As := []) (rest := [.int x, .int (w ^^^ 1), .ref aM]) ⟨hx, hb, hml, hown, hts⟩ (c_X3_first l D cy aM aA aB k v c (by omega) gl gh li hn fl lo hi) (cwV 0 hts gX3_viewNear_X3_first rfl rfl rfl (by decide +kernel) ⟨(Nat.le_of_ble_eq_true rfl), (Nat.le_of_ble_eq_true rfl)⟩) (preV_W hK (hP.sub [0, 1, 2] rfl) 0 3 rfl rfl) rfl rfl hl.1 rfl (lv_room (Nat.le_of_ble_eq_true rfl)) dX3_viewNear_30 ⟨(Nat.le_of_ble_eq_true rfl), (Nat.le_of_ble_eq_true rfl)⟩) ?_
        refine lv_aload_n hx hb dX3_viewNear_33 rfl (lv_at hl 0 rfl) ?_
        refine go_R (va_runV (As := []) (rest := [.int (nI (mF k c gl lo li gh hi hn)), .int x, .int (w ^^^ 1), .ref aM]) ⟨hx, hb, hml, hown, hts⟩ (c_X3_behind l D cy aM aA aB k v c (by omega) gl gh li hn fl lo hi) (cwV 0 hts gX3_viewNear_X3_behind rfl rfl rfl (by decide +kernel) ⟨(Nat.le_of_ble_eq_true rfl), (Nat.le_of_ble_eq_true rfl)⟩) (preV_W hK (hP.sub [0, 1, 2] rfl) 0 3 rfl rfl) rfl rfl hl.1 rfl (lv_room (Nat.le_of_ble_eq_true rfl)) dX3_viewNear_34 ⟨(Nat.le_of_ble_eq_true rfl), (Nat.le_of_ble_eq_true rfl)⟩) ?_
        refine go_R (va_runV (As := [.int (w ^^^ 1), .int x, .int (nI (mF k c gl lo li gh hi hn)), .int (nI (mE k c gl lo li gh hi hn))]) (rest := []) ⟨hx, hb, hml, hown, hts⟩ (c_X3_near l D cy aM aA aB k v c (by omega) gl gh li hn fl lo hi (w ^^^ 1) x (mF k c gl lo li gh hi hn) (mE k c gl lo li gh hi hn) (by omega) (by omega)) (cwV 4 hts gX3_viewNear_X3_near rfl rfl rfl (by decide +kernel) ⟨(Nat.le_of_ble_eq_true rfl), (Nat.le_of_ble_eq_true rfl)⟩) (preV_W hK (hP.sub [0, 1, 2] rfl) 0 3 rfl rfl) rfl rfl hl.1 rfl (lv_room (Nat.le_of_ble_eq_true rfl)) dX3_viewNear_37 ⟨(Nat.le_of_ble_eq_true rfl), (Nat.le_of_ble_eq_true rfl)⟩) ?_
        exact ret_l hx hb hr hlocks dX3_viewNear_40 (by first | (rw [if_neg (show ¬ fl = true by rw [h18]; decide)]; exact hz.symm) | (rw [if_pos h18]; exact hz.symm) | exact hz.symm)
    · have hz : (if w < 0 ∨ 5 < w then NO else kNM k (if fl = true then xw w else w) x (mF k c gl lo li gh hi hn) (mE k c gl lo li gh hi hn)) = NO := if_pos (Or.inr (Int32.not_le.mp h6))
      refine lv_ldc2 hx hb hown kc_38 dX3_viewNear_9 ?_
      exact ret_l hx hb hr hlocks dX3_viewNear_12 (by first | (rw [if_neg (show ¬ fl = true by rw [h18]; decide)]; exact hz.symm) | (rw [if_pos h18]; exact hz.symm) | exact hz.symm)

set_option maxHeartbeats 4000000 in
set_option maxRecDepth 100000 in
/-- viewKey(k) -/
theorem c_X3_viewKey (l : Launch) (D : va_G) (cy : ClassId) (aM aA aB : Nat) (k v : Nat → Int32) (c : Nat) (hc : c ≤ 64) (gl gh li hn fl : Bool) (lo hi : Int32) (x : Int32) : Met l yX3_viewKey wsX3_viewKey ({ frames := 3, cells := 0, slots := 0, locals := 63 } : Room) (pcW D [(cy, .int)] [.ref aM, .int x] [(aM, .inr (3, [.ref aA, .ref aB, .int (nI c), .int (bI gl), .int (bI gh), .int (bI li), .int (bI hn), .int (bI fl), .int lo, .int hi])), (aA, .inl (cy, 64, .inl k)), (aB, .inl (cy, 64, .inl v))]) (qR (.long (vKy k (mF k c gl lo li gh hi hn) (mE k c gl lo li gh hi hn) fl x.toInt))) 0 0 (fun _ => False) := by
  refine met_W (cc := cX3_viewKey) (maxL := 4) (ret := (some .long)) (by decide +kernel) rfl (Nat.le_of_ble_eq_true rfl) ?_
  intro pM eM s mM below meth cM ls hx hb hr hts hown hlocks hml hnm hK hP hl
  have hown : s.vm.findClass RX3 = some mM.cls := hown
  have hl : lv_has ls 4 [(0, .ref aM), (1, .int x)] := hl
  have hin_X3 : ∀ w ∈ wsX30, w ∈ wsX3_viewKey := by decide +kernel
  have kf_59 := hts (.fieldLink RX3 59 "OrderedDeskModel" "falls" "Z") (by decide +kernel)
  have kf_9 := hts (.fieldLink RX3 9 "OrderedDeskModel" "key" "[I") (by decide +kernel)
  have kc_38 := hts (.constantLong RX3 38 (1099511627776)) (by decide +kernel)
  have hP : va_P D vwCl [(aM, .inr (3, [.ref aA, .ref aB, .int (nI c), .int (bI gl), .int (bI gh), .int (bI li), .int (bI hn), .int (bI fl), .int lo, .int hi])), (aA, .inl (cy, 64, .inl k)), (aB, .inl (cy, 64, .inl v))] s.heap := hP
  have q1 := mF_le k c gl lo li gh hi hn
  have q2 := mE_le k c gl lo li gh hi hn
  have q3 := mFE k c gl lo li gh hi hn
  refine lv_aload_n hx hb dX3_viewKey_0 rfl (lv_at hl 0 rfl) ?_
  refine go_R (va_runV (As := []) (rest := []) ⟨hx, hb, hml, hown, hts⟩ (c_X3_first l D cy aM aA aB k v c (by omega) gl gh li hn fl lo hi) (cwV 0 hts gX3_viewKey_X3_first rfl rfl rfl (by decide +kernel) ⟨(Nat.le_of_ble_eq_true rfl), (Nat.le_of_ble_eq_true rfl)⟩) (preV_W hK (hP.sub [0, 1, 2] rfl) 0 3 rfl rfl) rfl rfl hl.1 rfl (lv_room (Nat.le_of_ble_eq_true rfl)) dX3_viewKey_1 ⟨(Nat.le_of_ble_eq_true rfl), (Nat.le_of_ble_eq_true rfl)⟩) ?_
  refine lv_istore_n (lv' := [(2, .int (nI (mF k c gl lo li gh hi hn))), (0, .ref aM), (1, .int x)]) hx hb dX3_viewKey_4 rfl hl (by decide) rfl (fun ls hl => ?_)
  refine lv_aload_n hx hb dX3_viewKey_5 rfl (lv_at hl 1 rfl) ?_
  refine go_R (va_runV (As := []) (rest := []) ⟨hx, hb, hml, hown, hts⟩ (c_X3_behind l D cy aM aA aB k v c (by omega) gl gh li hn fl lo hi) (cwV 0 hts gX3_viewKey_X3_behind rfl rfl rfl (by decide +kernel) ⟨(Nat.le_of_ble_eq_true rfl), (Nat.le_of_ble_eq_true rfl)⟩) (preV_W hK (hP.sub [0, 1, 2] rfl) 0 3 rfl rfl) rfl rfl hl.1 rfl (lv_room (Nat.le_of_ble_eq_true rfl)) dX3_viewKey_6 ⟨(Nat.le_of_ble_eq_true rfl), (Nat.le_of_ble_eq_true rfl)⟩) ?_
  refine lv_istore_n (lv' := [(3, .int (nI (mE k c gl lo li gh hi hn))), (2, .int (nI (mF k c gl lo li gh hi hn))), (0, .ref aM), (1, .int x)]) hx hb dX3_viewKey_9 rfl hl (by decide) rfl (fun ls hl => ?_)
  refine lv_iload_n hx hb dX3_viewKey_10 rfl (lv_at hl 3 rfl) ?_
  refine lv_if_lt (tgt := 21) hx hb dX3_viewKey_11 (by decide) (fun h11 => ?_) (fun h11 => ?_)
  · have hz : vKy k (mF k c gl lo li gh hi hn) (mE k c gl lo li gh hi hn) fl x.toInt = NO := by rw [Int32.lt_iff_toInt_lt, Int32.toInt_zero] at h11; unfold vKy; rw [if_neg (by omega)]
    refine lv_ldc2 hx hb hown kc_38 dX3_viewKey_21 ?_
    exact ret_l hx hb hr hlocks dX3_viewKey_24 (by rw [hz])
  · refine lv_iload_n hx hb dX3_viewKey_14 rfl (lv_at hl 3 rfl) ?_
    refine lv_iload_n hx hb dX3_viewKey_15 rfl (lv_at hl 0 rfl) ?_
    refine lv_iload_n hx hb dX3_viewKey_16 rfl (lv_at hl 1 rfl) ?_
    refine lv_isub hx hb dX3_viewKey_17 ?_
    refine top_i (y := nI ((mE k c gl lo li gh hi hn) - (mF k c gl lo li gh hi hn))) (pk_sub (by omega)) ?_
    refine lv_icmp_lt (tgt := 25) hx hb dX3_viewKey_18 (by decide) (fun h18 => ?_) (fun h18 => ?_)
    · obtain ⟨j, hj, rfl⟩ : ∃ j : Nat, j < (mE k c gl lo li gh hi hn) - (mF k c gl lo li gh hi hn) ∧ x = nI j := by obtain ⟨j, h1, h2, -⟩ := pk_mu h11 (Int32.not_le.mpr h18) (by omega); exact ⟨j, h1, h2⟩
      have hz : vKy k (mF k c gl lo li gh hi hn) (mE k c gl lo li gh hi hn) fl (nI j).toInt = (k (if fl = true then (mE k c gl lo li gh hi hn) - 1 - j else (mF k c gl lo li gh hi hn) + j)).toInt64 := by rw [nI_toInt (by omega)]; unfold vKy; rw [if_pos (by omega), Int.toNat_natCast]
      refine lv_aload_n hx hb dX3_viewKey_25 rfl (lv_at hl 2 rfl) ?_
      refine va_get (ci := 3) (v := .ref aA) (C := RX3) (T := TX3) (N := 10) hx hb hts hin_X3 hown hK hP 0 rfl rfl 0 (by decide) kf_9 (fun _ h9 => h9) rfl dX3_viewKey_26 ?_
      refine lv_aload_n hx hb dX3_viewKey_29 rfl (lv_at hl 2 rfl) ?_
      refine va_get (ci := 3) (v := .int (bI fl)) (C := RX3) (T := TX3) (N := 10) hx hb hts hin_X3 hown hK hP 0 rfl rfl 7 (by decide) kf_59 (fun _ h9 => h9) rfl dX3_viewKey_30 ?_
      refine b_eq (tgt := 44) hx hb dX3_viewKey_33 (by decide) (fun h33 => ?_) (fun h33 => ?_)
      · rw [if_neg (by rw [h33]; decide)] at hz
        refine lv_iload_n hx hb dX3_viewKey_44 rfl (lv_at hl 1 rfl) ?_
        refine lv_iload_n hx hb dX3_viewKey_45 rfl (lv_at hl 3 rfl) ?_
        refine lv_iadd hx hb dX3_viewKey_46 ?_
        refine top_i (y := nI ((mF k c gl lo li gh hi hn) + j)) (nI_add _ _) ?_
        refine a_ld hx hb hK hP 1 0 rfl rfl (by omega) (by decide) dX3_viewKey_47 ?_
        refine lv_i2l hx hb dX3_viewKey_48 rfl ?_
        exact ret_l hx hb hr hlocks dX3_viewKey_49 (by rw [hz])
      · rw [if_pos h33] at hz
        refine lv_iload_n hx hb dX3_viewKey_36 rfl (lv_at hl 0 rfl) ?_
        refine lv_iconst (v := nI 1) hx hb dX3_viewKey_37 (by decide) ?_
        refine lv_isub hx hb dX3_viewKey_38 ?_
        refine top_i (y := nI ((mE k c gl lo li gh hi hn) - 1)) (pk_sub (by omega)) ?_
        refine lv_iload_n hx hb dX3_viewKey_39 rfl (lv_at hl 3 rfl) ?_
        refine lv_isub hx hb dX3_viewKey_40 ?_
        refine top_i (y := nI (((mE k c gl lo li gh hi hn) - 1) - j)) (pk_sub (by omega)) ?_
        refine lv_goto (tgt := 47) hx hb dX3_viewKey_41 (by decide) ?_
        refine a_ld hx hb hK hP 1 0 rfl rfl (by omega) (by decide) dX3_viewKey_47 ?_
        refine lv_i2l hx hb dX3_viewKey_48 rfl ?_
        exact ret_l hx hb hr hlocks dX3_viewKey_49 (by rw [hz])
    · have hz : vKy k (mF k c gl lo li gh hi hn) (mE k c gl lo li gh hi hn) fl x.toInt = NO := by rw [Int32.lt_iff_toInt_lt, nI_toInt (by omega)] at h18; unfold vKy; rw [if_neg (by omega)]
      refine lv_ldc2 hx hb hown kc_38 dX3_viewKey_21 ?_
      exact ret_l hx hb hr hlocks dX3_viewKey_24 (by rw [hz])

set_option maxHeartbeats 4000000 in
set_option maxRecDepth 100000 in
/-- walk() -/
theorem c_X3_walk (l : Launch) (D : va_G) (cy : ClassId) (aM aA aB : Nat) (k v : Nat → Int32) (c : Nat) (hc : c ≤ 64) (gl gh li hn fl : Bool) (lo hi : Int32) : Met l yX3_walk wsX3_walk ({ frames := 3, cells := 0, slots := 0, locals := 63 } : Room) (pcW D [(cy, .int)] [.ref aM] [(aM, .inr (3, [.ref aA, .ref aB, .int (nI c), .int (bI gl), .int (bI gh), .int (bI li), .int (bI hn), .int (bI fl), .int lo, .int hi])), (aA, .inl (cy, 64, .inl k)), (aB, .inl (cy, 64, .inl v))]) (qR (.long (wsm k (wpl (mF k c gl lo li gh hi hn) (mE k c gl lo li gh hi hn) fl) ((mE k c gl lo li gh hi hn) - (mF k c gl lo li gh hi hn)) (mF k c gl lo li gh hi hn) 0))) 0 0 (fun _ => False) := by
  refine met_W (cc := cX3_walk) (maxL := 6) (ret := (some .long)) (by decide +kernel) rfl (Nat.le_of_ble_eq_true rfl) ?_
  intro pM eM s mM below meth cM ls hx hb hr hts hown hlocks hml hnm hK hP hl
  have hown : s.vm.findClass RX3 = some mM.cls := hown
  have hl : lv_has ls 6 [(0, .ref aM)] := hl
  have hin_X3 : ∀ w ∈ wsX30, w ∈ wsX3_walk := by decide +kernel
  have kf_59 := hts (.fieldLink RX3 59 "OrderedDeskModel" "falls" "Z") (by decide +kernel)
  have kf_9 := hts (.fieldLink RX3 9 "OrderedDeskModel" "key" "[I") (by decide +kernel)
  have hP : va_P D vwCl [(aM, .inr (3, [.ref aA, .ref aB, .int (nI c), .int (bI gl), .int (bI gh), .int (bI li), .int (bI hn), .int (bI fl), .int lo, .int hi])), (aA, .inl (cy, 64, .inl k)), (aB, .inl (cy, 64, .inl v))] s.heap := hP
  have q1 := mF_le k c gl lo li gh hi hn
  have q2 := mE_le k c gl lo li gh hi hn
  have q3 := mFE k c gl lo li gh hi hn
  refine lv_aload_n hx hb dX3_walk_0 rfl (lv_at hl 0 rfl) ?_
  refine go_R (va_runV (As := []) (rest := []) ⟨hx, hb, hml, hown, hts⟩ (c_X3_first l D cy aM aA aB k v c (by omega) gl gh li hn fl lo hi) (cwV 0 hts gX3_walk_X3_first rfl rfl rfl (by decide +kernel) ⟨(Nat.le_of_ble_eq_true rfl), (Nat.le_of_ble_eq_true rfl)⟩) (preV_W hK (hP.sub [0, 1, 2] rfl) 0 3 rfl rfl) rfl rfl hl.1 rfl (lv_room (Nat.le_of_ble_eq_true rfl)) dX3_walk_1 ⟨(Nat.le_of_ble_eq_true rfl), (Nat.le_of_ble_eq_true rfl)⟩) ?_
  refine lv_istore_n (lv' := [(1, .int (nI (mF k c gl lo li gh hi hn))), (0, .ref aM)]) hx hb dX3_walk_4 rfl hl (by decide) rfl (fun ls hl => ?_)
  refine lv_aload_n hx hb dX3_walk_5 rfl (lv_at hl 1 rfl) ?_
  refine go_R (va_runV (As := []) (rest := []) ⟨hx, hb, hml, hown, hts⟩ (c_X3_behind l D cy aM aA aB k v c (by omega) gl gh li hn fl lo hi) (cwV 0 hts gX3_walk_X3_behind rfl rfl rfl (by decide +kernel) ⟨(Nat.le_of_ble_eq_true rfl), (Nat.le_of_ble_eq_true rfl)⟩) (preV_W hK (hP.sub [0, 1, 2] rfl) 0 3 rfl rfl) rfl rfl hl.1 rfl (lv_room (Nat.le_of_ble_eq_true rfl)) dX3_walk_6 ⟨(Nat.le_of_ble_eq_true rfl), (Nat.le_of_ble_eq_true rfl)⟩) ?_
  refine lv_istore_n (lv' := [(2, .int (nI (mE k c gl lo li gh hi hn))), (1, .int (nI (mF k c gl lo li gh hi hn))), (0, .ref aM)]) hx hb dX3_walk_9 rfl hl (by decide) rfl (fun ls hl => ?_)
  refine lv_lconst (v := 0) hx hb dX3_walk_10 (by decide) ?_
  refine lv_lstore_n (lv' := [(3, .long 0), (2, .int (nI (mE k c gl lo li gh hi hn))), (1, .int (nI (mF k c gl lo li gh hi hn))), (0, .ref aM)]) hx hb dX3_walk_11 rfl hl (by decide) rfl (fun ls hl => ?_)
  refine lv_iload_n hx hb dX3_walk_12 rfl (lv_at hl 2 rfl) ?_
  refine lv_istore (lv' := [(5, .int (nI (mF k c gl lo li gh hi hn))), (3, .long 0), (2, .int (nI (mE k c gl lo li gh hi hn))), (1, .int (nI (mF k c gl lo li gh hi hn))), (0, .ref aM)]) hx hb dX3_walk_13 hl (by decide) rfl (fun ls hl => ?_)
  refine W_loopR (I := fun (i : Nat) (ls : Array Slot) => ∃ (a : Int64), lv_has ls 6 [(0, .ref aM), (1, .int (nI (mF k c gl lo li gh hi hn))), (2, .int (nI (mE k c gl lo li gh hi hn))), (3, .long a), (5, .int (nI i))] ∧ (mF k c gl lo li gh hi hn) ≤ i ∧ i ≤ (mE k c gl lo li gh hi hn) ∧ wsm k (wpl (mF k c gl lo li gh hi hn) (mE k c gl lo li gh hi hn) fl) ((mE k c gl lo li gh hi hn) - (mF k c gl lo li gh hi hn)) (mF k c gl lo li gh hi hn) 0 = wsm k (wpl (mF k c gl lo li gh hi hn) (mE k c gl lo li gh hi hn) fl) ((mE k c gl lo li gh hi hn) - i) i a) (μ := fun i => (mE k c gl lo li gh hi hn) - i) (fun i ls h ih => ?_) (mF k c gl lo li gh hi hn) ⟨0, lv_sub hl [4, 3, 2, 1, 0] rfl, Nat.le_refl _, q3, rfl⟩
  obtain ⟨a, hl, hi1, hi2, hv⟩ := h
  refine lv_iload hx hb dX3_walk_15 (lv_at hl 4 rfl) ?_
  refine lv_iload_n hx hb dX3_walk_17 rfl (lv_at hl 2 rfl) ?_
  refine n_ge (tgt := 60) (by omega) (by omega) hx hb dX3_walk_18 (by decide) (fun h18 => ?_) (fun h18 => ?_)
  · have hz : wsm k (wpl (mF k c gl lo li gh hi hn) (mE k c gl lo li gh hi hn) fl) ((mE k c gl lo li gh hi hn) - (mF k c gl lo li gh hi hn)) (mF k c gl lo li gh hi hn) 0 = a := by rw [hv, show (mE k c gl lo li gh hi hn) - i = 0 by omega]; rfl
    refine lv_lload_n hx hb dX3_walk_60 rfl (lv_at hl 3 rfl) ?_
    exact ret_l hx hb hr hlocks dX3_walk_61 (hz.symm)
  · refine lv_lload_n hx hb dX3_walk_21 rfl (lv_at hl 3 rfl) ?_
    refine lv_aload_n hx hb dX3_walk_22 rfl (lv_at hl 0 rfl) ?_
    refine va_get (ci := 3) (v := .ref aA) (C := RX3) (T := TX3) (N := 10) hx hb hts hin_X3 hown hK hP 0 rfl rfl 0 (by decide) kf_9 (fun _ h9 => h9) rfl dX3_walk_23 ?_
    refine lv_iload hx hb dX3_walk_26 (lv_at hl 4 rfl) ?_
    refine a_ld hx hb hK hP 1 0 rfl rfl (by omega) (by decide) dX3_walk_28 ?_
    refine lv_i2l hx hb dX3_walk_29 rfl ?_
    refine lv_aload_n hx hb dX3_walk_30 rfl (lv_at hl 0 rfl) ?_
    refine va_get (ci := 3) (v := .int (bI fl)) (C := RX3) (T := TX3) (N := 10) hx hb hts hin_X3 hown hK hP 0 rfl rfl 7 (by decide) kf_59 (fun _ h9 => h9) rfl dX3_walk_31 ?_
    refine b_eq (tgt := 44) hx hb dX3_walk_34 (by decide) (fun h34 => ?_) (fun h34 => ?_)
    · have hpl : wpl (mF k c gl lo li gh hi hn) (mE k c gl lo li gh hi hn) fl i = (nI (i - (mF k c gl lo li gh hi hn) + 1)).toInt64 := if_neg (by rw [h34]; decide)
      refine lv_iload hx hb dX3_walk_44 (lv_at hl 4 rfl) ?_
      refine lv_iload_n hx hb dX3_walk_46 rfl (lv_at hl 1 rfl) ?_
      refine lv_isub hx hb dX3_walk_47 ?_
      refine top_i (y := nI (i - (mF k c gl lo li gh hi hn))) (pk_sub (by omega)) ?_
      refine lv_iconst (v := nI 1) hx hb dX3_walk_48 (by decide) ?_
      refine lv_iadd hx hb dX3_walk_49 ?_
      refine top_i (y := nI ((i - (mF k c gl lo li gh hi hn)) + 1)) (nI_add _ _) ?_
      refine lv_i2l hx hb dX3_walk_50 rfl ?_
      refine lv_lmul hx hb dX3_walk_51 ?_
      refine lv_ladd hx hb dX3_walk_52 ?_
      refine lv_lstore_n (lv' := [(3, .long (a + (((k i).toInt64) * ((nI ((i - (mF k c gl lo li gh hi hn)) + 1)).toInt64)))), (0, .ref aM), (1, .int (nI (mF k c gl lo li gh hi hn))), (2, .int (nI (mE k c gl lo li gh hi hn))), (5, .int (nI i))]) hx hb dX3_walk_53 rfl hl (by decide) rfl (fun ls hl => ?_)
      refine lv_iinc (v := nI (i + 1)) (lv' := [(5, .int (nI (i + 1))), (3, .long (a + (((k i).toInt64) * ((nI ((i - (mF k c gl lo li gh hi hn)) + 1)).toInt64)))), (0, .ref aM), (1, .int (nI (mF k c gl lo li gh hi hn))), (2, .int (nI (mE k c gl lo li gh hi hn)))]) hx hb dX3_walk_54 hl (k := 4) rfl (by first | exact nI_1 _ | exact nI_add _ _) (by decide) rfl (fun ls hl => ?_)
      refine lv_goto (tgt := 15) hx hb dX3_walk_57 (by decide) ?_
      exact ih (i + 1) _ (by omega) ⟨_, lv_sub hl [2, 3, 4, 1, 0] rfl, by omega, by omega, by rw [hv, wsm_s h18, hpl]⟩
    · have hpl : wpl (mF k c gl lo li gh hi hn) (mE k c gl lo li gh hi hn) fl i = (nI ((mE k c gl lo li gh hi hn) - i)).toInt64 := if_pos h34
      refine lv_iload_n hx hb dX3_walk_37 rfl (lv_at hl 2 rfl) ?_
      refine lv_iload hx hb dX3_walk_38 (lv_at hl 4 rfl) ?_
      refine lv_isub hx hb dX3_walk_40 ?_
      refine top_i (y := nI ((mE k c gl lo li gh hi hn) - i)) (pk_sub (by omega)) ?_
      refine lv_goto (tgt := 50) hx hb dX3_walk_41 (by decide) ?_
      refine lv_i2l hx hb dX3_walk_50 rfl ?_
      refine lv_lmul hx hb dX3_walk_51 ?_
      refine lv_ladd hx hb dX3_walk_52 ?_
      refine lv_lstore_n (lv' := [(3, .long (a + (((k i).toInt64) * ((nI ((mE k c gl lo li gh hi hn) - i)).toInt64)))), (0, .ref aM), (1, .int (nI (mF k c gl lo li gh hi hn))), (2, .int (nI (mE k c gl lo li gh hi hn))), (5, .int (nI i))]) hx hb dX3_walk_53 rfl hl (by decide) rfl (fun ls hl => ?_)
      refine lv_iinc (v := nI (i + 1)) (lv' := [(5, .int (nI (i + 1))), (3, .long (a + (((k i).toInt64) * ((nI ((mE k c gl lo li gh hi hn) - i)).toInt64)))), (0, .ref aM), (1, .int (nI (mF k c gl lo li gh hi hn))), (2, .int (nI (mE k c gl lo li gh hi hn)))]) hx hb dX3_walk_54 hl (k := 4) rfl (by first | exact nI_1 _ | exact nI_add _ _) (by decide) rfl (fun ls hl => ?_)
      refine lv_goto (tgt := 15) hx hb dX3_walk_57 (by decide) ?_
      exact ih (i + 1) _ (by omega) ⟨_, lv_sub hl [2, 3, 4, 1, 0] rfl, by omega, by omega, by rw [hv, wsm_s h18, hpl]⟩

set_option maxHeartbeats 4000000 in
set_option maxRecDepth 100000 in
/-- clear() -/
theorem c_X3_clear (l : Launch) (D : va_G) (cy : ClassId) (aM aA aB : Nat) (k v : Nat → Int32) (c : Nat) (hc : c ≤ 64) (gl gh li hn fl : Bool) (lo hi : Int32) (nd : ([aM, aA, aB] : List Nat).Nodup) (sz : Nat) : Met l yX3_clear wsX3_clear ({ frames := 0, cells := 0, slots := 0, locals := 0 } : Room) (pcZ D [(cy, .int)] [.ref aM] [(aM, .inr (3, [.ref aA, .ref aB, .int (nI c), .int (bI gl), .int (bI gh), .int (bI li), .int (bI hn), .int (bI fl), .int lo, .int hi])), (aA, .inl (cy, 64, .inl k)), (aB, .inl (cy, 64, .inl v))] sz) (qM (some (.int (nI c))) (fun H => va_P D vwCl (mW cy aM aA aB k v 0 gl gh li hn fl lo hi) H) (mA [aM, aA, aB] sz)) 0 0 (mA [aM, aA, aB] sz) := by
  refine met_Z (cc := cX3_clear) (maxL := 2) (ret := (some .int)) (by decide +kernel) rfl (Nat.le_of_ble_eq_true rfl) ?_
  intro pM eM s mM below meth cM ls hx hb hr hts hown hlocks hml hnm hsz hK hP hl
  have hown : s.vm.findClass RX3 = some mM.cls := hown
  have hl : lv_has ls 2 [(0, .ref aM)] := hl
  have hin_X3 : ∀ w ∈ wsX30, w ∈ wsX3_clear := by decide +kernel
  have kf_16 := hts (.fieldLink RX3 16 "OrderedDeskModel" "many" "I") (by decide +kernel)
  have hP : va_P D vwCl [(aM, .inr (3, [.ref aA, .ref aB, .int (nI c), .int (bI gl), .int (bI gh), .int (bI li), .int (bI hn), .int (bI fl), .int lo, .int hi])), (aA, .inl (cy, 64, .inl k)), (aB, .inl (cy, 64, .inl v))] s.heap := hP
  subst hsz
  have ndw := nd
  have hA : ∀ q : Nat, s.heap.size ≤ q → mA [aM, aA, aB] s.heap.size q := fun q h => Or.inr h
  have hAw : ∀ q ∈ ([aM, aA, aB] : List Nat), mA [aM, aA, aB] s.heap.size q := fun q h => Or.inl h
  have hS : va_S (mA [aM, aA, aB] s.heap.size) s.heap s.heap [] := va_S.rf
  have hD : va_D (mA [aM, aA, aB] s.heap.size) [(aM, .inr (3, [.ref aA, .ref aB, .int (nI c), .int (bI gl), .int (bI gh), .int (bI li), .int (bI hn), .int (bI fl), .int lo, .int hi])), (aA, .inl (cy, 64, .inl k)), (aB, .inl (cy, 64, .inl v))] := D_of ndw hAw
  simp only [List.nodup_cons, List.mem_cons, List.not_mem_nil, or_false, not_or, not_false_eq_true, List.nodup_nil, and_true] at nd
  refine lv_aload_n hx hb dX3_clear_0 rfl (lv_at hl 0 rfl) ?_
  refine va_get (ci := 3) (v := .int (nI c)) (C := RX3) (T := TX3) (N := 10) hx hb hts hin_X3 hown hK hP 0 rfl rfl 2 (by decide) kf_16 (fun _ h9 => h9) rfl dX3_clear_1 ?_
  refine lv_istore_n (lv' := [(1, .int (nI c)), (0, .ref aM)]) hx hb dX3_clear_4 rfl hl (by decide) rfl (fun ls hl => ?_)
  refine lv_aload_n hx hb dX3_clear_5 rfl (lv_at hl 1 rfl) ?_
  refine lv_iconst (v := nI 0) hx hb dX3_clear_6 (by decide) ?_
  refine va_put (ci := 3) (v := .int (nI 0)) (ty := .int) (C := RX3) (T := TX3) (N := 10) hx hb hts hin_X3 tyX3 tyX3_ok nmX3 hown hK hP hD hS 0 rfl rfl 2 (by decide) kf_16 (fun _ h9 => h9) rfl (by decide +kernel) rfl rfl (Nat.le_of_ble_eq_true rfl) dX3_clear_7 (fun H locs hP hD hS => ?_)
  have hP : va_P D vwCl [(aM, .inr (3, [.ref aA, .ref aB, .int (nI 0), .int (bI gl), .int (bI gh), .int (bI li), .int (bI hn), .int (bI fl), .int lo, .int hi])), (aA, .inl (cy, 64, .inl k)), (aB, .inl (cy, 64, .inl v))] H := hP
  have hD : va_D _ [(aM, .inr (3, [.ref aA, .ref aB, .int (nI 0), .int (bI gl), .int (bI gh), .int (bI li), .int (bI hn), .int (bI fl), .int lo, .int hi])), (aA, .inl (cy, 64, .inl k)), (aB, .inl (cy, 64, .inl v))] := hD
  refine lv_iload_n hx hb dX3_clear_10 rfl (lv_at hl 0 rfl) ?_
  exact ret_iM hx hb hr hlocks dX3_clear_11 hS (rfl) (hP)

set_option maxHeartbeats 4000000 in
set_option maxRecDepth 100000 in
/-- all() -/
theorem c_X3_all (l : Launch) (D : va_G) (cy : ClassId) (aM aA aB : Nat) (k v : Nat → Int32) (c : Nat) (hc : c ≤ 64) (gl gh li hn fl : Bool) (lo hi : Int32) (nd : ([aM, aA, aB] : List Nat).Nodup) (sz : Nat) : Met l yX3_all wsX3_all ({ frames := 0, cells := 0, slots := 0, locals := 0 } : Room) (pcZ D [(cy, .int)] [.ref aM] [(aM, .inr (3, [.ref aA, .ref aB, .int (nI c), .int (bI gl), .int (bI gh), .int (bI li), .int (bI hn), .int (bI fl), .int lo, .int hi])), (aA, .inl (cy, 64, .inl k)), (aB, .inl (cy, 64, .inl v))] sz) (qM none (fun H => va_P D vwCl (mW cy aM aA aB k v c false false li hn false lo hi) H) (mA [aM, aA, aB] sz)) 0 0 (mA [aM, aA, aB] sz) := by
  refine met_Z (cc := cX3_all) (maxL := 1) (ret := none) (by decide +kernel) rfl (Nat.le_of_ble_eq_true rfl) ?_
  intro pM eM s mM below meth cM ls hx hb hr hts hown hlocks hml hnm hsz hK hP hl
  have hown : s.vm.findClass RX3 = some mM.cls := hown
  have hl : lv_has ls 1 [(0, .ref aM)] := hl
  have hin_X3 : ∀ w ∈ wsX30, w ∈ wsX3_all := by decide +kernel
  have kf_52 := hts (.fieldLink RX3 52 "OrderedDeskModel" "hasLow" "Z") (by decide +kernel)
  have kf_56 := hts (.fieldLink RX3 56 "OrderedDeskModel" "hasHigh" "Z") (by decide +kernel)
  have kf_59 := hts (.fieldLink RX3 59 "OrderedDeskModel" "falls" "Z") (by decide +kernel)
  have hP : va_P D vwCl [(aM, .inr (3, [.ref aA, .ref aB, .int (nI c), .int (bI gl), .int (bI gh), .int (bI li), .int (bI hn), .int (bI fl), .int lo, .int hi])), (aA, .inl (cy, 64, .inl k)), (aB, .inl (cy, 64, .inl v))] s.heap := hP
  subst hsz
  have ndw := nd
  have hA : ∀ q : Nat, s.heap.size ≤ q → mA [aM, aA, aB] s.heap.size q := fun q h => Or.inr h
  have hAw : ∀ q ∈ ([aM, aA, aB] : List Nat), mA [aM, aA, aB] s.heap.size q := fun q h => Or.inl h
  have hS : va_S (mA [aM, aA, aB] s.heap.size) s.heap s.heap [] := va_S.rf
  have hD : va_D (mA [aM, aA, aB] s.heap.size) [(aM, .inr (3, [.ref aA, .ref aB, .int (nI c), .int (bI gl), .int (bI gh), .int (bI li), .int (bI hn), .int (bI fl), .int lo, .int hi])), (aA, .inl (cy, 64, .inl k)), (aB, .inl (cy, 64, .inl v))] := D_of ndw hAw
  simp only [List.nodup_cons, List.mem_cons, List.not_mem_nil, or_false, not_or, not_false_eq_true, List.nodup_nil, and_true] at nd
  refine lv_aload_n hx hb dX3_all_0 rfl (lv_at hl 0 rfl) ?_
  refine lv_iconst (v := bI false) hx hb dX3_all_1 (by decide) ?_
  refine va_put (ci := 3) (v := .int (bI false)) (ty := .boolean) (C := RX3) (T := TX3) (N := 10) hx hb hts hin_X3 tyX3 tyX3_ok nmX3 hown hK hP hD hS 0 rfl rfl 3 (by decide) kf_52 (fun _ h9 => h9) rfl (by decide +kernel) (bI_nar _) (bI_fit _) (Nat.le_of_ble_eq_true rfl) dX3_all_2 (fun H locs hP hD hS => ?_)
  have hP : va_P D vwCl [(aM, .inr (3, [.ref aA, .ref aB, .int (nI c), .int (bI false), .int (bI gh), .int (bI li), .int (bI hn), .int (bI fl), .int lo, .int hi])), (aA, .inl (cy, 64, .inl k)), (aB, .inl (cy, 64, .inl v))] H := hP
  have hD : va_D _ [(aM, .inr (3, [.ref aA, .ref aB, .int (nI c), .int (bI false), .int (bI gh), .int (bI li), .int (bI hn), .int (bI fl), .int lo, .int hi])), (aA, .inl (cy, 64, .inl k)), (aB, .inl (cy, 64, .inl v))] := hD
  refine lv_aload_n hx hb dX3_all_5 rfl (lv_at hl 0 rfl) ?_
  refine lv_iconst (v := bI false) hx hb dX3_all_6 (by decide) ?_
  refine va_put (ci := 3) (v := .int (bI false)) (ty := .boolean) (C := RX3) (T := TX3) (N := 10) hx hb hts hin_X3 tyX3 tyX3_ok nmX3 hown hK hP hD hS 0 rfl rfl 4 (by decide) kf_56 (fun _ h9 => h9) rfl (by decide +kernel) (bI_nar _) (bI_fit _) (Nat.le_of_ble_eq_true rfl) dX3_all_7 (fun H locs hP hD hS => ?_)
  have hP : va_P D vwCl [(aM, .inr (3, [.ref aA, .ref aB, .int (nI c), .int (bI false), .int (bI false), .int (bI li), .int (bI hn), .int (bI fl), .int lo, .int hi])), (aA, .inl (cy, 64, .inl k)), (aB, .inl (cy, 64, .inl v))] H := hP
  have hD : va_D _ [(aM, .inr (3, [.ref aA, .ref aB, .int (nI c), .int (bI false), .int (bI false), .int (bI li), .int (bI hn), .int (bI fl), .int lo, .int hi])), (aA, .inl (cy, 64, .inl k)), (aB, .inl (cy, 64, .inl v))] := hD
  refine lv_aload_n hx hb dX3_all_10 rfl (lv_at hl 0 rfl) ?_
  refine lv_iconst (v := bI false) hx hb dX3_all_11 (by decide) ?_
  refine va_put (ci := 3) (v := .int (bI false)) (ty := .boolean) (C := RX3) (T := TX3) (N := 10) hx hb hts hin_X3 tyX3 tyX3_ok nmX3 hown hK hP hD hS 0 rfl rfl 7 (by decide) kf_59 (fun _ h9 => h9) rfl (by decide +kernel) (bI_nar _) (bI_fit _) (Nat.le_of_ble_eq_true rfl) dX3_all_12 (fun H locs hP hD hS => ?_)
  have hP : va_P D vwCl [(aM, .inr (3, [.ref aA, .ref aB, .int (nI c), .int (bI false), .int (bI false), .int (bI li), .int (bI hn), .int (bI false), .int lo, .int hi])), (aA, .inl (cy, 64, .inl k)), (aB, .inl (cy, 64, .inl v))] H := hP
  have hD : va_D _ [(aM, .inr (3, [.ref aA, .ref aB, .int (nI c), .int (bI false), .int (bI false), .int (bI li), .int (bI hn), .int (bI false), .int lo, .int hi])), (aA, .inl (cy, 64, .inl k)), (aB, .inl (cy, 64, .inl v))] := hD
  exact ret_vM hx hb hr hlocks dX3_all_15 hS (hP)

set_option maxHeartbeats 4000000 in
set_option maxRecDepth 100000 in
/-- begin(k, in) -/
theorem c_X3_begin (l : Launch) (D : va_G) (cy : ClassId) (aM aA aB : Nat) (k v : Nat → Int32) (c : Nat) (hc : c ≤ 64) (gl gh li hn fl : Bool) (lo hi : Int32) (nd : ([aM, aA, aB] : List Nat).Nodup) (sz : Nat) (x : Int32) (i : Bool) : Met l yX3_begin wsX3_begin ({ frames := 0, cells := 0, slots := 0, locals := 0 } : Room) (pcZ D [(cy, .int)] [.ref aM, .int x, .int (bI i)] [(aM, .inr (3, [.ref aA, .ref aB, .int (nI c), .int (bI gl), .int (bI gh), .int (bI li), .int (bI hn), .int (bI fl), .int lo, .int hi])), (aA, .inl (cy, 64, .inl k)), (aB, .inl (cy, 64, .inl v))] sz) (qM none (fun H => va_P D vwCl (mW cy aM aA aB k v c true gh i hn fl x hi) H) (mA [aM, aA, aB] sz)) 0 0 (mA [aM, aA, aB] sz) := by
  refine met_Z (cc := cX3_begin) (maxL := 3) (ret := none) (by decide +kernel) rfl (Nat.le_of_ble_eq_true rfl) ?_
  intro pM eM s mM below meth cM ls hx hb hr hts hown hlocks hml hnm hsz hK hP hl
  have hown : s.vm.findClass RX3 = some mM.cls := hown
  have hl : lv_has ls 3 [(0, .ref aM), (1, .int x), (2, .int (bI i))] := hl
  have hin_X3 : ∀ w ∈ wsX30, w ∈ wsX3_begin := by decide +kernel
  have kf_52 := hts (.fieldLink RX3 52 "OrderedDeskModel" "hasLow" "Z") (by decide +kernel)
  have kf_72 := hts (.fieldLink RX3 72 "OrderedDeskModel" "low" "I") (by decide +kernel)
  have kf_75 := hts (.fieldLink RX3 75 "OrderedDeskModel" "lowIn" "Z") (by decide +kernel)
  have hP : va_P D vwCl [(aM, .inr (3, [.ref aA, .ref aB, .int (nI c), .int (bI gl), .int (bI gh), .int (bI li), .int (bI hn), .int (bI fl), .int lo, .int hi])), (aA, .inl (cy, 64, .inl k)), (aB, .inl (cy, 64, .inl v))] s.heap := hP
  subst hsz
  have ndw := nd
  have hA : ∀ q : Nat, s.heap.size ≤ q → mA [aM, aA, aB] s.heap.size q := fun q h => Or.inr h
  have hAw : ∀ q ∈ ([aM, aA, aB] : List Nat), mA [aM, aA, aB] s.heap.size q := fun q h => Or.inl h
  have hS : va_S (mA [aM, aA, aB] s.heap.size) s.heap s.heap [] := va_S.rf
  have hD : va_D (mA [aM, aA, aB] s.heap.size) [(aM, .inr (3, [.ref aA, .ref aB, .int (nI c), .int (bI gl), .int (bI gh), .int (bI li), .int (bI hn), .int (bI fl), .int lo, .int hi])), (aA, .inl (cy, 64, .inl k)), (aB, .inl (cy, 64, .inl v))] := D_of ndw hAw
  simp only [List.nodup_cons, List.mem_cons, List.not_mem_nil, or_false, not_or, not_false_eq_true, List.nodup_nil, and_true] at nd
  refine lv_aload_n hx hb dX3_begin_0 rfl (lv_at hl 0 rfl) ?_
  refine lv_iconst (v := bI true) hx hb dX3_begin_1 (by decide) ?_
  refine va_put (ci := 3) (v := .int (bI true)) (ty := .boolean) (C := RX3) (T := TX3) (N := 10) hx hb hts hin_X3 tyX3 tyX3_ok nmX3 hown hK hP hD hS 0 rfl rfl 3 (by decide) kf_52 (fun _ h9 => h9) rfl (by decide +kernel) (bI_nar _) (bI_fit _) (Nat.le_of_ble_eq_true rfl) dX3_begin_2 (fun H locs hP hD hS => ?_)
  have hP : va_P D vwCl [(aM, .inr (3, [.ref aA, .ref aB, .int (nI c), .int (bI true), .int (bI gh), .int (bI li), .int (bI hn), .int (bI fl), .int lo, .int hi])), (aA, .inl (cy, 64, .inl k)), (aB, .inl (cy, 64, .inl v))] H := hP
  have hD : va_D _ [(aM, .inr (3, [.ref aA, .ref aB, .int (nI c), .int (bI true), .int (bI gh), .int (bI li), .int (bI hn), .int (bI fl), .int lo, .int hi])), (aA, .inl (cy, 64, .inl k)), (aB, .inl (cy, 64, .inl v))] := hD
  refine lv_aload_n hx hb dX3_begin_5 rfl (lv_at hl 0 rfl) ?_
  refine lv_iload_n hx hb dX3_begin_6 rfl (lv_at hl 1 rfl) ?_
  refine va_put (ci := 3) (v := .int x) (ty := .int) (C := RX3) (T := TX3) (N := 10) hx hb hts hin_X3 tyX3 tyX3_ok nmX3 hown hK hP hD hS 0 rfl rfl 8 (by decide) kf_72 (fun _ h9 => h9) rfl (by decide +kernel) rfl rfl (Nat.le_of_ble_eq_true rfl) dX3_begin_7 (fun H locs hP hD hS => ?_)
  have hP : va_P D vwCl [(aM, .inr (3, [.ref aA, .ref aB, .int (nI c), .int (bI true), .int (bI gh), .int (bI li), .int (bI hn), .int (bI fl), .int x, .int hi])), (aA, .inl (cy, 64, .inl k)), (aB, .inl (cy, 64, .inl v))] H := hP
  have hD : va_D _ [(aM, .inr (3, [.ref aA, .ref aB, .int (nI c), .int (bI true), .int (bI gh), .int (bI li), .int (bI hn), .int (bI fl), .int x, .int hi])), (aA, .inl (cy, 64, .inl k)), (aB, .inl (cy, 64, .inl v))] := hD
  refine lv_aload_n hx hb dX3_begin_10 rfl (lv_at hl 0 rfl) ?_
  refine lv_iload_n hx hb dX3_begin_11 rfl (lv_at hl 2 rfl) ?_
  refine va_put (ci := 3) (v := .int (bI i)) (ty := .boolean) (C := RX3) (T := TX3) (N := 10) hx hb hts hin_X3 tyX3 tyX3_ok nmX3 hown hK hP hD hS 0 rfl rfl 5 (by decide) kf_75 (fun _ h9 => h9) rfl (by decide +kernel) (bI_nar _) (bI_fit _) (Nat.le_of_ble_eq_true rfl) dX3_begin_12 (fun H locs hP hD hS => ?_)
  have hP : va_P D vwCl [(aM, .inr (3, [.ref aA, .ref aB, .int (nI c), .int (bI true), .int (bI gh), .int (bI i), .int (bI hn), .int (bI fl), .int x, .int hi])), (aA, .inl (cy, 64, .inl k)), (aB, .inl (cy, 64, .inl v))] H := hP
  have hD : va_D _ [(aM, .inr (3, [.ref aA, .ref aB, .int (nI c), .int (bI true), .int (bI gh), .int (bI i), .int (bI hn), .int (bI fl), .int x, .int hi])), (aA, .inl (cy, 64, .inl k)), (aB, .inl (cy, 64, .inl v))] := hD
  exact ret_vM hx hb hr hlocks dX3_begin_15 hS (hP)

set_option maxHeartbeats 4000000 in
set_option maxRecDepth 100000 in
/-- end(k, in) -/
theorem c_X3_end (l : Launch) (D : va_G) (cy : ClassId) (aM aA aB : Nat) (k v : Nat → Int32) (c : Nat) (hc : c ≤ 64) (gl gh li hn fl : Bool) (lo hi : Int32) (nd : ([aM, aA, aB] : List Nat).Nodup) (sz : Nat) (x : Int32) (i : Bool) : Met l yX3_end wsX3_end ({ frames := 0, cells := 0, slots := 0, locals := 0 } : Room) (pcZ D [(cy, .int)] [.ref aM, .int x, .int (bI i)] [(aM, .inr (3, [.ref aA, .ref aB, .int (nI c), .int (bI gl), .int (bI gh), .int (bI li), .int (bI hn), .int (bI fl), .int lo, .int hi])), (aA, .inl (cy, 64, .inl k)), (aB, .inl (cy, 64, .inl v))] sz) (qM none (fun H => va_P D vwCl (mW cy aM aA aB k v c gl true li i fl lo x) H) (mA [aM, aA, aB] sz)) 0 0 (mA [aM, aA, aB] sz) := by
  refine met_Z (cc := cX3_end) (maxL := 3) (ret := none) (by decide +kernel) rfl (Nat.le_of_ble_eq_true rfl) ?_
  intro pM eM s mM below meth cM ls hx hb hr hts hown hlocks hml hnm hsz hK hP hl
  have hown : s.vm.findClass RX3 = some mM.cls := hown
  have hl : lv_has ls 3 [(0, .ref aM), (1, .int x), (2, .int (bI i))] := hl
  have hin_X3 : ∀ w ∈ wsX30, w ∈ wsX3_end := by decide +kernel
  have kf_56 := hts (.fieldLink RX3 56 "OrderedDeskModel" "hasHigh" "Z") (by decide +kernel)
  have kf_78 := hts (.fieldLink RX3 78 "OrderedDeskModel" "high" "I") (by decide +kernel)
  have kf_81 := hts (.fieldLink RX3 81 "OrderedDeskModel" "highIn" "Z") (by decide +kernel)
  have hP : va_P D vwCl [(aM, .inr (3, [.ref aA, .ref aB, .int (nI c), .int (bI gl), .int (bI gh), .int (bI li), .int (bI hn), .int (bI fl), .int lo, .int hi])), (aA, .inl (cy, 64, .inl k)), (aB, .inl (cy, 64, .inl v))] s.heap := hP
  subst hsz
  have ndw := nd
  have hA : ∀ q : Nat, s.heap.size ≤ q → mA [aM, aA, aB] s.heap.size q := fun q h => Or.inr h
  have hAw : ∀ q ∈ ([aM, aA, aB] : List Nat), mA [aM, aA, aB] s.heap.size q := fun q h => Or.inl h
  have hS : va_S (mA [aM, aA, aB] s.heap.size) s.heap s.heap [] := va_S.rf
  have hD : va_D (mA [aM, aA, aB] s.heap.size) [(aM, .inr (3, [.ref aA, .ref aB, .int (nI c), .int (bI gl), .int (bI gh), .int (bI li), .int (bI hn), .int (bI fl), .int lo, .int hi])), (aA, .inl (cy, 64, .inl k)), (aB, .inl (cy, 64, .inl v))] := D_of ndw hAw
  simp only [List.nodup_cons, List.mem_cons, List.not_mem_nil, or_false, not_or, not_false_eq_true, List.nodup_nil, and_true] at nd
  refine lv_aload_n hx hb dX3_end_0 rfl (lv_at hl 0 rfl) ?_
  refine lv_iconst (v := bI true) hx hb dX3_end_1 (by decide) ?_
  refine va_put (ci := 3) (v := .int (bI true)) (ty := .boolean) (C := RX3) (T := TX3) (N := 10) hx hb hts hin_X3 tyX3 tyX3_ok nmX3 hown hK hP hD hS 0 rfl rfl 4 (by decide) kf_56 (fun _ h9 => h9) rfl (by decide +kernel) (bI_nar _) (bI_fit _) (Nat.le_of_ble_eq_true rfl) dX3_end_2 (fun H locs hP hD hS => ?_)
  have hP : va_P D vwCl [(aM, .inr (3, [.ref aA, .ref aB, .int (nI c), .int (bI gl), .int (bI true), .int (bI li), .int (bI hn), .int (bI fl), .int lo, .int hi])), (aA, .inl (cy, 64, .inl k)), (aB, .inl (cy, 64, .inl v))] H := hP
  have hD : va_D _ [(aM, .inr (3, [.ref aA, .ref aB, .int (nI c), .int (bI gl), .int (bI true), .int (bI li), .int (bI hn), .int (bI fl), .int lo, .int hi])), (aA, .inl (cy, 64, .inl k)), (aB, .inl (cy, 64, .inl v))] := hD
  refine lv_aload_n hx hb dX3_end_5 rfl (lv_at hl 0 rfl) ?_
  refine lv_iload_n hx hb dX3_end_6 rfl (lv_at hl 1 rfl) ?_
  refine va_put (ci := 3) (v := .int x) (ty := .int) (C := RX3) (T := TX3) (N := 10) hx hb hts hin_X3 tyX3 tyX3_ok nmX3 hown hK hP hD hS 0 rfl rfl 9 (by decide) kf_78 (fun _ h9 => h9) rfl (by decide +kernel) rfl rfl (Nat.le_of_ble_eq_true rfl) dX3_end_7 (fun H locs hP hD hS => ?_)
  have hP : va_P D vwCl [(aM, .inr (3, [.ref aA, .ref aB, .int (nI c), .int (bI gl), .int (bI true), .int (bI li), .int (bI hn), .int (bI fl), .int lo, .int x])), (aA, .inl (cy, 64, .inl k)), (aB, .inl (cy, 64, .inl v))] H := hP
  have hD : va_D _ [(aM, .inr (3, [.ref aA, .ref aB, .int (nI c), .int (bI gl), .int (bI true), .int (bI li), .int (bI hn), .int (bI fl), .int lo, .int x])), (aA, .inl (cy, 64, .inl k)), (aB, .inl (cy, 64, .inl v))] := hD
  refine lv_aload_n hx hb dX3_end_10 rfl (lv_at hl 0 rfl) ?_
  refine lv_iload_n hx hb dX3_end_11 rfl (lv_at hl 2 rfl) ?_
  refine va_put (ci := 3) (v := .int (bI i)) (ty := .boolean) (C := RX3) (T := TX3) (N := 10) hx hb hts hin_X3 tyX3 tyX3_ok nmX3 hown hK hP hD hS 0 rfl rfl 6 (by decide) kf_81 (fun _ h9 => h9) rfl (by decide +kernel) (bI_nar _) (bI_fit _) (Nat.le_of_ble_eq_true rfl) dX3_end_12 (fun H locs hP hD hS => ?_)
  have hP : va_P D vwCl [(aM, .inr (3, [.ref aA, .ref aB, .int (nI c), .int (bI gl), .int (bI true), .int (bI li), .int (bI i), .int (bI fl), .int lo, .int x])), (aA, .inl (cy, 64, .inl k)), (aB, .inl (cy, 64, .inl v))] H := hP
  have hD : va_D _ [(aM, .inr (3, [.ref aA, .ref aB, .int (nI c), .int (bI gl), .int (bI true), .int (bI li), .int (bI i), .int (bI fl), .int lo, .int x])), (aA, .inl (cy, 64, .inl k)), (aB, .inl (cy, 64, .inl v))] := hD
  exact ret_vM hx hb hr hlocks dX3_end_15 hS (hP)

set_option maxHeartbeats 4000000 in
set_option maxRecDepth 100000 in
/-- viewPut(k, v) -/
theorem c_X3_viewPut (l : Launch) (D : va_G) (cy : ClassId) (aM aA aB : Nat) (k v : Nat → Int32) (c : Nat) (hc : c ≤ 64) (gl gh li hn fl : Bool) (lo hi : Int32) (nd : ([aM, aA, aB] : List Nat).Nodup) (sz : Nat) (hc2 : c < 64) (x y : Int32) : Met l yX3_viewPut wsX3_viewPut ({ frames := 2, cells := 0, slots := 0, locals := 48 } : Room) (pcZ D [(cy, .int)] [.ref aM, .int x, .int y] [(aM, .inr (3, [.ref aA, .ref aB, .int (nI c), .int (bI gl), .int (bI gh), .int (bI li), .int (bI hn), .int (bI fl), .int lo, .int hi])), (aA, .inl (cy, 64, .inl k)), (aB, .inl (cy, 64, .inl v))] sz) (qM (some (.long (if iM gl lo li gh hi hn x = true then vOf k v c x else OUT))) (fun H => va_P D vwCl (mW cy aM aA aB ((vPT k v c (iM gl lo li gh hi hn x) x y).2.1) ((vPT k v c (iM gl lo li gh hi hn x) x y).2.2) ((vPT k v c (iM gl lo li gh hi hn x) x y).1) gl gh li hn fl lo hi) H) (mA [aM, aA, aB] sz)) 0 0 (mA [aM, aA, aB] sz) := by
  refine met_Z (cc := cX3_viewPut) (maxL := 3) (ret := (some .long)) (by decide +kernel) rfl (Nat.le_of_ble_eq_true rfl) ?_
  intro pM eM s mM below meth cM ls hx hb hr hts hown hlocks hml hnm hsz hK hP hl
  have hown : s.vm.findClass RX3 = some mM.cls := hown
  have hl : lv_has ls 3 [(0, .ref aM), (1, .int x), (2, .int y)] := hl
  have kc_106 := hts (.constantLong RX3 106 (1099511627777)) (by decide +kernel)
  have hP : va_P D vwCl [(aM, .inr (3, [.ref aA, .ref aB, .int (nI c), .int (bI gl), .int (bI gh), .int (bI li), .int (bI hn), .int (bI fl), .int lo, .int hi])), (aA, .inl (cy, 64, .inl k)), (aB, .inl (cy, 64, .inl v))] s.heap := hP
  subst hsz
  have ndw := nd
  have hA : ∀ q : Nat, s.heap.size ≤ q → mA [aM, aA, aB] s.heap.size q := fun q h => Or.inr h
  have hAw : ∀ q ∈ ([aM, aA, aB] : List Nat), mA [aM, aA, aB] s.heap.size q := fun q h => Or.inl h
  have hS : va_S (mA [aM, aA, aB] s.heap.size) s.heap s.heap [] := va_S.rf
  have hD : va_D (mA [aM, aA, aB] s.heap.size) [(aM, .inr (3, [.ref aA, .ref aB, .int (nI c), .int (bI gl), .int (bI gh), .int (bI li), .int (bI hn), .int (bI fl), .int lo, .int hi])), (aA, .inl (cy, 64, .inl k)), (aB, .inl (cy, 64, .inl v))] := D_of ndw hAw
  simp only [List.nodup_cons, List.mem_cons, List.not_mem_nil, or_false, not_or, not_false_eq_true, List.nodup_nil, and_true] at nd
  refine lv_aload_n hx hb dX3_viewPut_0 rfl (lv_at hl 0 rfl) ?_
  refine lv_iload_n hx hb dX3_viewPut_1 rfl (lv_at hl 1 rfl) ?_
  refine go_R (va_runV (As := [.int x]) (rest := []) ⟨hx, hb, hml, hown, hts⟩ (c_X3_isIn l D cy aM aA aB k v c (by omega) gl gh li hn fl lo hi x) (cwV 1 hts gX3_viewPut_X3_isIn rfl rfl rfl (by decide +kernel) ⟨(Nat.le_of_ble_eq_true rfl), (Nat.le_of_ble_eq_true rfl)⟩) (preV_W hK (hP.sub [0, 1, 2] rfl) 0 3 rfl rfl) rfl rfl hl.1 rfl (lv_room (Nat.le_of_ble_eq_true rfl)) dX3_viewPut_2 ⟨(Nat.le_of_ble_eq_true rfl), (Nat.le_of_ble_eq_true rfl)⟩) ?_
  refine b_eq (tgt := 17) hx hb dX3_viewPut_5 (by decide) (fun h5 => ?_) (fun h5 => ?_)
  · have hz : (if iM gl lo li gh hi hn x = true then vOf k v c x else OUT) = OUT := if_neg (by rw [h5]; decide)
    have e1 : vPT k v c (iM gl lo li gh hi hn x) x y = (c, k, v) := if_neg (by rw [h5]; decide)
    refine lv_ldc2 hx hb hown kc_106 dX3_viewPut_17 ?_
    exact ret_lM hx hb hr hlocks dX3_viewPut_20 hS (hz.symm) (by rw [e1]; exact hP)
  · have hz : (if iM gl lo li gh hi hn x = true then vOf k v c x else OUT) = vOf k v c x := if_pos h5
    have e1 : vPT k v c (iM gl lo li gh hi hn x) x y = (stC k c x, stK k c x, stV k v c x y) := if_pos h5
    refine lv_aload_n hx hb dX3_viewPut_8 rfl (lv_at hl 0 rfl) ?_
    refine lv_iload_n hx hb dX3_viewPut_9 rfl (lv_at hl 1 rfl) ?_
    refine lv_iload_n hx hb dX3_viewPut_10 rfl (lv_at hl 2 rfl) ?_
    refine go_M (va_runV (As := [.int x, .int y]) (rest := []) ⟨hx, hb, hml, hown, hts⟩ (c_X3_put l D cy aM aA aB k v c (by omega) gl gh li hn fl lo hi (by simp; omega) _ (by omega) x y) (cwV 2 hts gX3_viewPut_X3_put rfl rfl rfl (by decide +kernel) ⟨(Nat.le_of_ble_eq_true rfl), (Nat.le_of_ble_eq_true rfl)⟩) (preV_Z hK (hP.sub [0, 1, 2] rfl) 0 3 rfl rfl) rfl rfl hl.1 rfl (lv_room (Nat.le_of_ble_eq_true rfl)) dX3_viewPut_11 ⟨(Nat.le_of_ble_eq_true rfl), (Nat.le_of_ble_eq_true rfl)⟩) hS (fun q h => mA_sub [0, 1, 2] rfl hS.1 h) (fun H1 locs1 hB hzz hk hS => ?_)
    have hP : va_P D vwCl [(aM, .inr (3, [.ref aA, .ref aB, .int (nI (stC k c x)), .int (bI gl), .int (bI gh), .int (bI li), .int (bI hn), .int (bI fl), .int lo, .int hi])), (aA, .inl (cy, 64, .inl (stK k c x))), (aB, .inl (cy, 64, .inl (stV k v c x y)))] H1 := va_P.sub hB [0, 1, 2] rfl
    have hD : va_D (mA [aM, aA, aB] s.heap.size) [(aM, .inr (3, [.ref aA, .ref aB, .int (nI (stC k c x)), .int (bI gl), .int (bI gh), .int (bI li), .int (bI hn), .int (bI fl), .int lo, .int hi])), (aA, .inl (cy, 64, .inl (stK k c x))), (aB, .inl (cy, 64, .inl (stV k v c x y)))] := D_of ndw hAw
    clear hB
    generalize H1 = H at hP hS ⊢
    generalize locs1 = locs at hS ⊢
    refine lv_goto (tgt := 20) hx hb dX3_viewPut_14 (by decide) ?_
    exact ret_lM hx hb hr hlocks dX3_viewPut_20 hS (hz.symm) (by rw [e1]; exact hP)

def vMT (k v : Nat → Int32) (c : Nat) (h : Bool) (x : Int32) : Nat × (Nat → Int32) × (Nat → Int32) := if h = true then mdT k v c x else (c, k, v)

set_option maxHeartbeats 4000000 in
set_option maxRecDepth 100000 in
/-- viewRemove(k) -/
theorem c_X3_viewRemove (l : Launch) (D : va_G) (cy : ClassId) (aM aA aB : Nat) (k v : Nat → Int32) (c : Nat) (hc : c ≤ 64) (gl gh li hn fl : Bool) (lo hi : Int32) (nd : ([aM, aA, aB] : List Nat).Nodup) (sz : Nat) (x : Int32) : Met l yX3_viewRemove wsX3_viewRemove ({ frames := 2, cells := 0, slots := 0, locals := 45 } : Room) (pcZ D [(cy, .int)] [.ref aM, .int x] [(aM, .inr (3, [.ref aA, .ref aB, .int (nI c), .int (bI gl), .int (bI gh), .int (bI li), .int (bI hn), .int (bI fl), .int lo, .int hi])), (aA, .inl (cy, 64, .inl k)), (aB, .inl (cy, 64, .inl v))] sz) (qM (some (.long (if iM gl lo li gh hi hn x = true then vOf k v c x else NO))) (fun H => va_P D vwCl (mW cy aM aA aB ((vMT k v c (iM gl lo li gh hi hn x) x).2.1) ((vMT k v c (iM gl lo li gh hi hn x) x).2.2) ((vMT k v c (iM gl lo li gh hi hn x) x).1) gl gh li hn fl lo hi) H) (mA [aM, aA, aB] sz)) 0 0 (mA [aM, aA, aB] sz) := by
  refine met_Z (cc := cX3_viewRemove) (maxL := 2) (ret := (some .long)) (by decide +kernel) rfl (Nat.le_of_ble_eq_true rfl) ?_
  intro pM eM s mM below meth cM ls hx hb hr hts hown hlocks hml hnm hsz hK hP hl
  have hown : s.vm.findClass RX3 = some mM.cls := hown
  have hl : lv_has ls 2 [(0, .ref aM), (1, .int x)] := hl
  have kc_38 := hts (.constantLong RX3 38 (1099511627776)) (by decide +kernel)
  have hP : va_P D vwCl [(aM, .inr (3, [.ref aA, .ref aB, .int (nI c), .int (bI gl), .int (bI gh), .int (bI li), .int (bI hn), .int (bI fl), .int lo, .int hi])), (aA, .inl (cy, 64, .inl k)), (aB, .inl (cy, 64, .inl v))] s.heap := hP
  subst hsz
  have ndw := nd
  have hA : ∀ q : Nat, s.heap.size ≤ q → mA [aM, aA, aB] s.heap.size q := fun q h => Or.inr h
  have hAw : ∀ q ∈ ([aM, aA, aB] : List Nat), mA [aM, aA, aB] s.heap.size q := fun q h => Or.inl h
  have hS : va_S (mA [aM, aA, aB] s.heap.size) s.heap s.heap [] := va_S.rf
  have hD : va_D (mA [aM, aA, aB] s.heap.size) [(aM, .inr (3, [.ref aA, .ref aB, .int (nI c), .int (bI gl), .int (bI gh), .int (bI li), .int (bI hn), .int (bI fl), .int lo, .int hi])), (aA, .inl (cy, 64, .inl k)), (aB, .inl (cy, 64, .inl v))] := D_of ndw hAw
  simp only [List.nodup_cons, List.mem_cons, List.not_mem_nil, or_false, not_or, not_false_eq_true, List.nodup_nil, and_true] at nd
  refine lv_aload_n hx hb dX3_viewRemove_0 rfl (lv_at hl 0 rfl) ?_
  refine lv_iload_n hx hb dX3_viewRemove_1 rfl (lv_at hl 1 rfl) ?_
  refine go_R (va_runV (As := [.int x]) (rest := []) ⟨hx, hb, hml, hown, hts⟩ (c_X3_isIn l D cy aM aA aB k v c (by omega) gl gh li hn fl lo hi x) (cwV 1 hts gX3_viewRemove_X3_isIn rfl rfl rfl (by decide +kernel) ⟨(Nat.le_of_ble_eq_true rfl), (Nat.le_of_ble_eq_true rfl)⟩) (preV_W hK (hP.sub [0, 1, 2] rfl) 0 3 rfl rfl) rfl rfl hl.1 rfl (lv_room (Nat.le_of_ble_eq_true rfl)) dX3_viewRemove_2 ⟨(Nat.le_of_ble_eq_true rfl), (Nat.le_of_ble_eq_true rfl)⟩) ?_
  refine b_eq (tgt := 16) hx hb dX3_viewRemove_5 (by decide) (fun h5 => ?_) (fun h5 => ?_)
  · have hz : (if iM gl lo li gh hi hn x = true then vOf k v c x else NO) = NO := if_neg (by rw [h5]; decide)
    have e1 : vMT k v c (iM gl lo li gh hi hn x) x = (c, k, v) := if_neg (by rw [h5]; decide)
    refine lv_ldc2 hx hb hown kc_38 dX3_viewRemove_16 ?_
    exact ret_lM hx hb hr hlocks dX3_viewRemove_19 hS (hz.symm) (by rw [e1]; exact hP)
  · have hz : (if iM gl lo li gh hi hn x = true then vOf k v c x else NO) = vOf k v c x := if_pos h5
    have e1 : vMT k v c (iM gl lo li gh hi hn x) x = mdT k v c x := if_pos h5
    refine lv_aload_n hx hb dX3_viewRemove_8 rfl (lv_at hl 0 rfl) ?_
    refine lv_iload_n hx hb dX3_viewRemove_9 rfl (lv_at hl 1 rfl) ?_
    refine go_M (va_runV (As := [.int x]) (rest := []) ⟨hx, hb, hml, hown, hts⟩ (c_X3_remove l D cy aM aA aB k v c (by omega) gl gh li hn fl lo hi (by simp; omega) _ x) (cwV 1 hts gX3_viewRemove_X3_remove rfl rfl rfl (by decide +kernel) ⟨(Nat.le_of_ble_eq_true rfl), (Nat.le_of_ble_eq_true rfl)⟩) (preV_Z hK (hP.sub [0, 1, 2] rfl) 0 3 rfl rfl) rfl rfl hl.1 rfl (lv_room (Nat.le_of_ble_eq_true rfl)) dX3_viewRemove_10 ⟨(Nat.le_of_ble_eq_true rfl), (Nat.le_of_ble_eq_true rfl)⟩) hS (fun q h => mA_sub [0, 1, 2] rfl hS.1 h) (fun H1 locs1 hB hzz hk hS => ?_)
    have hP : va_P D vwCl [(aM, .inr (3, [.ref aA, .ref aB, .int (nI ((mdT k v c x).1)), .int (bI gl), .int (bI gh), .int (bI li), .int (bI hn), .int (bI fl), .int lo, .int hi])), (aA, .inl (cy, 64, .inl ((mdT k v c x).2.1))), (aB, .inl (cy, 64, .inl ((mdT k v c x).2.2)))] H1 := va_P.sub hB [0, 1, 2] rfl
    have hD : va_D (mA [aM, aA, aB] s.heap.size) [(aM, .inr (3, [.ref aA, .ref aB, .int (nI ((mdT k v c x).1)), .int (bI gl), .int (bI gh), .int (bI li), .int (bI hn), .int (bI fl), .int lo, .int hi])), (aA, .inl (cy, 64, .inl ((mdT k v c x).2.1))), (aB, .inl (cy, 64, .inl ((mdT k v c x).2.2)))] := D_of ndw hAw
    clear hB
    generalize H1 = H at hP hS ⊢
    generalize locs1 = locs at hS ⊢
    refine lv_goto (tgt := 19) hx hb dX3_viewRemove_13 (by decide) ?_
    exact ret_lM hx hb hr hlocks dX3_viewRemove_19 hS (hz.symm) (by rw [e1]; exact hP)

set_option maxHeartbeats 4000000 in
set_option maxRecDepth 100000 in
/-- poll(last) -/
theorem c_X3_poll (l : Launch) (D : va_G) (cy : ClassId) (aM aA aB : Nat) (k v : Nat → Int32) (c : Nat) (hc : c ≤ 64) (gl gh li hn fl : Bool) (lo hi : Int32) (nd : ([aM, aA, aB] : List Nat).Nodup) (sz : Nat) (g : Bool) : Met l yX3_poll wsX3_poll ({ frames := 1, cells := 0, slots := 0, locals := 22 } : Room) (pcZ D [(cy, .int)] [.ref aM, .int (bI g)] [(aM, .inr (3, [.ref aA, .ref aB, .int (nI c), .int (bI gl), .int (bI gh), .int (bI li), .int (bI hn), .int (bI fl), .int lo, .int hi])), (aA, .inl (cy, 64, .inl k)), (aB, .inl (cy, 64, .inl v))] sz) (qM (some (.long (mpA k g 0 c))) (fun H => va_P D vwCl (mW cy aM aA aB ((mpP k v c g 0 c).2.1) ((mpP k v c g 0 c).2.2) ((mpP k v c g 0 c).1) gl gh li hn fl lo hi) H) (mA [aM, aA, aB] sz)) 0 0 (mA [aM, aA, aB] sz) := by
  refine met_Z (cc := cX3_poll) (maxL := 4) (ret := (some .long)) (by decide +kernel) rfl (Nat.le_of_ble_eq_true rfl) ?_
  intro pM eM s mM below meth cM ls hx hb hr hts hown hlocks hml hnm hsz hK hP hl
  have hown : s.vm.findClass RX3 = some mM.cls := hown
  have hl : lv_has ls 4 [(0, .ref aM), (1, .int (bI g))] := hl
  have hin_X3 : ∀ w ∈ wsX30, w ∈ wsX3_poll := by decide +kernel
  have kf_16 := hts (.fieldLink RX3 16 "OrderedDeskModel" "many" "I") (by decide +kernel)
  have kf_9 := hts (.fieldLink RX3 9 "OrderedDeskModel" "key" "[I") (by decide +kernel)
  have kc_38 := hts (.constantLong RX3 38 (1099511627776)) (by decide +kernel)
  have hP : va_P D vwCl [(aM, .inr (3, [.ref aA, .ref aB, .int (nI c), .int (bI gl), .int (bI gh), .int (bI li), .int (bI hn), .int (bI fl), .int lo, .int hi])), (aA, .inl (cy, 64, .inl k)), (aB, .inl (cy, 64, .inl v))] s.heap := hP
  subst hsz
  have ndw := nd
  have hA : ∀ q : Nat, s.heap.size ≤ q → mA [aM, aA, aB] s.heap.size q := fun q h => Or.inr h
  have hAw : ∀ q ∈ ([aM, aA, aB] : List Nat), mA [aM, aA, aB] s.heap.size q := fun q h => Or.inl h
  have hS : va_S (mA [aM, aA, aB] s.heap.size) s.heap s.heap [] := va_S.rf
  have hD : va_D (mA [aM, aA, aB] s.heap.size) [(aM, .inr (3, [.ref aA, .ref aB, .int (nI c), .int (bI gl), .int (bI gh), .int (bI li), .int (bI hn), .int (bI fl), .int lo, .int hi])), (aA, .inl (cy, 64, .inl k)), (aB, .inl (cy, 64, .inl v))] := D_of ndw hAw
  simp only [List.nodup_cons, List.mem_cons, List.not_mem_nil, or_false, not_or, not_false_eq_true, List.nodup_nil, and_true] at nd
  refine lv_aload_n hx hb dX3_poll_0 rfl (lv_at hl 0 rfl) ?_
  refine va_get (ci := 3) (v := .int (nI c)) (C := RX3) (T := TX3) (N := 10) hx hb hts hin_X3 hown hK hP 0 rfl rfl 2 (by decide) kf_16 (fun _ h9 => h9) rfl dX3_poll_1 ?_
  refine lv_if_ne (tgt := 11) hx hb dX3_poll_4 (by decide) (fun h4 => ?_) (fun h4 => ?_)
  · have hc0 : ¬ 0 = c := fun q => h4 (by rw [← q]; rfl)
    have hz : mpA k g 0 c = (k (if g = true then c - 1 else 0)).toInt64 := if_neg hc0
    have e1 : mpP k v c g 0 c = (c - 1, delA k (if g = true then c - 1 else 0) c, delA v (if g = true then c - 1 else 0) c) := if_neg hc0
    refine lv_iload_n hx hb dX3_poll_11 rfl (lv_at hl 1 rfl) ?_
    refine b_eq (tgt := 24) hx hb dX3_poll_12 (by decide) (fun h12 => ?_) (fun h12 => ?_)
    · rw [if_neg (by rw [h12]; decide)] at hz e1
      refine lv_iconst (v := nI 0) hx hb dX3_poll_24 (by decide) ?_
      refine lv_istore_n (lv' := [(2, .int (nI 0)), (0, .ref aM), (1, .int (bI g))]) hx hb dX3_poll_25 rfl hl (by decide) rfl (fun ls hl => ?_)
      refine lv_aload_n hx hb dX3_poll_26 rfl (lv_at hl 1 rfl) ?_
      refine va_get (ci := 3) (v := .ref aA) (C := RX3) (T := TX3) (N := 10) hx hb hts hin_X3 hown hK hP 0 rfl rfl 0 (by decide) kf_9 (fun _ h9 => h9) rfl dX3_poll_27 ?_
      refine lv_iload_n hx hb dX3_poll_30 rfl (lv_at hl 0 rfl) ?_
      refine a_ld hx hb hK hP 1 0 rfl rfl (by omega) (by decide) dX3_poll_31 ?_
      refine lv_istore_n (lv' := [(3, .int (k 0)), (2, .int (nI 0)), (0, .ref aM), (1, .int (bI g))]) hx hb dX3_poll_32 rfl hl (by decide) rfl (fun ls hl => ?_)
      refine lv_aload_n hx hb dX3_poll_33 rfl (lv_at hl 2 rfl) ?_
      refine lv_iload_n hx hb dX3_poll_34 rfl (lv_at hl 1 rfl) ?_
      refine go_V (va_runV (As := [.int (nI 0)]) (rest := []) ⟨hx, hb, hml, hown, hts⟩ (c_X3_delete l D cy aM aA aB k v c (by omega) gl gh li hn fl lo hi (by simp; omega) _ 0 (by omega)) (cwV 1 hts gX3_poll_X3_delete rfl rfl rfl (by decide +kernel) ⟨(Nat.le_of_ble_eq_true rfl), (Nat.le_of_ble_eq_true rfl)⟩) (preV_Z hK (hP.sub [0, 1, 2] rfl) 0 3 rfl rfl) rfl rfl hl.1 rfl (lv_room (Nat.le_of_ble_eq_true rfl)) dX3_poll_35 ⟨(Nat.le_of_ble_eq_true rfl), (Nat.le_of_ble_eq_true rfl)⟩) hS (fun q h => mA_sub [0, 1, 2] rfl hS.1 h) (fun H1 locs1 hB hzz hk hS => ?_)
      have hP : va_P D vwCl [(aM, .inr (3, [.ref aA, .ref aB, .int (nI (c - 1)), .int (bI gl), .int (bI gh), .int (bI li), .int (bI hn), .int (bI fl), .int lo, .int hi])), (aA, .inl (cy, 64, .inl (delA k 0 c))), (aB, .inl (cy, 64, .inl (delA v 0 c)))] H1 := va_P.sub hB [0, 1, 2] rfl
      have hD : va_D (mA [aM, aA, aB] s.heap.size) [(aM, .inr (3, [.ref aA, .ref aB, .int (nI (c - 1)), .int (bI gl), .int (bI gh), .int (bI li), .int (bI hn), .int (bI fl), .int lo, .int hi])), (aA, .inl (cy, 64, .inl (delA k 0 c))), (aB, .inl (cy, 64, .inl (delA v 0 c)))] := D_of ndw hAw
      clear hB
      generalize H1 = H at hP hS ⊢
      generalize locs1 = locs at hS ⊢
      refine lv_iload_n hx hb dX3_poll_38 rfl (lv_at hl 0 rfl) ?_
      refine lv_i2l hx hb dX3_poll_39 rfl ?_
      exact ret_lM hx hb hr hlocks dX3_poll_40 hS (by rw [hz]) (by rw [e1]; exact hP)
    · rw [if_pos h12] at hz e1
      refine lv_aload_n hx hb dX3_poll_15 rfl (lv_at hl 0 rfl) ?_
      refine va_get (ci := 3) (v := .int (nI c)) (C := RX3) (T := TX3) (N := 10) hx hb hts hin_X3 hown hK hP 0 rfl rfl 2 (by decide) kf_16 (fun _ h9 => h9) rfl dX3_poll_16 ?_
      refine lv_iconst (v := nI 1) hx hb dX3_poll_19 (by decide) ?_
      refine lv_isub hx hb dX3_poll_20 ?_
      refine top_i (y := nI (c - 1)) (pk_sub (by omega)) ?_
      refine lv_goto (tgt := 25) hx hb dX3_poll_21 (by decide) ?_
      refine lv_istore_n (lv' := [(2, .int (nI (c - 1))), (0, .ref aM), (1, .int (bI g))]) hx hb dX3_poll_25 rfl hl (by decide) rfl (fun ls hl => ?_)
      refine lv_aload_n hx hb dX3_poll_26 rfl (lv_at hl 1 rfl) ?_
      refine va_get (ci := 3) (v := .ref aA) (C := RX3) (T := TX3) (N := 10) hx hb hts hin_X3 hown hK hP 0 rfl rfl 0 (by decide) kf_9 (fun _ h9 => h9) rfl dX3_poll_27 ?_
      refine lv_iload_n hx hb dX3_poll_30 rfl (lv_at hl 0 rfl) ?_
      refine a_ld hx hb hK hP 1 0 rfl rfl (by omega) (by decide) dX3_poll_31 ?_
      refine lv_istore_n (lv' := [(3, .int (k (c - 1))), (2, .int (nI (c - 1))), (0, .ref aM), (1, .int (bI g))]) hx hb dX3_poll_32 rfl hl (by decide) rfl (fun ls hl => ?_)
      refine lv_aload_n hx hb dX3_poll_33 rfl (lv_at hl 2 rfl) ?_
      refine lv_iload_n hx hb dX3_poll_34 rfl (lv_at hl 1 rfl) ?_
      refine go_V (va_runV (As := [.int (nI (c - 1))]) (rest := []) ⟨hx, hb, hml, hown, hts⟩ (c_X3_delete l D cy aM aA aB k v c (by omega) gl gh li hn fl lo hi (by simp; omega) _ (c - 1) (by omega)) (cwV 1 hts gX3_poll_X3_delete rfl rfl rfl (by decide +kernel) ⟨(Nat.le_of_ble_eq_true rfl), (Nat.le_of_ble_eq_true rfl)⟩) (preV_Z hK (hP.sub [0, 1, 2] rfl) 0 3 rfl rfl) rfl rfl hl.1 rfl (lv_room (Nat.le_of_ble_eq_true rfl)) dX3_poll_35 ⟨(Nat.le_of_ble_eq_true rfl), (Nat.le_of_ble_eq_true rfl)⟩) hS (fun q h => mA_sub [0, 1, 2] rfl hS.1 h) (fun H1 locs1 hB hzz hk hS => ?_)
      have hP : va_P D vwCl [(aM, .inr (3, [.ref aA, .ref aB, .int (nI (c - 1)), .int (bI gl), .int (bI gh), .int (bI li), .int (bI hn), .int (bI fl), .int lo, .int hi])), (aA, .inl (cy, 64, .inl (delA k (c - 1) c))), (aB, .inl (cy, 64, .inl (delA v (c - 1) c)))] H1 := va_P.sub hB [0, 1, 2] rfl
      have hD : va_D (mA [aM, aA, aB] s.heap.size) [(aM, .inr (3, [.ref aA, .ref aB, .int (nI (c - 1)), .int (bI gl), .int (bI gh), .int (bI li), .int (bI hn), .int (bI fl), .int lo, .int hi])), (aA, .inl (cy, 64, .inl (delA k (c - 1) c))), (aB, .inl (cy, 64, .inl (delA v (c - 1) c)))] := D_of ndw hAw
      clear hB
      generalize H1 = H at hP hS ⊢
      generalize locs1 = locs at hS ⊢
      refine lv_iload_n hx hb dX3_poll_38 rfl (lv_at hl 0 rfl) ?_
      refine lv_i2l hx hb dX3_poll_39 rfl ?_
      exact ret_lM hx hb hr hlocks dX3_poll_40 hS (by rw [hz]) (by rw [e1]; exact hP)
  · have hc0 : 0 = c := by rw [show (0 : Int32) = nI 0 from rfl] at h4; exact ((nI_eq (by omega) (by omega)).mp h4).symm
    have hz : mpA k g 0 c = NO := if_pos hc0
    have e1 : mpP k v c g 0 c = (c, k, v) := if_pos hc0
    refine lv_ldc2 hx hb hown kc_38 dX3_poll_7 ?_
    exact ret_lM hx hb hr hlocks dX3_poll_10 hS (by rw [hz]) (by rw [e1]; exact hP)

set_option maxHeartbeats 4000000 in
set_option maxRecDepth 100000 in
/-- viewPoll(last) -/
theorem c_X3_viewPoll (l : Launch) (D : va_G) (cy : ClassId) (aM aA aB : Nat) (k v : Nat → Int32) (c : Nat) (hc : c ≤ 64) (gl gh li hn fl : Bool) (lo hi : Int32) (nd : ([aM, aA, aB] : List Nat).Nodup) (sz : Nat) (g : Bool) : Met l yX3_viewPoll wsX3_viewPoll ({ frames := 3, cells := 0, slots := 0, locals := 63 } : Room) (pcZ D [(cy, .int)] [.ref aM, .int (bI g)] [(aM, .inr (3, [.ref aA, .ref aB, .int (nI c), .int (bI gl), .int (bI gh), .int (bI li), .int (bI hn), .int (bI fl), .int lo, .int hi])), (aA, .inl (cy, 64, .inl k)), (aB, .inl (cy, 64, .inl v))] sz) (qM (some (.long (mpA k (g != fl) (mF k c gl lo li gh hi hn) (mE k c gl lo li gh hi hn)))) (fun H => va_P D vwCl (mW cy aM aA aB ((mpP k v c (g != fl) (mF k c gl lo li gh hi hn) (mE k c gl lo li gh hi hn)).2.1) ((mpP k v c (g != fl) (mF k c gl lo li gh hi hn) (mE k c gl lo li gh hi hn)).2.2) ((mpP k v c (g != fl) (mF k c gl lo li gh hi hn) (mE k c gl lo li gh hi hn)).1) gl gh li hn fl lo hi) H) (mA [aM, aA, aB] sz)) 0 0 (mA [aM, aA, aB] sz) := by
  refine met_Z (cc := cX3_viewPoll) (maxL := 6) (ret := (some .long)) (by decide +kernel) rfl (Nat.le_of_ble_eq_true rfl) ?_
  intro pM eM s mM below meth cM ls hx hb hr hts hown hlocks hml hnm hsz hK hP hl
  have hown : s.vm.findClass RX3 = some mM.cls := hown
  have hl : lv_has ls 6 [(0, .ref aM), (1, .int (bI g))] := hl
  have hin_X3 : ∀ w ∈ wsX30, w ∈ wsX3_viewPoll := by decide +kernel
  have kf_59 := hts (.fieldLink RX3 59 "OrderedDeskModel" "falls" "Z") (by decide +kernel)
  have kf_9 := hts (.fieldLink RX3 9 "OrderedDeskModel" "key" "[I") (by decide +kernel)
  have kc_38 := hts (.constantLong RX3 38 (1099511627776)) (by decide +kernel)
  have hP : va_P D vwCl [(aM, .inr (3, [.ref aA, .ref aB, .int (nI c), .int (bI gl), .int (bI gh), .int (bI li), .int (bI hn), .int (bI fl), .int lo, .int hi])), (aA, .inl (cy, 64, .inl k)), (aB, .inl (cy, 64, .inl v))] s.heap := hP
  subst hsz
  have ndw := nd
  have hA : ∀ q : Nat, s.heap.size ≤ q → mA [aM, aA, aB] s.heap.size q := fun q h => Or.inr h
  have hAw : ∀ q ∈ ([aM, aA, aB] : List Nat), mA [aM, aA, aB] s.heap.size q := fun q h => Or.inl h
  have hS : va_S (mA [aM, aA, aB] s.heap.size) s.heap s.heap [] := va_S.rf
  have hD : va_D (mA [aM, aA, aB] s.heap.size) [(aM, .inr (3, [.ref aA, .ref aB, .int (nI c), .int (bI gl), .int (bI gh), .int (bI li), .int (bI hn), .int (bI fl), .int lo, .int hi])), (aA, .inl (cy, 64, .inl k)), (aB, .inl (cy, 64, .inl v))] := D_of ndw hAw
  simp only [List.nodup_cons, List.mem_cons, List.not_mem_nil, or_false, not_or, not_false_eq_true, List.nodup_nil, and_true] at nd
  have q1 := mF_le k c gl lo li gh hi hn
  have q2 := mE_le k c gl lo li gh hi hn
  have q3 := mFE k c gl lo li gh hi hn
  refine lv_aload_n hx hb dX3_viewPoll_0 rfl (lv_at hl 0 rfl) ?_
  refine go_R (va_runV (As := []) (rest := []) ⟨hx, hb, hml, hown, hts⟩ (c_X3_first l D cy aM aA aB k v c (by omega) gl gh li hn fl lo hi) (cwV 0 hts gX3_viewPoll_X3_first rfl rfl rfl (by decide +kernel) ⟨(Nat.le_of_ble_eq_true rfl), (Nat.le_of_ble_eq_true rfl)⟩) (preV_W hK (hP.sub [0, 1, 2] rfl) 0 3 rfl rfl) rfl rfl hl.1 rfl (lv_room (Nat.le_of_ble_eq_true rfl)) dX3_viewPoll_1 ⟨(Nat.le_of_ble_eq_true rfl), (Nat.le_of_ble_eq_true rfl)⟩) ?_
  refine lv_istore_n (lv' := [(2, .int (nI (mF k c gl lo li gh hi hn))), (0, .ref aM), (1, .int (bI g))]) hx hb dX3_viewPoll_4 rfl hl (by decide) rfl (fun ls hl => ?_)
  refine lv_aload_n hx hb dX3_viewPoll_5 rfl (lv_at hl 1 rfl) ?_
  refine go_R (va_runV (As := []) (rest := []) ⟨hx, hb, hml, hown, hts⟩ (c_X3_behind l D cy aM aA aB k v c (by omega) gl gh li hn fl lo hi) (cwV 0 hts gX3_viewPoll_X3_behind rfl rfl rfl (by decide +kernel) ⟨(Nat.le_of_ble_eq_true rfl), (Nat.le_of_ble_eq_true rfl)⟩) (preV_W hK (hP.sub [0, 1, 2] rfl) 0 3 rfl rfl) rfl rfl hl.1 rfl (lv_room (Nat.le_of_ble_eq_true rfl)) dX3_viewPoll_6 ⟨(Nat.le_of_ble_eq_true rfl), (Nat.le_of_ble_eq_true rfl)⟩) ?_
  refine lv_istore_n (lv' := [(3, .int (nI (mE k c gl lo li gh hi hn))), (2, .int (nI (mF k c gl lo li gh hi hn))), (0, .ref aM), (1, .int (bI g))]) hx hb dX3_viewPoll_9 rfl hl (by decide) rfl (fun ls hl => ?_)
  refine lv_iload_n hx hb dX3_viewPoll_10 rfl (lv_at hl 1 rfl) ?_
  refine lv_iload_n hx hb dX3_viewPoll_11 rfl (lv_at hl 0 rfl) ?_
  refine n_ne (tgt := 19) (by omega) (by omega) hx hb dX3_viewPoll_12 (by decide) (fun h12 => ?_) (fun h12 => ?_)
  · have hz : mpA k (g != fl) (mF k c gl lo li gh hi hn) (mE k c gl lo li gh hi hn) = (k (if (g != fl) = true then (mE k c gl lo li gh hi hn) - 1 else (mF k c gl lo li gh hi hn))).toInt64 := if_neg h12
    have e1 : mpP k v c (g != fl) (mF k c gl lo li gh hi hn) (mE k c gl lo li gh hi hn) = (c - 1, delA k (if (g != fl) = true then (mE k c gl lo li gh hi hn) - 1 else (mF k c gl lo li gh hi hn)) c, delA v (if (g != fl) = true then (mE k c gl lo li gh hi hn) - 1 else (mF k c gl lo li gh hi hn)) c) := if_neg h12
    refine lv_iload_n hx hb dX3_viewPoll_19 rfl (lv_at hl 3 rfl) ?_
    refine lv_aload_n hx hb dX3_viewPoll_20 rfl (lv_at hl 2 rfl) ?_
    refine va_get (ci := 3) (v := .int (bI fl)) (C := RX3) (T := TX3) (N := 10) hx hb hts hin_X3 hown hK hP 0 rfl rfl 7 (by decide) kf_59 (fun _ h9 => h9) rfl dX3_viewPoll_21 ?_
    refine lv_icmp_eq (tgt := 33) hx hb dX3_viewPoll_24 (by decide) (fun h24 => ?_) (fun h24 => ?_)
    · rw [if_neg (by rw [bI_inj.mp h24]; simp)] at hz e1
      refine lv_iload_n hx hb dX3_viewPoll_33 rfl (lv_at hl 1 rfl) ?_
      refine lv_istore (lv' := [(4, .int (nI (mF k c gl lo li gh hi hn))), (3, .int (nI (mE k c gl lo li gh hi hn))), (2, .int (nI (mF k c gl lo li gh hi hn))), (0, .ref aM), (1, .int (bI g))]) hx hb dX3_viewPoll_34 hl (by decide) rfl (fun ls hl => ?_)
      refine lv_aload_n hx hb dX3_viewPoll_36 rfl (lv_at hl 3 rfl) ?_
      refine va_get (ci := 3) (v := .ref aA) (C := RX3) (T := TX3) (N := 10) hx hb hts hin_X3 hown hK hP 0 rfl rfl 0 (by decide) kf_9 (fun _ h9 => h9) rfl dX3_viewPoll_37 ?_
      refine lv_iload hx hb dX3_viewPoll_40 (lv_at hl 0 rfl) ?_
      refine a_ld hx hb hK hP 1 0 rfl rfl (by omega) (by decide) dX3_viewPoll_42 ?_
      refine lv_istore (lv' := [(5, .int (k (mF k c gl lo li gh hi hn))), (4, .int (nI (mF k c gl lo li gh hi hn))), (3, .int (nI (mE k c gl lo li gh hi hn))), (2, .int (nI (mF k c gl lo li gh hi hn))), (0, .ref aM), (1, .int (bI g))]) hx hb dX3_viewPoll_43 hl (by decide) rfl (fun ls hl => ?_)
      refine lv_aload_n hx hb dX3_viewPoll_45 rfl (lv_at hl 4 rfl) ?_
      refine lv_iload hx hb dX3_viewPoll_46 (lv_at hl 1 rfl) ?_
      refine go_V (va_runV (As := [.int (nI (mF k c gl lo li gh hi hn))]) (rest := []) ⟨hx, hb, hml, hown, hts⟩ (c_X3_delete l D cy aM aA aB k v c (by omega) gl gh li hn fl lo hi (by simp; omega) _ (mF k c gl lo li gh hi hn) (by omega)) (cwV 1 hts gX3_viewPoll_X3_delete rfl rfl rfl (by decide +kernel) ⟨(Nat.le_of_ble_eq_true rfl), (Nat.le_of_ble_eq_true rfl)⟩) (preV_Z hK (hP.sub [0, 1, 2] rfl) 0 3 rfl rfl) rfl rfl hl.1 rfl (lv_room (Nat.le_of_ble_eq_true rfl)) dX3_viewPoll_48 ⟨(Nat.le_of_ble_eq_true rfl), (Nat.le_of_ble_eq_true rfl)⟩) hS (fun q h => mA_sub [0, 1, 2] rfl hS.1 h) (fun H1 locs1 hB hzz hk hS => ?_)
      have hP : va_P D vwCl [(aM, .inr (3, [.ref aA, .ref aB, .int (nI (c - 1)), .int (bI gl), .int (bI gh), .int (bI li), .int (bI hn), .int (bI fl), .int lo, .int hi])), (aA, .inl (cy, 64, .inl (delA k (mF k c gl lo li gh hi hn) c))), (aB, .inl (cy, 64, .inl (delA v (mF k c gl lo li gh hi hn) c)))] H1 := va_P.sub hB [0, 1, 2] rfl
      have hD : va_D (mA [aM, aA, aB] s.heap.size) [(aM, .inr (3, [.ref aA, .ref aB, .int (nI (c - 1)), .int (bI gl), .int (bI gh), .int (bI li), .int (bI hn), .int (bI fl), .int lo, .int hi])), (aA, .inl (cy, 64, .inl (delA k (mF k c gl lo li gh hi hn) c))), (aB, .inl (cy, 64, .inl (delA v (mF k c gl lo li gh hi hn) c)))] := D_of ndw hAw
      clear hB
      generalize H1 = H at hP hS ⊢
      generalize locs1 = locs at hS ⊢
      refine lv_iload hx hb dX3_viewPoll_51 (lv_at hl 0 rfl) ?_
      refine lv_i2l hx hb dX3_viewPoll_53 rfl ?_
      exact ret_lM hx hb hr hlocks dX3_viewPoll_54 hS (by rw [hz]) (by rw [e1]; exact hP)
    · rw [if_pos (by simpa using fun q => h24 (by rw [q]))] at hz e1
      refine lv_iload_n hx hb dX3_viewPoll_27 rfl (lv_at hl 0 rfl) ?_
      refine lv_iconst (v := nI 1) hx hb dX3_viewPoll_28 (by decide) ?_
      refine lv_isub hx hb dX3_viewPoll_29 ?_
      refine top_i (y := nI ((mE k c gl lo li gh hi hn) - 1)) (pk_sub (by omega)) ?_
      refine lv_goto (tgt := 34) hx hb dX3_viewPoll_30 (by decide) ?_
      refine lv_istore (lv' := [(4, .int (nI ((mE k c gl lo li gh hi hn) - 1))), (3, .int (nI (mE k c gl lo li gh hi hn))), (2, .int (nI (mF k c gl lo li gh hi hn))), (0, .ref aM), (1, .int (bI g))]) hx hb dX3_viewPoll_34 hl (by decide) rfl (fun ls hl => ?_)
      refine lv_aload_n hx hb dX3_viewPoll_36 rfl (lv_at hl 3 rfl) ?_
      refine va_get (ci := 3) (v := .ref aA) (C := RX3) (T := TX3) (N := 10) hx hb hts hin_X3 hown hK hP 0 rfl rfl 0 (by decide) kf_9 (fun _ h9 => h9) rfl dX3_viewPoll_37 ?_
      refine lv_iload hx hb dX3_viewPoll_40 (lv_at hl 0 rfl) ?_
      refine a_ld hx hb hK hP 1 0 rfl rfl (by omega) (by decide) dX3_viewPoll_42 ?_
      refine lv_istore (lv' := [(5, .int (k ((mE k c gl lo li gh hi hn) - 1))), (4, .int (nI ((mE k c gl lo li gh hi hn) - 1))), (3, .int (nI (mE k c gl lo li gh hi hn))), (2, .int (nI (mF k c gl lo li gh hi hn))), (0, .ref aM), (1, .int (bI g))]) hx hb dX3_viewPoll_43 hl (by decide) rfl (fun ls hl => ?_)
      refine lv_aload_n hx hb dX3_viewPoll_45 rfl (lv_at hl 4 rfl) ?_
      refine lv_iload hx hb dX3_viewPoll_46 (lv_at hl 1 rfl) ?_
      refine go_V (va_runV (As := [.int (nI ((mE k c gl lo li gh hi hn) - 1))]) (rest := []) ⟨hx, hb, hml, hown, hts⟩ (c_X3_delete l D cy aM aA aB k v c (by omega) gl gh li hn fl lo hi (by simp; omega) _ ((mE k c gl lo li gh hi hn) - 1) (by omega)) (cwV 1 hts gX3_viewPoll_X3_delete rfl rfl rfl (by decide +kernel) ⟨(Nat.le_of_ble_eq_true rfl), (Nat.le_of_ble_eq_true rfl)⟩) (preV_Z hK (hP.sub [0, 1, 2] rfl) 0 3 rfl rfl) rfl rfl hl.1 rfl (lv_room (Nat.le_of_ble_eq_true rfl)) dX3_viewPoll_48 ⟨(Nat.le_of_ble_eq_true rfl), (Nat.le_of_ble_eq_true rfl)⟩) hS (fun q h => mA_sub [0, 1, 2] rfl hS.1 h) (fun H1 locs1 hB hzz hk hS => ?_)
      have hP : va_P D vwCl [(aM, .inr (3, [.ref aA, .ref aB, .int (nI (c - 1)), .int (bI gl), .int (bI gh), .int (bI li), .int (bI hn), .int (bI fl), .int lo, .int hi])), (aA, .inl (cy, 64, .inl (delA k ((mE k c gl lo li gh hi hn) - 1) c))), (aB, .inl (cy, 64, .inl (delA v ((mE k c gl lo li gh hi hn) - 1) c)))] H1 := va_P.sub hB [0, 1, 2] rfl
      have hD : va_D (mA [aM, aA, aB] s.heap.size) [(aM, .inr (3, [.ref aA, .ref aB, .int (nI (c - 1)), .int (bI gl), .int (bI gh), .int (bI li), .int (bI hn), .int (bI fl), .int lo, .int hi])), (aA, .inl (cy, 64, .inl (delA k ((mE k c gl lo li gh hi hn) - 1) c))), (aB, .inl (cy, 64, .inl (delA v ((mE k c gl lo li gh hi hn) - 1) c)))] := D_of ndw hAw
      clear hB
      generalize H1 = H at hP hS ⊢
      generalize locs1 = locs at hS ⊢
      refine lv_iload hx hb dX3_viewPoll_51 (lv_at hl 0 rfl) ?_
      refine lv_i2l hx hb dX3_viewPoll_53 rfl ?_
      exact ret_lM hx hb hr hlocks dX3_viewPoll_54 hS (by rw [hz]) (by rw [e1]; exact hP)
  · have hz : mpA k (g != fl) (mF k c gl lo li gh hi hn) (mE k c gl lo li gh hi hn) = NO := if_pos h12
    have e1 : mpP k v c (g != fl) (mF k c gl lo li gh hi hn) (mE k c gl lo li gh hi hn) = (c, k, v) := if_pos h12
    refine lv_ldc2 hx hb hown kc_38 dX3_viewPoll_15 ?_
    exact ret_lM hx hb hr hlocks dX3_viewPoll_18 hS (by rw [hz]) (by rw [e1]; exact hP)

set_option maxHeartbeats 4000000 in
set_option maxRecDepth 100000 in
/-- again() -/
theorem c_X3_again (l : Launch) (D : va_G) (cy : ClassId) (aM aA aB : Nat) (k v : Nat → Int32) (c : Nat) (hc : c ≤ 64) (gl gh li hn fl : Bool) (lo hi : Int32) (nd : ([aM, aA, aB] : List Nat).Nodup) (sz : Nat) : Met l yX3_again wsX3_again ({ frames := 1, cells := 0, slots := 0, locals := 20 } : Room) (pcZ D [(cy, .int)] [.ref aM] [(aM, .inr (3, [.ref aA, .ref aB, .int (nI c), .int (bI gl), .int (bI gh), .int (bI li), .int (bI hn), .int (bI fl), .int lo, .int hi])), (aA, .inl (cy, 64, .inl k)), (aB, .inl (cy, 64, .inl v))] sz) (qM (some (.int (if 100 < c then (-1) else nI c))) (fun H => va_P D vwCl (mW cy aM aA aB k v c (if 100 < c then gl else false) (if 100 < c then gh else false) li hn (if 100 < c then fl else false) lo hi) H) (mA [aM, aA, aB] sz)) 0 0 (mA [aM, aA, aB] sz) := by
  refine met_Z (cc := cX3_again) (maxL := 1) (ret := (some .int)) (by decide +kernel) rfl (Nat.le_of_ble_eq_true rfl) ?_
  intro pM eM s mM below meth cM ls hx hb hr hts hown hlocks hml hnm hsz hK hP hl
  have hown : s.vm.findClass RX3 = some mM.cls := hown
  have hl : lv_has ls 1 [(0, .ref aM)] := hl
  have hin_X3 : ∀ w ∈ wsX30, w ∈ wsX3_again := by decide +kernel
  have kf_16 := hts (.fieldLink RX3 16 "OrderedDeskModel" "many" "I") (by decide +kernel)
  have hP : va_P D vwCl [(aM, .inr (3, [.ref aA, .ref aB, .int (nI c), .int (bI gl), .int (bI gh), .int (bI li), .int (bI hn), .int (bI fl), .int lo, .int hi])), (aA, .inl (cy, 64, .inl k)), (aB, .inl (cy, 64, .inl v))] s.heap := hP
  subst hsz
  have ndw := nd
  have hA : ∀ q : Nat, s.heap.size ≤ q → mA [aM, aA, aB] s.heap.size q := fun q h => Or.inr h
  have hAw : ∀ q ∈ ([aM, aA, aB] : List Nat), mA [aM, aA, aB] s.heap.size q := fun q h => Or.inl h
  have hS : va_S (mA [aM, aA, aB] s.heap.size) s.heap s.heap [] := va_S.rf
  have hD : va_D (mA [aM, aA, aB] s.heap.size) [(aM, .inr (3, [.ref aA, .ref aB, .int (nI c), .int (bI gl), .int (bI gh), .int (bI li), .int (bI hn), .int (bI fl), .int lo, .int hi])), (aA, .inl (cy, 64, .inl k)), (aB, .inl (cy, 64, .inl v))] := D_of ndw hAw
  simp only [List.nodup_cons, List.mem_cons, List.not_mem_nil, or_false, not_or, not_false_eq_true, List.nodup_nil, and_true] at nd
  refine lv_aload_n hx hb dX3_again_0 rfl (lv_at hl 0 rfl) ?_
  refine va_get (ci := 3) (v := .int (nI c)) (C := RX3) (T := TX3) (N := 10) hx hb hts hin_X3 hown hK hP 0 rfl rfl 2 (by decide) kf_16 (fun _ h9 => h9) rfl dX3_again_1 ?_
  refine lv_bipush (v := nI 100) hx hb dX3_again_4 (by decide) ?_
  refine n_le (tgt := 11) (by omega) (by omega) hx hb dX3_again_6 (by decide) (fun h6 => ?_) (fun h6 => ?_)
  · have h6n : ¬ 100 < c := by omega
    refine lv_aload_n hx hb dX3_again_11 rfl (lv_at hl 0 rfl) ?_
    refine go_V (va_runV (As := []) (rest := []) ⟨hx, hb, hml, hown, hts⟩ (c_X3_all l D cy aM aA aB k v c (by omega) gl gh li hn fl lo hi (by simp; omega) _) (cwV 0 hts gX3_again_X3_all rfl rfl rfl (by decide +kernel) ⟨(Nat.le_of_ble_eq_true rfl), (Nat.le_of_ble_eq_true rfl)⟩) (preV_Z hK (hP.sub [0, 1, 2] rfl) 0 3 rfl rfl) rfl rfl hl.1 rfl (lv_room (Nat.le_of_ble_eq_true rfl)) dX3_again_12 ⟨(Nat.le_of_ble_eq_true rfl), (Nat.le_of_ble_eq_true rfl)⟩) hS (fun q h => mA_sub [0, 1, 2] rfl hS.1 h) (fun H1 locs1 hB hzz hk hS => ?_)
    have hP : va_P D vwCl [(aM, .inr (3, [.ref aA, .ref aB, .int (nI c), .int (bI false), .int (bI false), .int (bI li), .int (bI hn), .int (bI false), .int lo, .int hi])), (aA, .inl (cy, 64, .inl k)), (aB, .inl (cy, 64, .inl v))] H1 := va_P.sub hB [0, 1, 2] rfl
    have hD : va_D (mA [aM, aA, aB] s.heap.size) [(aM, .inr (3, [.ref aA, .ref aB, .int (nI c), .int (bI false), .int (bI false), .int (bI li), .int (bI hn), .int (bI false), .int lo, .int hi])), (aA, .inl (cy, 64, .inl k)), (aB, .inl (cy, 64, .inl v))] := D_of ndw hAw
    clear hB
    generalize H1 = H at hP hS ⊢
    generalize locs1 = locs at hS ⊢
    refine lv_aload_n hx hb dX3_again_15 rfl (lv_at hl 0 rfl) ?_
    refine va_get (ci := 3) (v := .int (nI c)) (C := RX3) (T := TX3) (N := 10) hx hb hts hin_X3 hown hK hP 0 rfl rfl 2 (by decide) kf_16 (fun _ h9 => h9) rfl dX3_again_16 ?_
    exact ret_iM hx hb hr hlocks dX3_again_19 hS (by rw [if_neg h6n]) (by rw [if_neg h6n, if_neg h6n, if_neg h6n]; exact hP)
  · exact absurd h6 (by omega)
end
