/-! the contracts of Range's methods (written by wip/gen/x1.py) -/
def stR (lo : Int64) (li : Bool) : Int64 := if li = true then lo else lo + 1
def spR (hi : Int64) (hn : Bool) : Int64 := if hn = true then hi + 1 else hi
def hR (lo : Int64) (li : Bool) (hi : Int64) (hn : Bool) (x : Int64) : Bool := decide (stR lo li ≤ x) && decide (x < spR hi hn)
def mR (lo : Int64) (li : Bool) (hi : Int64) (hn : Bool) (x : Int64) (i : Bool) : Bool := if i = true then hR lo li hi hn x else decide (lo ≤ x) && decide (x ≤ hi)
abbrev rgW (a : Nat) (lo : Int64) (li : Bool) (hi : Int64) (hn : Bool) : va_W := [(a, .inr (1, [.long lo, .int (bI li), .long hi, .int (bI hn)]))]
def wE (up : Bool) (x : Int64) (i : Bool) (r : Int64 × Bool × Int64 × Bool) : Int64 × Bool × Int64 × Bool := (if up = true then r.1 else x, if up = true then r.2.1 else i, if up = true then x else r.2.2.1, if up = true then i else r.2.2.2)
def prt (lo : Int64) (li : Bool) (hi : Int64) (hn : Bool) (kind f : Int32) (fi : Bool) (t : Int32) (ti fl : Bool) : Option (Int64 × Bool × Int64 × Bool) :=
  if kind = 0 then some (lo, li, hi, hn)
  else if kind = 1 then (if mR lo li hi hn t.toInt64 ti = true then some (wE (!fl) t.toInt64 ti (lo, li, hi, hn)) else none)
  else if kind = 2 then (if mR lo li hi hn f.toInt64 fi = true then some (wE fl f.toInt64 fi (lo, li, hi, hn)) else none)
  else if kind = 3 then (if mR lo li hi hn f.toInt64 fi = true then (if mR lo li hi hn t.toInt64 ti = true then (if (if fl = true then f < t else t < f) then none else some (wE (!fl) t.toInt64 ti (wE fl f.toInt64 fi (lo, li, hi, hn)))) else none) else none)
  else none
def ptB (D : va_G) (aR sz : Nat) (r : Option (Int64 × Bool × Int64 × Bool)) (u : Option Nat) (H : Heap) : Prop := match r with
  | none => u = none
  | some r => ∃ a, u = some a ∧ (a = aR ∨ sz ≤ a) ∧ va_P D vwCl (rgW a r.1 r.2.1 r.2.2.1 r.2.2.2) H
theorem pt_lt {lo : Int64} {li : Bool} {hi : Int64} {hn : Bool} {kind f : Int32} {fi : Bool} {t : Int32} {ti fl : Bool} (h : kind < 0) : prt lo li hi hn kind f fi t ti fl = none := by
  unfold prt
  rw [if_neg (fun q => by rw [q] at h; exact absurd h (by decide)), if_neg (fun q => by rw [q] at h; exact absurd h (by decide)), if_neg (fun q => by rw [q] at h; exact absurd h (by decide)), if_neg (fun q => by rw [q] at h; exact absurd h (by decide))]
theorem pt_gt {lo : Int64} {li : Bool} {hi : Int64} {hn : Bool} {kind f : Int32} {fi : Bool} {t : Int32} {ti fl : Bool} (h : ¬ kind ≤ 3) : prt lo li hi hn kind f fi t ti fl = none := by
  unfold prt
  rw [if_neg (fun q => by rw [q] at h; exact absurd (by decide) h), if_neg (fun q => by rw [q] at h; exact absurd (by decide) h), if_neg (fun q => by rw [q] at h; exact absurd (by decide) h), if_neg (fun q => by rw [q] at h; exact absurd (by decide) h)]
theorem pt_k {kind : Int32} (h1 : ¬ kind < 0) (h6 : kind ≤ 3) : kind = 0 ∨ kind = 1 ∨ kind = 2 ∨ kind = 3 := by
  obtain ⟨j, hj, rfl⟩ := nI_of2 (n := 3) (by decide) h1 h6
  rcases (show j = 0 ∨ j = 1 ∨ j = 2 ∨ j = 3 by omega) with rfl | rfl | rfl | rfl
  · exact Or.inl rfl
  · exact Or.inr (Or.inl rfl)
  · exact Or.inr (Or.inr (Or.inl rfl))
  · exact Or.inr (Or.inr (Or.inr rfl))
theorem P_keepS {D : va_G} {cl : List vw_C} {ws : va_W} {L : List Nat} {H0 H : Heap} {locs : List Loc} (h : va_P D cl ws H0) (hn : ∀ q ∈ ws.map Prod.fst, ¬ q ∈ L) (hS : va_S (mA L H0.size) H0 H locs) : va_P D cl ws H := P_keepM h hn hS.2.1
theorem D_nil {A : Nat → Prop} : va_D A [] := ⟨fun i j p q h => by simp at h, fun k q h => by simp at h⟩
theorem ret_aX {p : Program} {l : Launch} {e : Env} {R : Room} {s : State} {m : MethodId} {args : Array Value} {below : List Frame} {meth : Method} {c : Code} {H : Heap} {locs : List Loc} {cells slots : Nat} {cc : ByteArray} {pc : Nat} {ls : Array Slot} {A : Nat → Prop} {S : Type} {vf : S → Option Value} {B : S → State → Prop} {v : Value} {rt : FieldType} (hx : p.tables.exec = Jvm.exec) (hb : c.code = cc) (hr : meth.sig.returnType = some rt) (hrt : (∃ n, rt = .object n) ∨ ∃ t, rt = .array t) (hlocks : meth.locks = false) (hdg : decode cc pc = .ok (.areturn, 1)) (hS : va_S A s.heap H locs) (u : S) (hv : vf u = some v) (hvr : v = .null ∨ ∃ a, v = .ref a) (hB : ∀ t : State, t.heap = H → B u t) : W p l e R s m args below meth c H locs cells slots (MQ below (qX vf B A) args s cells slots A) (F0 m pc ls [v]) :=
  W.aret hx hb hr hrt hvr (fun t ht _ => ⟨⟨u, by rw [hv], hB t ht⟩, hS.F ht⟩) hS.2.2 hdg hlocks
set_option maxHeartbeats 4000000 in
set_option maxRecDepth 100000 in
/-- start() -/
theorem c_X1_start (l : Launch) (D : va_G) (cy : ClassId) (aR : Nat) (lo : Int64) (li : Bool) (hi : Int64) (hn : Bool) : Met l yX1_start wsX1_start ({ frames := 0, cells := 0, slots := 0, locals := 0 } : Room) (pcW D [(cy, .int)] [.ref aR] [(aR, .inr (1, [.long lo, .int (bI li), .long hi, .int (bI hn)]))]) (qR (.long (stR lo li))) 0 0 (fun _ => False) := by
  refine met_W (cc := cX1_start) (maxL := 1) (ret := (some .long)) (by decide +kernel) rfl (Nat.le_of_ble_eq_true rfl) ?_
  intro pM eM s mM below meth cM ls hx hb hr hts hown hlocks hml hnm hK hP hl
  have hown : s.vm.findClass RX1 = some mM.cls := hown
  have hl : lv_has ls 1 [(0, .ref aR)] := hl
  have hin_X1 : ∀ w ∈ wsX10, w ∈ wsX1_start := by decide +kernel
  have kf_13 := hts (.fieldLink RX1 13 "OrderedDesk$Range" "lowIn" "Z") (by decide +kernel)
  have kf_7 := hts (.fieldLink RX1 7 "OrderedDesk$Range" "low" "J") (by decide +kernel)
  have hP : va_P D vwCl [(aR, .inr (1, [.long lo, .int (bI li), .long hi, .int (bI hn)]))] s.heap := hP
  refine lv_aload_n hx hb dX1_start_0 rfl (lv_at hl 0 rfl) ?_
  refine va_get (ci := 1) (v := .int (bI li)) (C := RX1) (T := TX1) (N := 4) hx hb hts hin_X1 hown hK hP 0 rfl rfl 1 (by decide) kf_13 (fun _ h9 => h9) rfl dX1_start_1 ?_
  refine b_eq (tgt := 14) hx hb dX1_start_4 (by decide) (fun h4 => ?_) (fun h4 => ?_)
  · have hz : stR lo li = lo + 1 := if_neg (by rw [h4]; decide)
    refine lv_aload_n hx hb dX1_start_14 rfl (lv_at hl 0 rfl) ?_
    refine va_get (ci := 1) (v := .long lo) (C := RX1) (T := TX1) (N := 4) hx hb hts hin_X1 hown hK hP 0 rfl rfl 0 (by decide) kf_7 (fun _ h9 => h9) rfl dX1_start_15 ?_
    refine lv_lconst (v := 1) hx hb dX1_start_18 (by decide) ?_
    refine lv_ladd hx hb dX1_start_19 ?_
    exact ret_l hx hb hr hlocks dX1_start_20 hz.symm
  · have hz : stR lo li = lo := if_pos h4
    refine lv_aload_n hx hb dX1_start_7 rfl (lv_at hl 0 rfl) ?_
    refine va_get (ci := 1) (v := .long lo) (C := RX1) (T := TX1) (N := 4) hx hb hts hin_X1 hown hK hP 0 rfl rfl 0 (by decide) kf_7 (fun _ h9 => h9) rfl dX1_start_8 ?_
    refine lv_goto (tgt := 20) hx hb dX1_start_11 (by decide) ?_
    exact ret_l hx hb hr hlocks dX1_start_20 hz.symm

set_option maxHeartbeats 4000000 in
set_option maxRecDepth 100000 in
/-- stop() -/
theorem c_X1_stop (l : Launch) (D : va_G) (cy : ClassId) (aR : Nat) (lo : Int64) (li : Bool) (hi : Int64) (hn : Bool) : Met l yX1_stop wsX1_stop ({ frames := 0, cells := 0, slots := 0, locals := 0 } : Room) (pcW D [(cy, .int)] [.ref aR] [(aR, .inr (1, [.long lo, .int (bI li), .long hi, .int (bI hn)]))]) (qR (.long (spR hi hn))) 0 0 (fun _ => False) := by
  refine met_W (cc := cX1_stop) (maxL := 1) (ret := (some .long)) (by decide +kernel) rfl (Nat.le_of_ble_eq_true rfl) ?_
  intro pM eM s mM below meth cM ls hx hb hr hts hown hlocks hml hnm hK hP hl
  have hown : s.vm.findClass RX1 = some mM.cls := hown
  have hl : lv_has ls 1 [(0, .ref aR)] := hl
  have hin_X1 : ∀ w ∈ wsX10, w ∈ wsX1_stop := by decide +kernel
  have kf_17 := hts (.fieldLink RX1 17 "OrderedDesk$Range" "high" "J") (by decide +kernel)
  have kf_20 := hts (.fieldLink RX1 20 "OrderedDesk$Range" "highIn" "Z") (by decide +kernel)
  have hP : va_P D vwCl [(aR, .inr (1, [.long lo, .int (bI li), .long hi, .int (bI hn)]))] s.heap := hP
  refine lv_aload_n hx hb dX1_stop_0 rfl (lv_at hl 0 rfl) ?_
  refine va_get (ci := 1) (v := .int (bI hn)) (C := RX1) (T := TX1) (N := 4) hx hb hts hin_X1 hown hK hP 0 rfl rfl 3 (by decide) kf_20 (fun _ h9 => h9) rfl dX1_stop_1 ?_
  refine b_eq (tgt := 16) hx hb dX1_stop_4 (by decide) (fun h4 => ?_) (fun h4 => ?_)
  · have hz : spR hi hn = hi := if_neg (by rw [h4]; decide)
    refine lv_aload_n hx hb dX1_stop_16 rfl (lv_at hl 0 rfl) ?_
    refine va_get (ci := 1) (v := .long hi) (C := RX1) (T := TX1) (N := 4) hx hb hts hin_X1 hown hK hP 0 rfl rfl 2 (by decide) kf_17 (fun _ h9 => h9) rfl dX1_stop_17 ?_
    exact ret_l hx hb hr hlocks dX1_stop_20 hz.symm
  · have hz : spR hi hn = hi + 1 := if_pos h4
    refine lv_aload_n hx hb dX1_stop_7 rfl (lv_at hl 0 rfl) ?_
    refine va_get (ci := 1) (v := .long hi) (C := RX1) (T := TX1) (N := 4) hx hb hts hin_X1 hown hK hP 0 rfl rfl 2 (by decide) kf_17 (fun _ h9 => h9) rfl dX1_stop_8 ?_
    refine lv_lconst (v := 1) hx hb dX1_stop_11 (by decide) ?_
    refine lv_ladd hx hb dX1_stop_12 ?_
    refine lv_goto (tgt := 20) hx hb dX1_stop_13 (by decide) ?_
    exact ret_l hx hb hr hlocks dX1_stop_20 hz.symm

set_option maxHeartbeats 4000000 in
set_option maxRecDepth 100000 in
/-- holds(key) -/
theorem c_X1_holds (l : Launch) (D : va_G) (cy : ClassId) (aR : Nat) (lo : Int64) (li : Bool) (hi : Int64) (hn : Bool) (x : Int64) : Met l yX1_holds wsX1_holds ({ frames := 1, cells := 0, slots := 0, locals := 20 } : Room) (pcW D [(cy, .int)] [.ref aR, .long x] [(aR, .inr (1, [.long lo, .int (bI li), .long hi, .int (bI hn)]))]) (qR (.int (bI (hR lo li hi hn x)))) 0 0 (fun _ => False) := by
  refine met_W (cc := cX1_holds) (maxL := 3) (ret := (some .boolean)) (by decide +kernel) rfl (Nat.le_of_ble_eq_true rfl) ?_
  intro pM eM s mM below meth cM ls hx hb hr hts hown hlocks hml hnm hK hP hl
  have hown : s.vm.findClass RX1 = some mM.cls := hown
  have hl : lv_has ls 3 [(0, .ref aR), (1, .long x)] := hl
  have hP : va_P D vwCl [(aR, .inr (1, [.long lo, .int (bI li), .long hi, .int (bI hn)]))] s.heap := hP
  refine lv_lload_n hx hb dX1_holds_0 rfl (lv_at hl 1 rfl) ?_
  refine lv_aload_n hx hb dX1_holds_1 rfl (lv_at hl 0 rfl) ?_
  refine go_R (va_runV (As := []) (rest := [.long x]) ⟨hx, hb, hml, hown, hts⟩ (c_X1_start l D cy aR lo li hi hn) (cwV 0 hts gX1_holds_X1_start rfl rfl rfl (by decide +kernel) ⟨(Nat.le_of_ble_eq_true rfl), (Nat.le_of_ble_eq_true rfl)⟩) (preV_W hK (hP.sub [0] rfl) 0 1 rfl rfl) rfl rfl hl.1 rfl (lv_room (Nat.le_of_ble_eq_true rfl)) dX1_holds_2 ⟨(Nat.le_of_ble_eq_true rfl), (Nat.le_of_ble_eq_true rfl)⟩) ?_
  refine l_lt (tgt := 22) hx hb dX1_holds_5 dX1_holds_6 (by decide) (fun h5 => ?_) (fun h5 => ?_)
  · have hz : hR lo li hi hn x = false := by unfold hR; rw [decide_eq_false (Int64.not_le.mpr h5)]; rfl
    refine lv_iconst (v := bI false) hx hb dX1_holds_22 (by decide) ?_
    exact ret_z hx hb hr hlocks dX1_holds_23 (by rw [hz])
  · refine lv_lload_n hx hb dX1_holds_9 rfl (lv_at hl 1 rfl) ?_
    refine lv_aload_n hx hb dX1_holds_10 rfl (lv_at hl 0 rfl) ?_
    refine go_R (va_runV (As := []) (rest := [.long x]) ⟨hx, hb, hml, hown, hts⟩ (c_X1_stop l D cy aR lo li hi hn) (cwV 0 hts gX1_holds_X1_stop rfl rfl rfl (by decide +kernel) ⟨(Nat.le_of_ble_eq_true rfl), (Nat.le_of_ble_eq_true rfl)⟩) (preV_W hK (hP.sub [0] rfl) 0 1 rfl rfl) rfl rfl hl.1 rfl (lv_room (Nat.le_of_ble_eq_true rfl)) dX1_holds_11 ⟨(Nat.le_of_ble_eq_true rfl), (Nat.le_of_ble_eq_true rfl)⟩) ?_
    refine l_ge (tgt := 22) hx hb dX1_holds_14 dX1_holds_15 (by decide) (fun h14 => ?_) (fun h14 => ?_)
    · have hz : hR lo li hi hn x = false := by unfold hR; rw [decide_eq_false (Int64.not_lt.mpr h14), Bool.and_false]
      refine lv_iconst (v := bI false) hx hb dX1_holds_22 (by decide) ?_
      exact ret_z hx hb hr hlocks dX1_holds_23 (by rw [hz])
    · have hz : hR lo li hi hn x = true := by unfold hR; rw [decide_eq_true h5, decide_eq_true h14]; rfl
      refine lv_iconst (v := bI true) hx hb dX1_holds_18 (by decide) ?_
      refine lv_goto (tgt := 23) hx hb dX1_holds_19 (by decide) ?_
      exact ret_z hx hb hr hlocks dX1_holds_23 (by rw [hz])

set_option maxHeartbeats 4000000 in
set_option maxRecDepth 100000 in
/-- mayEndAt(key, in) -/
theorem c_X1_mayEndAt (l : Launch) (D : va_G) (cy : ClassId) (aR : Nat) (lo : Int64) (li : Bool) (hi : Int64) (hn : Bool) (x : Int64) (i : Bool) : Met l yX1_mayEndAt wsX1_mayEndAt ({ frames := 2, cells := 0, slots := 0, locals := 42 } : Room) (pcW D [(cy, .int)] [.ref aR, .long x, .int (bI i)] [(aR, .inr (1, [.long lo, .int (bI li), .long hi, .int (bI hn)]))]) (qR (.int (bI (mR lo li hi hn x i)))) 0 0 (fun _ => False) := by
  refine met_W (cc := cX1_mayEndAt) (maxL := 4) (ret := (some .boolean)) (by decide +kernel) rfl (Nat.le_of_ble_eq_true rfl) ?_
  intro pM eM s mM below meth cM ls hx hb hr hts hown hlocks hml hnm hK hP hl
  have hown : s.vm.findClass RX1 = some mM.cls := hown
  have hl : lv_has ls 4 [(0, .ref aR), (1, .long x), (3, .int (bI i))] := hl
  have hin_X1 : ∀ w ∈ wsX10, w ∈ wsX1_mayEndAt := by decide +kernel
  have kf_17 := hts (.fieldLink RX1 17 "OrderedDesk$Range" "high" "J") (by decide +kernel)
  have kf_7 := hts (.fieldLink RX1 7 "OrderedDesk$Range" "low" "J") (by decide +kernel)
  have hP : va_P D vwCl [(aR, .inr (1, [.long lo, .int (bI li), .long hi, .int (bI hn)]))] s.heap := hP
  refine lv_iload_n hx hb dX1_mayEndAt_0 rfl (lv_at hl 2 rfl) ?_
  refine b_eq (tgt := 12) hx hb dX1_mayEndAt_1 (by decide) (fun h1 => ?_) (fun h1 => ?_)
  · have hz0 : mR lo li hi hn x i = (decide (lo ≤ x) && decide (x ≤ hi)) := if_neg (by rw [h1]; decide)
    refine lv_lload_n hx hb dX1_mayEndAt_12 rfl (lv_at hl 1 rfl) ?_
    refine lv_aload_n hx hb dX1_mayEndAt_13 rfl (lv_at hl 0 rfl) ?_
    refine va_get (ci := 1) (v := .long lo) (C := RX1) (T := TX1) (N := 4) hx hb hts hin_X1 hown hK hP 0 rfl rfl 0 (by decide) kf_7 (fun _ h9 => h9) rfl dX1_mayEndAt_14 ?_
    refine l_lt (tgt := 34) hx hb dX1_mayEndAt_17 dX1_mayEndAt_18 (by decide) (fun h17 => ?_) (fun h17 => ?_)
    · have hz : mR lo li hi hn x i = false := by rw [hz0, decide_eq_false (Int64.not_le.mpr h17)]; rfl
      refine lv_iconst (v := bI false) hx hb dX1_mayEndAt_34 (by decide) ?_
      exact ret_z hx hb hr hlocks dX1_mayEndAt_35 (by rw [hz])
    · refine lv_lload_n hx hb dX1_mayEndAt_21 rfl (lv_at hl 1 rfl) ?_
      refine lv_aload_n hx hb dX1_mayEndAt_22 rfl (lv_at hl 0 rfl) ?_
      refine va_get (ci := 1) (v := .long hi) (C := RX1) (T := TX1) (N := 4) hx hb hts hin_X1 hown hK hP 0 rfl rfl 2 (by decide) kf_17 (fun _ h9 => h9) rfl dX1_mayEndAt_23 ?_
      refine l_gt (tgt := 34) hx hb dX1_mayEndAt_26 dX1_mayEndAt_27 (by decide) (fun h26 => ?_) (fun h26 => ?_)
      · have hz : mR lo li hi hn x i = false := by rw [hz0, decide_eq_false (Int64.not_le.mpr h26), Bool.and_false]
        refine lv_iconst (v := bI false) hx hb dX1_mayEndAt_34 (by decide) ?_
        exact ret_z hx hb hr hlocks dX1_mayEndAt_35 (by rw [hz])
      · have hz : mR lo li hi hn x i = true := by rw [hz0, decide_eq_true h17, decide_eq_true h26]; rfl
        refine lv_iconst (v := bI true) hx hb dX1_mayEndAt_30 (by decide) ?_
        refine lv_goto (tgt := 35) hx hb dX1_mayEndAt_31 (by decide) ?_
        exact ret_z hx hb hr hlocks dX1_mayEndAt_35 (by rw [hz])
  · have hz : mR lo li hi hn x i = hR lo li hi hn x := if_pos h1
    refine lv_aload_n hx hb dX1_mayEndAt_4 rfl (lv_at hl 0 rfl) ?_
    refine lv_lload_n hx hb dX1_mayEndAt_5 rfl (lv_at hl 1 rfl) ?_
    refine go_R (va_runV (As := [.long x]) (rest := []) ⟨hx, hb, hml, hown, hts⟩ (c_X1_holds l D cy aR lo li hi hn x) (cwV 1 hts gX1_mayEndAt_X1_holds rfl rfl rfl (by decide +kernel) ⟨(Nat.le_of_ble_eq_true rfl), (Nat.le_of_ble_eq_true rfl)⟩) (preV_W hK (hP.sub [0] rfl) 0 1 rfl rfl) rfl rfl hl.1 rfl (lv_room (Nat.le_of_ble_eq_true rfl)) dX1_mayEndAt_6 ⟨(Nat.le_of_ble_eq_true rfl), (Nat.le_of_ble_eq_true rfl)⟩) ?_
    refine lv_goto (tgt := 35) hx hb dX1_mayEndAt_9 (by decide) ?_
    exact ret_z hx hb hr hlocks dX1_mayEndAt_35 (by rw [hz])

set_option maxHeartbeats 4000000 in
set_option maxRecDepth 100000 in
/-- Range(low, lowIn, high, highIn) -/
theorem c_X1_init (l : Launch) (D : va_G) (cy : ClassId) (aR : Nat) (lo : Int64) (li : Bool) (hi : Int64) (hn : Bool) (sz : Nat) : Met l yX1_init wsX1_init ({ frames := 1, cells := 0, slots := 0, locals := 12 } : Room) (pcZ D [(cy, .int)] [.ref aR, .long lo, .int (bI li), .long hi, .int (bI hn)] [(aR, .inr (1, [.long 0, .int 0, .long 0, .int 0]))] sz) (qM none (fun H => va_P D vwCl (rgW aR lo li hi hn) H) (mA [aR] sz)) 0 0 (mA [aR] sz) := by
  refine met_Z (cc := cX1_init) (maxL := 7) (ret := none) (by decide +kernel) rfl (Nat.le_of_ble_eq_true rfl) ?_
  intro pM eM s mM below meth cM ls hx hb hr hts hown hlocks hml hnm hsz hK hP hl
  have hown : s.vm.findClass RX1 = some mM.cls := hown
  have hl : lv_has ls 7 [(0, .ref aR), (1, .long lo), (3, .int (bI li)), (4, .long hi), (6, .int (bI hn))] := hl
  have hin_X1 : ∀ w ∈ wsX10, w ∈ wsX1_init := by decide +kernel
  have kf_13 := hts (.fieldLink RX1 13 "OrderedDesk$Range" "lowIn" "Z") (by decide +kernel)
  have kf_17 := hts (.fieldLink RX1 17 "OrderedDesk$Range" "high" "J") (by decide +kernel)
  have kf_20 := hts (.fieldLink RX1 20 "OrderedDesk$Range" "highIn" "Z") (by decide +kernel)
  have kf_7 := hts (.fieldLink RX1 7 "OrderedDesk$Range" "low" "J") (by decide +kernel)
  have hP : va_P D vwCl [(aR, .inr (1, [.long 0, .int 0, .long 0, .int 0]))] s.heap := hP
  subst hsz
  have ndw := (List.nodup_cons.mpr ⟨List.not_mem_nil, List.nodup_nil⟩ : ([aR] : List Nat).Nodup)
  have hA : ∀ q : Nat, s.heap.size ≤ q → mA [aR] s.heap.size q := fun q h => Or.inr h
  have hAw : ∀ q ∈ ([aR] : List Nat), mA [aR] s.heap.size q := fun q h => Or.inl h
  have hS : va_S (mA [aR] s.heap.size) s.heap s.heap [] := va_S.rf
  have hD : va_D (mA [aR] s.heap.size) [(aR, .inr (1, [.long 0, .int 0, .long 0, .int 0]))] := D_of ndw hAw
  refine lv_aload_n hx hb dX1_init_0 rfl (lv_at hl 0 rfl) ?_
  refine W.objInit hx hb hown (hts (.methodLink RX1 1 objectInit) (by decide +kernel)) (hts (.instanceMethod objectInit) (by decide +kernel)) (hts (.code objectInit ⟨#[0xb1]⟩ 1 none) (by decide +kernel)) rfl (by rw [hml]; exact hl.1) rfl dX1_init_1 (Nat.le_of_ble_eq_true rfl) (Nat.le_of_ble_eq_true rfl) ?_
  refine W.eq (g2 := F0 mM 4 ls []) rfl ?_
  refine lv_aload_n hx hb dX1_init_4 rfl (lv_at hl 0 rfl) ?_
  refine lv_lload_n hx hb dX1_init_5 rfl (lv_at hl 1 rfl) ?_
  refine va_putF (ci := 1) (v := .long lo) (ty := .long) (C := RX1) (T := TX1) (N := 4) hx hb hts hin_X1 tyX1 tyX1_ok nmX1 hown hK hP hD hS 0 rfl rfl 0 (by decide) kf_7 (fun _ h9 => h9) rfl hnm rfl (by decide +kernel) rfl rfl (Nat.le_of_ble_eq_true rfl) dX1_init_6 (fun H locs hP hD hS => ?_)
  have hP : va_P D vwCl [(aR, .inr (1, [.long lo, .int 0, .long 0, .int 0]))] H := hP
  have hD : va_D _ [(aR, .inr (1, [.long lo, .int 0, .long 0, .int 0]))] := hD
  refine lv_aload_n hx hb dX1_init_9 rfl (lv_at hl 0 rfl) ?_
  refine lv_iload_n hx hb dX1_init_10 rfl (lv_at hl 2 rfl) ?_
  refine va_putF (ci := 1) (v := .int (bI li)) (ty := .boolean) (C := RX1) (T := TX1) (N := 4) hx hb hts hin_X1 tyX1 tyX1_ok nmX1 hown hK hP hD hS 0 rfl rfl 1 (by decide) kf_13 (fun _ h9 => h9) rfl hnm rfl (by decide +kernel) (bI_nar _) (bI_fit _) (Nat.le_of_ble_eq_true rfl) dX1_init_11 (fun H locs hP hD hS => ?_)
  have hP : va_P D vwCl [(aR, .inr (1, [.long lo, .int (bI li), .long 0, .int 0]))] H := hP
  have hD : va_D _ [(aR, .inr (1, [.long lo, .int (bI li), .long 0, .int 0]))] := hD
  refine lv_aload_n hx hb dX1_init_14 rfl (lv_at hl 0 rfl) ?_
  refine lv_lload hx hb dX1_init_15 (lv_at hl 3 rfl) ?_
  refine va_putF (ci := 1) (v := .long hi) (ty := .long) (C := RX1) (T := TX1) (N := 4) hx hb hts hin_X1 tyX1 tyX1_ok nmX1 hown hK hP hD hS 0 rfl rfl 2 (by decide) kf_17 (fun _ h9 => h9) rfl hnm rfl (by decide +kernel) rfl rfl (Nat.le_of_ble_eq_true rfl) dX1_init_17 (fun H locs hP hD hS => ?_)
  have hP : va_P D vwCl [(aR, .inr (1, [.long lo, .int (bI li), .long hi, .int 0]))] H := hP
  have hD : va_D _ [(aR, .inr (1, [.long lo, .int (bI li), .long hi, .int 0]))] := hD
  refine lv_aload_n hx hb dX1_init_20 rfl (lv_at hl 0 rfl) ?_
  refine lv_iload hx hb dX1_init_21 (lv_at hl 4 rfl) ?_
  refine va_putF (ci := 1) (v := .int (bI hn)) (ty := .boolean) (C := RX1) (T := TX1) (N := 4) hx hb hts hin_X1 tyX1 tyX1_ok nmX1 hown hK hP hD hS 0 rfl rfl 3 (by decide) kf_20 (fun _ h9 => h9) rfl hnm rfl (by decide +kernel) (bI_nar _) (bI_fit _) (Nat.le_of_ble_eq_true rfl) dX1_init_23 (fun H locs hP hD hS => ?_)
  have hP : va_P D vwCl [(aR, .inr (1, [.long lo, .int (bI li), .long hi, .int (bI hn)]))] H := hP
  have hD : va_D _ [(aR, .inr (1, [.long lo, .int (bI li), .long hi, .int (bI hn)]))] := hD
  exact ret_vM hx hb hr hlocks dX1_init_26 hS hP

set_option maxHeartbeats 4000000 in
set_option maxRecDepth 100000 in
/-- withEnd(upper, key, in) -/
theorem c_X1_withEnd (l : Launch) (D : va_G) (cy : ClassId) (aR : Nat) (lo : Int64) (li : Bool) (hi : Int64) (hn : Bool) (sz : Nat) (up : Bool) (x : Int64) (i : Bool) : Met l yX1_withEnd wsX1_withEnd ({ frames := 2, cells := 1, slots := 4, locals := 38 } : Room) (pcZ D [(cy, .int)] [.ref aR, .int (bI up), .long x, .int (bI i)] [(aR, .inr (1, [.long lo, .int (bI li), .long hi, .int (bI hn)]))] sz) (qX (fun a : Nat => some (.ref a)) (fun a t => sz ≤ a ∧ va_P D vwCl (rgW a (if up = true then lo else x) (if up = true then li else i) (if up = true then x else hi) (if up = true then i else hn)) t.heap) (mA [] sz)) 1 4 (mA [] sz) := by
  refine met_Z (cc := cX1_withEnd) (maxL := 5) (ret := (some (.object "OrderedDesk$Range"))) (by decide +kernel) rfl (Nat.le_of_ble_eq_true rfl) ?_
  intro pM eM s mM below meth cM ls hx hb hr hts hown hlocks hml hnm hsz hK hP hl
  have hown : s.vm.findClass RX1 = some mM.cls := hown
  have hl : lv_has ls 5 [(0, .ref aR), (1, .int (bI up)), (2, .long x), (4, .int (bI i))] := hl
  have hin_X1 : ∀ w ∈ wsX10, w ∈ wsX1_withEnd := by decide +kernel
  have kf_13 := hts (.fieldLink RX1 13 "OrderedDesk$Range" "lowIn" "Z") (by decide +kernel)
  have kf_17 := hts (.fieldLink RX1 17 "OrderedDesk$Range" "high" "J") (by decide +kernel)
  have kf_20 := hts (.fieldLink RX1 20 "OrderedDesk$Range" "highIn" "Z") (by decide +kernel)
  have kf_7 := hts (.fieldLink RX1 7 "OrderedDesk$Range" "low" "J") (by decide +kernel)
  have hP : va_P D vwCl [(aR, .inr (1, [.long lo, .int (bI li), .long hi, .int (bI hn)]))] s.heap := hP
  subst hsz
  have hP0 := hP
  have hA : ∀ q : Nat, s.heap.size ≤ q → mA [] s.heap.size q := fun q h => Or.inr h
  have hS : va_S (mA [] s.heap.size) s.heap s.heap [] := va_S.rf
  refine lv_iload_n hx hb dX1_withEnd_0 rfl (lv_at hl 1 rfl) ?_
  refine b_eq (tgt := 25) hx hb dX1_withEnd_1 (by decide) (fun h1 => ?_) (fun h1 => ?_)
  · obtain rfl : false = up := h1.symm
    refine va_new (ci := 1) (fs := [.long 0, .int 0, .long 0, .int 0]) (C := RX1) (T := TX1) (N := 4) hx hb hts hin_X1 tyX1 tyX1_ok hown (hts (.classLink RX1 8 RX1) (by decide +kernel)) (hts (.instantiable RX1 4) (by decide +kernel)) (hts (.initialized RX1) (by decide +kernel)) hK (hP.sub (ws' := []) [] rfl) D_nil hS hA rfl (fun j hj => by rcases (show j = 0 ∨ j = 1 ∨ j = 2 ∨ j = 3 by omega) with rfl | rfl | rfl | rfl <;> rfl) (Nat.le_of_ble_eq_true rfl) (Nat.le_of_ble_eq_true rfl) dX1_withEnd_25 (fun qN H hPn hDn hS => ?_)
    have hqN : s.heap.size ≤ qN := (hDn.2 0 _ rfl).elim (fun h => absurd h List.not_mem_nil) id
    have hP : va_P D vwCl [(aR, .inr (1, [.long lo, .int (bI li), .long hi, .int (bI hn)])), (qN, .inr (1, [.long 0, .int 0, .long 0, .int 0]))] H := (P_keepS hP0 (fun q _ => List.not_mem_nil) hS).app hPn
    refine W.widen (k := 1) (n := 4) (by decide) (by decide) ?_
    refine lv_dup hx hb dX1_withEnd_28 rfl ?_
    refine lv_lload_n hx hb dX1_withEnd_29 rfl (lv_at hl 2 rfl) ?_
    refine lv_iload hx hb dX1_withEnd_30 (lv_at hl 3 rfl) ?_
    refine lv_aload_n hx hb dX1_withEnd_32 rfl (lv_at hl 0 rfl) ?_
    refine va_get (ci := 1) (v := .long hi) (C := RX1) (T := TX1) (N := 4) hx hb hts hin_X1 hown hK hP 0 rfl rfl 2 (by decide) kf_17 (fun _ h9 => h9) rfl dX1_withEnd_33 ?_
    refine lv_aload_n hx hb dX1_withEnd_36 rfl (lv_at hl 0 rfl) ?_
    refine va_get (ci := 1) (v := .int (bI hn)) (C := RX1) (T := TX1) (N := 4) hx hb hts hin_X1 hown hK hP 0 rfl rfl 3 (by decide) kf_20 (fun _ h9 => h9) rfl dX1_withEnd_37 ?_
    refine go_V (va_runI (As := [.long x, .int (bI i), .long hi, .int (bI hn)]) (rest := [.ref qN]) ⟨hx, hb, hml, hown, hts⟩ (c_X1_init l D cy qN x i hi hn H.size) (cwI 4 hts gX1_withEnd_X1_init rfl rfl rfl (hts (.initialized RX1) (by decide +kernel)) (hts (.methodLink RX1 42 yX1_init) (by decide +kernel)) (hts (.instanceMethod yX1_init) (by decide +kernel)) rfl (by decide +kernel) ⟨Nat.le_of_ble_eq_true rfl, Nat.le_of_ble_eq_true rfl⟩) (preS_Z hK (hP.sub [1] rfl)) rfl rfl hl.1 rfl (lv_room (Nat.le_of_ble_eq_true rfl)) dX1_withEnd_40 ⟨Nat.le_of_ble_eq_true rfl, Nat.le_of_ble_eq_true rfl⟩) hS (fun q h => h.elim (fun z => Or.inr (by rw [List.mem_singleton.mp z]; exact hqN)) (fun z => Or.inr (Nat.le_trans hS.1 z))) (fun H1 locs1 hB hzz hk hS => ?_)
    exact ret_aX hx hb hr (Or.inl ⟨_, rfl⟩) hlocks dX1_withEnd_43 hS qN rfl (Or.inr ⟨_, rfl⟩) (fun t ht => ⟨hqN, by rw [ht]; exact hB⟩)
  · obtain rfl : true = up := h1.symm
    refine va_new (ci := 1) (fs := [.long 0, .int 0, .long 0, .int 0]) (C := RX1) (T := TX1) (N := 4) hx hb hts hin_X1 tyX1 tyX1_ok hown (hts (.classLink RX1 8 RX1) (by decide +kernel)) (hts (.instantiable RX1 4) (by decide +kernel)) (hts (.initialized RX1) (by decide +kernel)) hK (hP.sub (ws' := []) [] rfl) D_nil hS hA rfl (fun j hj => by rcases (show j = 0 ∨ j = 1 ∨ j = 2 ∨ j = 3 by omega) with rfl | rfl | rfl | rfl <;> rfl) (Nat.le_of_ble_eq_true rfl) (Nat.le_of_ble_eq_true rfl) dX1_withEnd_4 (fun qN H hPn hDn hS => ?_)
    have hqN : s.heap.size ≤ qN := (hDn.2 0 _ rfl).elim (fun h => absurd h List.not_mem_nil) id
    have hP : va_P D vwCl [(aR, .inr (1, [.long lo, .int (bI li), .long hi, .int (bI hn)])), (qN, .inr (1, [.long 0, .int 0, .long 0, .int 0]))] H := (P_keepS hP0 (fun q _ => List.not_mem_nil) hS).app hPn
    refine W.widen (k := 1) (n := 4) (by decide) (by decide) ?_
    refine lv_dup hx hb dX1_withEnd_7 rfl ?_
    refine lv_aload_n hx hb dX1_withEnd_8 rfl (lv_at hl 0 rfl) ?_
    refine va_get (ci := 1) (v := .long lo) (C := RX1) (T := TX1) (N := 4) hx hb hts hin_X1 hown hK hP 0 rfl rfl 0 (by decide) kf_7 (fun _ h9 => h9) rfl dX1_withEnd_9 ?_
    refine lv_aload_n hx hb dX1_withEnd_12 rfl (lv_at hl 0 rfl) ?_
    refine va_get (ci := 1) (v := .int (bI li)) (C := RX1) (T := TX1) (N := 4) hx hb hts hin_X1 hown hK hP 0 rfl rfl 1 (by decide) kf_13 (fun _ h9 => h9) rfl dX1_withEnd_13 ?_
    refine lv_lload_n hx hb dX1_withEnd_16 rfl (lv_at hl 2 rfl) ?_
    refine lv_iload hx hb dX1_withEnd_17 (lv_at hl 3 rfl) ?_
    refine go_V (va_runI (As := [.long lo, .int (bI li), .long x, .int (bI i)]) (rest := [.ref qN]) ⟨hx, hb, hml, hown, hts⟩ (c_X1_init l D cy qN lo li x i H.size) (cwI 4 hts gX1_withEnd_X1_init rfl rfl rfl (hts (.initialized RX1) (by decide +kernel)) (hts (.methodLink RX1 42 yX1_init) (by decide +kernel)) (hts (.instanceMethod yX1_init) (by decide +kernel)) rfl (by decide +kernel) ⟨Nat.le_of_ble_eq_true rfl, Nat.le_of_ble_eq_true rfl⟩) (preS_Z hK (hP.sub [1] rfl)) rfl rfl hl.1 rfl (lv_room (Nat.le_of_ble_eq_true rfl)) dX1_withEnd_19 ⟨Nat.le_of_ble_eq_true rfl, Nat.le_of_ble_eq_true rfl⟩) hS (fun q h => h.elim (fun z => Or.inr (by rw [List.mem_singleton.mp z]; exact hqN)) (fun z => Or.inr (Nat.le_trans hS.1 z))) (fun H1 locs1 hB hzz hk hS => ?_)
    refine lv_goto (tgt := 43) hx hb dX1_withEnd_22 (by decide) ?_
    exact ret_aX hx hb hr (Or.inl ⟨_, rfl⟩) hlocks dX1_withEnd_43 hS qN rfl (Or.inr ⟨_, rfl⟩) (fun t ht => ⟨hqN, by rw [ht]; exact hB⟩)

set_option maxHeartbeats 4000000 in
set_option maxRecDepth 100000 in
/-- part(kind, from, fromIn, to, toIn, falling) -/
theorem c_X1_part (l : Launch) (D : va_G) (cy : ClassId) (aR : Nat) (lo : Int64) (li : Bool) (hi : Int64) (hn : Bool) (sz : Nat) (kind f : Int32) (fi : Bool) (t : Int32) (ti fl : Bool) : Met l yX1_part wsX1_part ({ frames := 3, cells := 2, slots := 8, locals := 65 } : Room) (pcZ D [(cy, .int)] [.ref aR, .int kind, .int f, .int (bI fi), .int t, .int (bI ti), .int (bI fl)] [(aR, .inr (1, [.long lo, .int (bI li), .long hi, .int (bI hn)]))] sz) (qX (fun u : Option Nat => some (va_rf u)) (fun u t2 => ptB D aR sz (prt lo li hi hn kind f fi t ti fl) u t2.heap) (mA [] sz)) 2 8 (mA [] sz) := by
  refine met_Z (cc := cX1_part) (maxL := 10) (ret := (some (.object "OrderedDesk$Range"))) (by decide +kernel) rfl (Nat.le_of_ble_eq_true rfl) ?_
  intro pM eM s mM below meth cM ls hx hb hr hts hown hlocks hml hnm hsz hK hP hl
  have hown : s.vm.findClass RX1 = some mM.cls := hown
  have hl : lv_has ls 10 [(0, .ref aR), (1, .int kind), (2, .int f), (3, .int (bI fi)), (4, .int t), (5, .int (bI ti)), (6, .int (bI fl))] := hl
  have hP : va_P D vwCl [(aR, .inr (1, [.long lo, .int (bI li), .long hi, .int (bI hn)]))] s.heap := hP
  subst hsz
  have hP0 := hP
  have hS1 : s.heap.size ≤ s.heap.size := Nat.le_refl _
  have hA : ∀ q : Nat, s.heap.size ≤ q → mA [] s.heap.size q := fun q h => Or.inr h
  have hS : va_S (mA [] s.heap.size) s.heap s.heap [] := va_S.rf
  refine lv_iload_n hx hb dX1_part_0 rfl (lv_at hl 1 rfl) ?_
  refine lv_if_lt (tgt := 9) hx hb dX1_part_1 (by decide) (fun h1 => ?_) (fun h1 => ?_)
  · have hz : prt lo li hi hn kind f fi t ti fl = none := pt_lt h1
    refine lv_null hx hb dX1_part_9 ?_
    refine W.widen (k := 2) (n := 8) (by decide) (by decide) ?_
    exact ret_aX hx hb hr (Or.inl ⟨_, rfl⟩) hlocks dX1_part_10 hS none rfl (Or.inl rfl) (fun t ht => by rw [hz]; rfl)
  · refine lv_iload_n hx hb dX1_part_4 rfl (lv_at hl 1 rfl) ?_
    refine lv_iconst (v := 3) hx hb dX1_part_5 (by decide) ?_
    refine lv_icmp_le (tgt := 11) hx hb dX1_part_6 (by decide) (fun h6 => ?_) (fun h6 => ?_)
    · rcases pt_k h1 h6 with rfl | rfl | rfl | rfl
      · have hk0 : True := trivial
        refine lv_iload_n hx hb dX1_part_11 rfl (lv_at hl 1 rfl) ?_
        refine lv_iconst (v := 2) hx hb dX1_part_12 (by decide) ?_
        refine lv_icmp_eq (tgt := 21) hx hb dX1_part_13 (by decide) (fun c_3 => ?_) (fun c_3 => ?_)
        · exact absurd c_3 (by decide)
        · refine lv_iload_n hx hb dX1_part_16 rfl (lv_at hl 1 rfl) ?_
          refine lv_iconst (v := 3) hx hb dX1_part_17 (by decide) ?_
          refine lv_icmp_ne (tgt := 25) hx hb dX1_part_18 (by decide) (fun c_4 => ?_) (fun c_4 => ?_)
          · refine lv_iconst (v := bI false) hx hb dX1_part_25 (by decide) ?_
            refine lv_istore (lv' := [(7, .int (bI false)), (0, .ref aR), (1, .int 0), (2, .int f), (3, .int (bI fi)), (4, .int t), (5, .int (bI ti)), (6, .int (bI fl))]) hx hb dX1_part_26 hl (by decide) rfl (fun ls hl => ?_)
            refine lv_iload_n hx hb dX1_part_28 rfl (lv_at hl 2 rfl) ?_
            refine lv_iconst (v := 1) hx hb dX1_part_29 (by decide) ?_
            refine lv_icmp_eq (tgt := 38) hx hb dX1_part_30 (by decide) (fun c_5 => ?_) (fun c_5 => ?_)
            · exact absurd c_5 (by decide)
            · refine lv_iload_n hx hb dX1_part_33 rfl (lv_at hl 2 rfl) ?_
              refine lv_iconst (v := 3) hx hb dX1_part_34 (by decide) ?_
              refine lv_icmp_ne (tgt := 42) hx hb dX1_part_35 (by decide) (fun c_6 => ?_) (fun c_6 => ?_)
              · refine lv_iconst (v := bI false) hx hb dX1_part_42 (by decide) ?_
                refine lv_istore (lv' := [(8, .int (bI false)), (7, .int (bI false)), (0, .ref aR), (1, .int 0), (2, .int f), (3, .int (bI fi)), (4, .int t), (5, .int (bI ti)), (6, .int (bI fl))]) hx hb dX1_part_43 hl (by decide) rfl (fun ls hl => ?_)
                refine lv_iload hx hb dX1_part_45 (lv_at hl 1 rfl) ?_
                refine b_eq (tgt := 60) hx hb dX1_part_47 (by decide) (fun c_7 => ?_) (fun c_7 => ?_)
                · refine lv_iload hx hb dX1_part_60 (lv_at hl 0 rfl) ?_
                  refine b_eq (tgt := 79) hx hb dX1_part_62 (by decide) (fun c_8 => ?_) (fun c_8 => ?_)
                  · refine lv_iload hx hb dX1_part_79 (lv_at hl 1 rfl) ?_
                    refine b_eq (tgt := 111) hx hb dX1_part_81 (by decide) (fun c_9 => ?_) (fun c_9 => ?_)
                    · refine lv_iload hx hb dX1_part_111 (lv_at hl 1 rfl) ?_
                      refine b_eq (tgt := 128) hx hb dX1_part_113 (by decide) (fun c_10 => ?_) (fun c_10 => ?_)
                      · refine lv_aload_n hx hb dX1_part_128 rfl (lv_at hl 2 rfl) ?_
                        refine lv_astore (lv' := [(9, .ref aR), (8, .int (bI false)), (7, .int (bI false)), (0, .ref aR), (1, .int 0), (2, .int f), (3, .int (bI fi)), (4, .int t), (5, .int (bI ti)), (6, .int (bI fl))]) hx hb dX1_part_129 hl (by decide) rfl (fun ls hl => ?_)
                        refine lv_iload hx hb dX1_part_131 (lv_at hl 1 rfl) ?_
                        refine b_eq (tgt := 159) hx hb dX1_part_133 (by decide) (fun c_11 => ?_) (fun c_11 => ?_)
                        · refine lv_aload hx hb dX1_part_159 (lv_at hl 0 rfl) ?_
                          have hz : prt lo li hi hn 0 f fi t ti fl = some (lo, li, hi, hn) := rfl
                          refine W.widen (k := 2) (n := 8) (by decide) (by decide) ?_
                          exact ret_aX hx hb hr (Or.inl ⟨_, rfl⟩) hlocks dX1_part_161 hS (some aR) rfl (Or.inr ⟨_, rfl⟩) (fun t ht => by rw [hz]; exact ⟨aR, rfl, Or.inl rfl, by rw [ht]; exact hP.sub [0] rfl⟩)
                        · exact absurd c_11 (by decide)
                      · exact absurd c_10 (by decide)
                    · exact absurd c_9 (by decide)
                  · exact absurd c_8 (by decide)
                · exact absurd c_7 (by decide)
              · exact absurd c_6 (by decide)
          · exact absurd c_4 (by decide)
      · have hk0 : True := trivial
        refine lv_iload_n hx hb dX1_part_11 rfl (lv_at hl 1 rfl) ?_
        refine lv_iconst (v := 2) hx hb dX1_part_12 (by decide) ?_
        refine lv_icmp_eq (tgt := 21) hx hb dX1_part_13 (by decide) (fun c_12 => ?_) (fun c_12 => ?_)
        · exact absurd c_12 (by decide)
        · refine lv_iload_n hx hb dX1_part_16 rfl (lv_at hl 1 rfl) ?_
          refine lv_iconst (v := 3) hx hb dX1_part_17 (by decide) ?_
          refine lv_icmp_ne (tgt := 25) hx hb dX1_part_18 (by decide) (fun c_13 => ?_) (fun c_13 => ?_)
          · refine lv_iconst (v := bI false) hx hb dX1_part_25 (by decide) ?_
            refine lv_istore (lv' := [(7, .int (bI false)), (0, .ref aR), (1, .int 1), (2, .int f), (3, .int (bI fi)), (4, .int t), (5, .int (bI ti)), (6, .int (bI fl))]) hx hb dX1_part_26 hl (by decide) rfl (fun ls hl => ?_)
            refine lv_iload_n hx hb dX1_part_28 rfl (lv_at hl 2 rfl) ?_
            refine lv_iconst (v := 1) hx hb dX1_part_29 (by decide) ?_
            refine lv_icmp_eq (tgt := 38) hx hb dX1_part_30 (by decide) (fun c_14 => ?_) (fun c_14 => ?_)
            · refine lv_iconst (v := bI true) hx hb dX1_part_38 (by decide) ?_
              refine lv_goto (tgt := 43) hx hb dX1_part_39 (by decide) ?_
              refine lv_istore (lv' := [(8, .int (bI true)), (7, .int (bI false)), (0, .ref aR), (1, .int 1), (2, .int f), (3, .int (bI fi)), (4, .int t), (5, .int (bI ti)), (6, .int (bI fl))]) hx hb dX1_part_43 hl (by decide) rfl (fun ls hl => ?_)
              refine lv_iload hx hb dX1_part_45 (lv_at hl 1 rfl) ?_
              refine b_eq (tgt := 60) hx hb dX1_part_47 (by decide) (fun c_15 => ?_) (fun c_15 => ?_)
              · refine lv_iload hx hb dX1_part_60 (lv_at hl 0 rfl) ?_
                refine b_eq (tgt := 79) hx hb dX1_part_62 (by decide) (fun c_16 => ?_) (fun c_16 => ?_)
                · exact absurd c_16 (by decide)
                · refine lv_aload_n hx hb dX1_part_65 rfl (lv_at hl 2 rfl) ?_
                  refine lv_iload hx hb dX1_part_66 (lv_at hl 6 rfl) ?_
                  refine lv_i2l hx hb dX1_part_68 rfl ?_
                  refine lv_iload hx hb dX1_part_69 (lv_at hl 7 rfl) ?_
                  refine go_R (va_runV (As := [.long t.toInt64, .int (bI ti)]) (rest := []) ⟨hx, hb, hml, hown, hts⟩ (c_X1_mayEndAt l D cy aR lo li hi hn t.toInt64 ti) (cwV 2 hts gX1_part_X1_mayEndAt rfl rfl rfl (by decide +kernel) ⟨(Nat.le_of_ble_eq_true rfl), (Nat.le_of_ble_eq_true rfl)⟩) (preV_W hK (hP.sub [0] rfl) 0 1 rfl rfl) rfl rfl hl.1 rfl (lv_room (Nat.le_of_ble_eq_true rfl)) dX1_part_71 ⟨(Nat.le_of_ble_eq_true rfl), (Nat.le_of_ble_eq_true rfl)⟩) ?_
                  refine b_ne (tgt := 79) hx hb dX1_part_74 (by decide) (fun ht1 => ?_) (fun ht1 => ?_)
                  · refine lv_iload hx hb dX1_part_79 (lv_at hl 1 rfl) ?_
                    refine b_eq (tgt := 111) hx hb dX1_part_81 (by decide) (fun c_18 => ?_) (fun c_18 => ?_)
                    · refine lv_iload hx hb dX1_part_111 (lv_at hl 1 rfl) ?_
                      refine b_eq (tgt := 128) hx hb dX1_part_113 (by decide) (fun c_19 => ?_) (fun c_19 => ?_)
                      · refine lv_aload_n hx hb dX1_part_128 rfl (lv_at hl 2 rfl) ?_
                        refine lv_astore (lv' := [(9, .ref aR), (8, .int (bI true)), (7, .int (bI false)), (0, .ref aR), (1, .int 1), (2, .int f), (3, .int (bI fi)), (4, .int t), (5, .int (bI ti)), (6, .int (bI fl))]) hx hb dX1_part_129 hl (by decide) rfl (fun ls hl => ?_)
                        refine lv_iload hx hb dX1_part_131 (lv_at hl 1 rfl) ?_
                        refine b_eq (tgt := 159) hx hb dX1_part_133 (by decide) (fun c_20 => ?_) (fun c_20 => ?_)
                        · exact absurd c_20 (by decide)
                        · refine lv_aload hx hb dX1_part_136 (lv_at hl 0 rfl) ?_
                          refine lv_iload hx hb dX1_part_138 (lv_at hl 9 rfl) ?_
                          refine b_ne (tgt := 147) hx hb dX1_part_140 (by decide) (fun hfl2 => ?_) (fun hfl2 => ?_)
                          · refine lv_iconst (v := bI false) hx hb dX1_part_147 (by decide) ?_
                            refine lv_iload hx hb dX1_part_148 (lv_at hl 7 rfl) ?_
                            refine lv_i2l hx hb dX1_part_150 rfl ?_
                            refine lv_iload hx hb dX1_part_151 (lv_at hl 8 rfl) ?_
                            refine go_X (va_runV (As := [.int (bI false), .long t.toInt64, .int (bI ti)]) (rest := []) ⟨hx, hb, hml, hown, hts⟩ (c_X1_withEnd l D cy aR lo li hi hn _ false t.toInt64 ti) (cwV 3 hts gX1_part_X1_withEnd rfl rfl rfl (by decide +kernel) ⟨Nat.le_of_ble_eq_true rfl, Nat.le_of_ble_eq_true rfl⟩) (preV_Z hK (hP.sub [0] rfl) 0 1 rfl rfl) rfl rfl hl.1 rfl (lv_room (Nat.le_of_ble_eq_true rfl)) dX1_part_153 ⟨Nat.le_of_ble_eq_true rfl, Nat.le_of_ble_eq_true rfl⟩) hS (fun q h => mA_sub [] rfl hS.1 h) (fun qN22 tt H1 locs1 ht hvm hB hzz hk hS => ?_)
                            obtain ⟨hqN22, hPn⟩ := hB
                            rw [ht] at hPn
                            have hqN22 : s.heap.size ≤ qN22 := by omega
                            have hP : va_P D vwCl [(aR, .inr (1, [.long lo, .int (bI li), .long hi, .int (bI hn)])), (qN22, .inr (1, [.long (if false = true then lo else t.toInt64), .int (bI (if false = true then li else ti)), .long (if false = true then t.toInt64 else hi), .int (bI (if false = true then ti else hn))]))] H1 := (P_keepS hP0 (fun q _ => List.not_mem_nil) hS).app hPn
                            have hS1 := hS.1
                            generalize H1 = H at hP hS hS1 ⊢
                            generalize locs1 = locs at hS ⊢
                            refine W.eq (g2 := F0 mM 156 ls (.ref qN22 :: [])) rfl ?_
                            refine lv_goto (tgt := 161) hx hb dX1_part_156 (by decide) ?_
                            have hz : prt lo li hi hn 1 f fi t ti fl = some (if false = true then lo else t.toInt64, (if false = true then li else ti), if false = true then t.toInt64 else hi, (if false = true then ti else hn)) := by simp [prt, ht1, wE, hfl2]
                            refine W.widen (k := 2) (n := 8) (by decide) (by decide) ?_
                            exact ret_aX hx hb hr (Or.inl ⟨_, rfl⟩) hlocks dX1_part_161 hS (some qN22) rfl (Or.inr ⟨_, rfl⟩) (fun t ht => by rw [hz]; exact ⟨qN22, rfl, Or.inr hqN22, by rw [ht]; exact hP.sub [1] rfl⟩)
                          · refine lv_iconst (v := bI true) hx hb dX1_part_143 (by decide) ?_
                            refine lv_goto (tgt := 148) hx hb dX1_part_144 (by decide) ?_
                            refine lv_iload hx hb dX1_part_148 (lv_at hl 7 rfl) ?_
                            refine lv_i2l hx hb dX1_part_150 rfl ?_
                            refine lv_iload hx hb dX1_part_151 (lv_at hl 8 rfl) ?_
                            refine go_X (va_runV (As := [.int (bI true), .long t.toInt64, .int (bI ti)]) (rest := []) ⟨hx, hb, hml, hown, hts⟩ (c_X1_withEnd l D cy aR lo li hi hn _ true t.toInt64 ti) (cwV 3 hts gX1_part_X1_withEnd rfl rfl rfl (by decide +kernel) ⟨Nat.le_of_ble_eq_true rfl, Nat.le_of_ble_eq_true rfl⟩) (preV_Z hK (hP.sub [0] rfl) 0 1 rfl rfl) rfl rfl hl.1 rfl (lv_room (Nat.le_of_ble_eq_true rfl)) dX1_part_153 ⟨Nat.le_of_ble_eq_true rfl, Nat.le_of_ble_eq_true rfl⟩) hS (fun q h => mA_sub [] rfl hS.1 h) (fun qN23 tt H1 locs1 ht hvm hB hzz hk hS => ?_)
                            obtain ⟨hqN23, hPn⟩ := hB
                            rw [ht] at hPn
                            have hqN23 : s.heap.size ≤ qN23 := by omega
                            have hP : va_P D vwCl [(aR, .inr (1, [.long lo, .int (bI li), .long hi, .int (bI hn)])), (qN23, .inr (1, [.long (if true = true then lo else t.toInt64), .int (bI (if true = true then li else ti)), .long (if true = true then t.toInt64 else hi), .int (bI (if true = true then ti else hn))]))] H1 := (P_keepS hP0 (fun q _ => List.not_mem_nil) hS).app hPn
                            have hS1 := hS.1
                            generalize H1 = H at hP hS hS1 ⊢
                            generalize locs1 = locs at hS ⊢
                            refine W.eq (g2 := F0 mM 156 ls (.ref qN23 :: [])) rfl ?_
                            refine lv_goto (tgt := 161) hx hb dX1_part_156 (by decide) ?_
                            have hz : prt lo li hi hn 1 f fi t ti fl = some (if true = true then lo else t.toInt64, (if true = true then li else ti), if true = true then t.toInt64 else hi, (if true = true then ti else hn)) := by simp [prt, ht1, wE, hfl2]
                            refine W.widen (k := 2) (n := 8) (by decide) (by decide) ?_
                            exact ret_aX hx hb hr (Or.inl ⟨_, rfl⟩) hlocks dX1_part_161 hS (some qN23) rfl (Or.inr ⟨_, rfl⟩) (fun t ht => by rw [hz]; exact ⟨qN23, rfl, Or.inr hqN23, by rw [ht]; exact hP.sub [1] rfl⟩)
                      · exact absurd c_19 (by decide)
                    · exact absurd c_18 (by decide)
                  · have hz : prt lo li hi hn 1 f fi t ti fl = none := by simp [prt, ht1]
                    refine lv_null hx hb dX1_part_77 ?_
                    refine W.widen (k := 2) (n := 8) (by decide) (by decide) ?_
                    exact ret_aX hx hb hr (Or.inl ⟨_, rfl⟩) hlocks dX1_part_78 hS none rfl (Or.inl rfl) (fun t ht => by rw [hz]; rfl)
              · exact absurd c_15 (by decide)
            · exact absurd c_14 (by decide)
          · exact absurd c_13 (by decide)
      · have hk0 : True := trivial
        refine lv_iload_n hx hb dX1_part_11 rfl (lv_at hl 1 rfl) ?_
        refine lv_iconst (v := 2) hx hb dX1_part_12 (by decide) ?_
        refine lv_icmp_eq (tgt := 21) hx hb dX1_part_13 (by decide) (fun c_24 => ?_) (fun c_24 => ?_)
        · refine lv_iconst (v := bI true) hx hb dX1_part_21 (by decide) ?_
          refine lv_goto (tgt := 26) hx hb dX1_part_22 (by decide) ?_
          refine lv_istore (lv' := [(7, .int (bI true)), (0, .ref aR), (1, .int 2), (2, .int f), (3, .int (bI fi)), (4, .int t), (5, .int (bI ti)), (6, .int (bI fl))]) hx hb dX1_part_26 hl (by decide) rfl (fun ls hl => ?_)
          refine lv_iload_n hx hb dX1_part_28 rfl (lv_at hl 2 rfl) ?_
          refine lv_iconst (v := 1) hx hb dX1_part_29 (by decide) ?_
          refine lv_icmp_eq (tgt := 38) hx hb dX1_part_30 (by decide) (fun c_25 => ?_) (fun c_25 => ?_)
          · exact absurd c_25 (by decide)
          · refine lv_iload_n hx hb dX1_part_33 rfl (lv_at hl 2 rfl) ?_
            refine lv_iconst (v := 3) hx hb dX1_part_34 (by decide) ?_
            refine lv_icmp_ne (tgt := 42) hx hb dX1_part_35 (by decide) (fun c_26 => ?_) (fun c_26 => ?_)
            · refine lv_iconst (v := bI false) hx hb dX1_part_42 (by decide) ?_
              refine lv_istore (lv' := [(8, .int (bI false)), (7, .int (bI true)), (0, .ref aR), (1, .int 2), (2, .int f), (3, .int (bI fi)), (4, .int t), (5, .int (bI ti)), (6, .int (bI fl))]) hx hb dX1_part_43 hl (by decide) rfl (fun ls hl => ?_)
              refine lv_iload hx hb dX1_part_45 (lv_at hl 1 rfl) ?_
              refine b_eq (tgt := 60) hx hb dX1_part_47 (by decide) (fun c_27 => ?_) (fun c_27 => ?_)
              · exact absurd c_27 (by decide)
              · refine lv_aload_n hx hb dX1_part_50 rfl (lv_at hl 2 rfl) ?_
                refine lv_iload_n hx hb dX1_part_51 rfl (lv_at hl 4 rfl) ?_
                refine lv_i2l hx hb dX1_part_52 rfl ?_
                refine lv_iload_n hx hb dX1_part_53 rfl (lv_at hl 5 rfl) ?_
                refine go_R (va_runV (As := [.long f.toInt64, .int (bI fi)]) (rest := []) ⟨hx, hb, hml, hown, hts⟩ (c_X1_mayEndAt l D cy aR lo li hi hn f.toInt64 fi) (cwV 2 hts gX1_part_X1_mayEndAt rfl rfl rfl (by decide +kernel) ⟨(Nat.le_of_ble_eq_true rfl), (Nat.le_of_ble_eq_true rfl)⟩) (preV_W hK (hP.sub [0] rfl) 0 1 rfl rfl) rfl rfl hl.1 rfl (lv_room (Nat.le_of_ble_eq_true rfl)) dX1_part_54 ⟨(Nat.le_of_ble_eq_true rfl), (Nat.le_of_ble_eq_true rfl)⟩) ?_
                refine b_eq (tgt := 77) hx hb dX1_part_57 (by decide) (fun hf => ?_) (fun hf => ?_)
                · have hz : prt lo li hi hn 2 f fi t ti fl = none := by simp [prt, hf]
                  refine lv_null hx hb dX1_part_77 ?_
                  refine W.widen (k := 2) (n := 8) (by decide) (by decide) ?_
                  exact ret_aX hx hb hr (Or.inl ⟨_, rfl⟩) hlocks dX1_part_78 hS none rfl (Or.inl rfl) (fun t ht => by rw [hz]; rfl)
                · refine lv_iload hx hb dX1_part_60 (lv_at hl 0 rfl) ?_
                  refine b_eq (tgt := 79) hx hb dX1_part_62 (by decide) (fun c_29 => ?_) (fun c_29 => ?_)
                  · refine lv_iload hx hb dX1_part_79 (lv_at hl 1 rfl) ?_
                    refine b_eq (tgt := 111) hx hb dX1_part_81 (by decide) (fun c_30 => ?_) (fun c_30 => ?_)
                    · exact absurd c_30 (by decide)
                    · refine lv_iload hx hb dX1_part_84 (lv_at hl 0 rfl) ?_
                      refine b_eq (tgt := 111) hx hb dX1_part_86 (by decide) (fun c_31 => ?_) (fun c_31 => ?_)
                      · refine lv_iload hx hb dX1_part_111 (lv_at hl 1 rfl) ?_
                        refine b_eq (tgt := 128) hx hb dX1_part_113 (by decide) (fun c_32 => ?_) (fun c_32 => ?_)
                        · exact absurd c_32 (by decide)
                        · refine lv_aload_n hx hb dX1_part_116 rfl (lv_at hl 2 rfl) ?_
                          refine lv_iload hx hb dX1_part_117 (lv_at hl 8 rfl) ?_
                          refine lv_iload_n hx hb dX1_part_119 rfl (lv_at hl 4 rfl) ?_
                          refine lv_i2l hx hb dX1_part_120 rfl ?_
                          refine lv_iload_n hx hb dX1_part_121 rfl (lv_at hl 5 rfl) ?_
                          refine go_X (va_runV (As := [.int (bI fl), .long f.toInt64, .int (bI fi)]) (rest := []) ⟨hx, hb, hml, hown, hts⟩ (c_X1_withEnd l D cy aR lo li hi hn _ fl f.toInt64 fi) (cwV 3 hts gX1_part_X1_withEnd rfl rfl rfl (by decide +kernel) ⟨Nat.le_of_ble_eq_true rfl, Nat.le_of_ble_eq_true rfl⟩) (preV_Z hK (hP.sub [0] rfl) 0 1 rfl rfl) rfl rfl hl.1 rfl (lv_room (Nat.le_of_ble_eq_true rfl)) dX1_part_122 ⟨Nat.le_of_ble_eq_true rfl, Nat.le_of_ble_eq_true rfl⟩) hS (fun q h => mA_sub [] rfl hS.1 h) (fun qN33 tt H1 locs1 ht hvm hB hzz hk hS => ?_)
                          obtain ⟨hqN33, hPn⟩ := hB
                          rw [ht] at hPn
                          have hqN33 : s.heap.size ≤ qN33 := by omega
                          have hP : va_P D vwCl [(aR, .inr (1, [.long lo, .int (bI li), .long hi, .int (bI hn)])), (qN33, .inr (1, [.long (if fl = true then lo else f.toInt64), .int (bI (if fl = true then li else fi)), .long (if fl = true then f.toInt64 else hi), .int (bI (if fl = true then fi else hn))]))] H1 := (P_keepS hP0 (fun q _ => List.not_mem_nil) hS).app hPn
                          have hS1 := hS.1
                          generalize H1 = H at hP hS hS1 ⊢
                          generalize locs1 = locs at hS ⊢
                          refine W.eq (g2 := F0 mM 125 ls (.ref qN33 :: [])) rfl ?_
                          refine lv_goto (tgt := 129) hx hb dX1_part_125 (by decide) ?_
                          refine lv_astore (lv' := [(9, .ref qN33), (8, .int (bI false)), (7, .int (bI true)), (0, .ref aR), (1, .int 2), (2, .int f), (3, .int (bI fi)), (4, .int t), (5, .int (bI ti)), (6, .int (bI fl))]) hx hb dX1_part_129 hl (by decide) rfl (fun ls hl => ?_)
                          refine lv_iload hx hb dX1_part_131 (lv_at hl 1 rfl) ?_
                          refine b_eq (tgt := 159) hx hb dX1_part_133 (by decide) (fun c_34 => ?_) (fun c_34 => ?_)
                          · refine lv_aload hx hb dX1_part_159 (lv_at hl 0 rfl) ?_
                            have hz : prt lo li hi hn 2 f fi t ti fl = some (if fl = true then lo else f.toInt64, (if fl = true then li else fi), if fl = true then f.toInt64 else hi, (if fl = true then fi else hn)) := by simp [prt, hf, wE]
                            refine W.widen (k := 2) (n := 8) (by decide) (by decide) ?_
                            exact ret_aX hx hb hr (Or.inl ⟨_, rfl⟩) hlocks dX1_part_161 hS (some qN33) rfl (Or.inr ⟨_, rfl⟩) (fun t ht => by rw [hz]; exact ⟨qN33, rfl, Or.inr hqN33, by rw [ht]; exact hP.sub [1] rfl⟩)
                          · exact absurd c_34 (by decide)
                      · exact absurd c_31 (by decide)
                  · exact absurd c_29 (by decide)
            · exact absurd c_26 (by decide)
        · exact absurd c_24 (by decide)
      · have hk0 : True := trivial
        refine lv_iload_n hx hb dX1_part_11 rfl (lv_at hl 1 rfl) ?_
        refine lv_iconst (v := 2) hx hb dX1_part_12 (by decide) ?_
        refine lv_icmp_eq (tgt := 21) hx hb dX1_part_13 (by decide) (fun c_35 => ?_) (fun c_35 => ?_)
        · exact absurd c_35 (by decide)
        · refine lv_iload_n hx hb dX1_part_16 rfl (lv_at hl 1 rfl) ?_
          refine lv_iconst (v := 3) hx hb dX1_part_17 (by decide) ?_
          refine lv_icmp_ne (tgt := 25) hx hb dX1_part_18 (by decide) (fun c_36 => ?_) (fun c_36 => ?_)
          · exact absurd c_36 (by decide)
          · refine lv_iconst (v := bI true) hx hb dX1_part_21 (by decide) ?_
            refine lv_goto (tgt := 26) hx hb dX1_part_22 (by decide) ?_
            refine lv_istore (lv' := [(7, .int (bI true)), (0, .ref aR), (1, .int 3), (2, .int f), (3, .int (bI fi)), (4, .int t), (5, .int (bI ti)), (6, .int (bI fl))]) hx hb dX1_part_26 hl (by decide) rfl (fun ls hl => ?_)
            refine lv_iload_n hx hb dX1_part_28 rfl (lv_at hl 2 rfl) ?_
            refine lv_iconst (v := 1) hx hb dX1_part_29 (by decide) ?_
            refine lv_icmp_eq (tgt := 38) hx hb dX1_part_30 (by decide) (fun c_37 => ?_) (fun c_37 => ?_)
            · exact absurd c_37 (by decide)
            · refine lv_iload_n hx hb dX1_part_33 rfl (lv_at hl 2 rfl) ?_
              refine lv_iconst (v := 3) hx hb dX1_part_34 (by decide) ?_
              refine lv_icmp_ne (tgt := 42) hx hb dX1_part_35 (by decide) (fun c_38 => ?_) (fun c_38 => ?_)
              · exact absurd c_38 (by decide)
              · refine lv_iconst (v := bI true) hx hb dX1_part_38 (by decide) ?_
                refine lv_goto (tgt := 43) hx hb dX1_part_39 (by decide) ?_
                refine lv_istore (lv' := [(8, .int (bI true)), (7, .int (bI true)), (0, .ref aR), (1, .int 3), (2, .int f), (3, .int (bI fi)), (4, .int t), (5, .int (bI ti)), (6, .int (bI fl))]) hx hb dX1_part_43 hl (by decide) rfl (fun ls hl => ?_)
                refine lv_iload hx hb dX1_part_45 (lv_at hl 1 rfl) ?_
                refine b_eq (tgt := 60) hx hb dX1_part_47 (by decide) (fun c_39 => ?_) (fun c_39 => ?_)
                · exact absurd c_39 (by decide)
                · refine lv_aload_n hx hb dX1_part_50 rfl (lv_at hl 2 rfl) ?_
                  refine lv_iload_n hx hb dX1_part_51 rfl (lv_at hl 4 rfl) ?_
                  refine lv_i2l hx hb dX1_part_52 rfl ?_
                  refine lv_iload_n hx hb dX1_part_53 rfl (lv_at hl 5 rfl) ?_
                  refine go_R (va_runV (As := [.long f.toInt64, .int (bI fi)]) (rest := []) ⟨hx, hb, hml, hown, hts⟩ (c_X1_mayEndAt l D cy aR lo li hi hn f.toInt64 fi) (cwV 2 hts gX1_part_X1_mayEndAt rfl rfl rfl (by decide +kernel) ⟨(Nat.le_of_ble_eq_true rfl), (Nat.le_of_ble_eq_true rfl)⟩) (preV_W hK (hP.sub [0] rfl) 0 1 rfl rfl) rfl rfl hl.1 rfl (lv_room (Nat.le_of_ble_eq_true rfl)) dX1_part_54 ⟨(Nat.le_of_ble_eq_true rfl), (Nat.le_of_ble_eq_true rfl)⟩) ?_
                  refine b_eq (tgt := 77) hx hb dX1_part_57 (by decide) (fun hf => ?_) (fun hf => ?_)
                  · have hz : prt lo li hi hn 3 f fi t ti fl = none := by simp [prt, hf]
                    refine lv_null hx hb dX1_part_77 ?_
                    refine W.widen (k := 2) (n := 8) (by decide) (by decide) ?_
                    exact ret_aX hx hb hr (Or.inl ⟨_, rfl⟩) hlocks dX1_part_78 hS none rfl (Or.inl rfl) (fun t ht => by rw [hz]; rfl)
                  · refine lv_iload hx hb dX1_part_60 (lv_at hl 0 rfl) ?_
                    refine b_eq (tgt := 79) hx hb dX1_part_62 (by decide) (fun c_41 => ?_) (fun c_41 => ?_)
                    · exact absurd c_41 (by decide)
                    · refine lv_aload_n hx hb dX1_part_65 rfl (lv_at hl 2 rfl) ?_
                      refine lv_iload hx hb dX1_part_66 (lv_at hl 6 rfl) ?_
                      refine lv_i2l hx hb dX1_part_68 rfl ?_
                      refine lv_iload hx hb dX1_part_69 (lv_at hl 7 rfl) ?_
                      refine go_R (va_runV (As := [.long t.toInt64, .int (bI ti)]) (rest := []) ⟨hx, hb, hml, hown, hts⟩ (c_X1_mayEndAt l D cy aR lo li hi hn t.toInt64 ti) (cwV 2 hts gX1_part_X1_mayEndAt rfl rfl rfl (by decide +kernel) ⟨(Nat.le_of_ble_eq_true rfl), (Nat.le_of_ble_eq_true rfl)⟩) (preV_W hK (hP.sub [0] rfl) 0 1 rfl rfl) rfl rfl hl.1 rfl (lv_room (Nat.le_of_ble_eq_true rfl)) dX1_part_71 ⟨(Nat.le_of_ble_eq_true rfl), (Nat.le_of_ble_eq_true rfl)⟩) ?_
                      refine b_ne (tgt := 79) hx hb dX1_part_74 (by decide) (fun ht1 => ?_) (fun ht1 => ?_)
                      · refine lv_iload hx hb dX1_part_79 (lv_at hl 1 rfl) ?_
                        refine b_eq (tgt := 111) hx hb dX1_part_81 (by decide) (fun c_43 => ?_) (fun c_43 => ?_)
                        · exact absurd c_43 (by decide)
                        · refine lv_iload hx hb dX1_part_84 (lv_at hl 0 rfl) ?_
                          refine b_eq (tgt := 111) hx hb dX1_part_86 (by decide) (fun c_44 => ?_) (fun c_44 => ?_)
                          · exact absurd c_44 (by decide)
                          · refine lv_iload hx hb dX1_part_89 (lv_at hl 8 rfl) ?_
                            refine b_eq (tgt := 103) hx hb dX1_part_91 (by decide) (fun hfl => ?_) (fun hfl => ?_)
                            · refine lv_iload_n hx hb dX1_part_103 rfl (lv_at hl 4 rfl) ?_
                              refine lv_iload hx hb dX1_part_104 (lv_at hl 6 rfl) ?_
                              refine lv_icmp_le (tgt := 111) hx hb dX1_part_106 (by decide) (fun hft => ?_) (fun hft => ?_)
                              · refine lv_iload hx hb dX1_part_111 (lv_at hl 1 rfl) ?_
                                refine b_eq (tgt := 128) hx hb dX1_part_113 (by decide) (fun c_47 => ?_) (fun c_47 => ?_)
                                · exact absurd c_47 (by decide)
                                · refine lv_aload_n hx hb dX1_part_116 rfl (lv_at hl 2 rfl) ?_
                                  refine lv_iload hx hb dX1_part_117 (lv_at hl 8 rfl) ?_
                                  refine lv_iload_n hx hb dX1_part_119 rfl (lv_at hl 4 rfl) ?_
                                  refine lv_i2l hx hb dX1_part_120 rfl ?_
                                  refine lv_iload_n hx hb dX1_part_121 rfl (lv_at hl 5 rfl) ?_
                                  refine go_X (va_runV (As := [.int (bI fl), .long f.toInt64, .int (bI fi)]) (rest := []) ⟨hx, hb, hml, hown, hts⟩ (c_X1_withEnd l D cy aR lo li hi hn _ fl f.toInt64 fi) (cwV 3 hts gX1_part_X1_withEnd rfl rfl rfl (by decide +kernel) ⟨Nat.le_of_ble_eq_true rfl, Nat.le_of_ble_eq_true rfl⟩) (preV_Z hK (hP.sub [0] rfl) 0 1 rfl rfl) rfl rfl hl.1 rfl (lv_room (Nat.le_of_ble_eq_true rfl)) dX1_part_122 ⟨Nat.le_of_ble_eq_true rfl, Nat.le_of_ble_eq_true rfl⟩) hS (fun q h => mA_sub [] rfl hS.1 h) (fun qN48 tt H1 locs1 ht hvm hB hzz hk hS => ?_)
                                  obtain ⟨hqN48, hPn⟩ := hB
                                  rw [ht] at hPn
                                  have hqN48 : s.heap.size ≤ qN48 := by omega
                                  have hP : va_P D vwCl [(aR, .inr (1, [.long lo, .int (bI li), .long hi, .int (bI hn)])), (qN48, .inr (1, [.long (if fl = true then lo else f.toInt64), .int (bI (if fl = true then li else fi)), .long (if fl = true then f.toInt64 else hi), .int (bI (if fl = true then fi else hn))]))] H1 := (P_keepS hP0 (fun q _ => List.not_mem_nil) hS).app hPn
                                  have hS1 := hS.1
                                  generalize H1 = H at hP hS hS1 ⊢
                                  generalize locs1 = locs at hS ⊢
                                  refine W.eq (g2 := F0 mM 125 ls (.ref qN48 :: [])) rfl ?_
                                  refine lv_goto (tgt := 129) hx hb dX1_part_125 (by decide) ?_
                                  refine lv_astore (lv' := [(9, .ref qN48), (8, .int (bI true)), (7, .int (bI true)), (0, .ref aR), (1, .int 3), (2, .int f), (3, .int (bI fi)), (4, .int t), (5, .int (bI ti)), (6, .int (bI fl))]) hx hb dX1_part_129 hl (by decide) rfl (fun ls hl => ?_)
                                  refine lv_iload hx hb dX1_part_131 (lv_at hl 1 rfl) ?_
                                  refine b_eq (tgt := 159) hx hb dX1_part_133 (by decide) (fun c_49 => ?_) (fun c_49 => ?_)
                                  · exact absurd c_49 (by decide)
                                  · refine lv_aload hx hb dX1_part_136 (lv_at hl 0 rfl) ?_
                                    refine lv_iload hx hb dX1_part_138 (lv_at hl 9 rfl) ?_
                                    refine b_ne (tgt := 147) hx hb dX1_part_140 (by decide) (fun hfl2 => ?_) (fun hfl2 => ?_)
                                    · refine lv_iconst (v := bI false) hx hb dX1_part_147 (by decide) ?_
                                      refine lv_iload hx hb dX1_part_148 (lv_at hl 7 rfl) ?_
                                      refine lv_i2l hx hb dX1_part_150 rfl ?_
                                      refine lv_iload hx hb dX1_part_151 (lv_at hl 8 rfl) ?_
                                      refine go_X (va_runV (As := [.int (bI false), .long t.toInt64, .int (bI ti)]) (rest := []) ⟨hx, hb, hml, hown, hts⟩ (c_X1_withEnd l D cy qN48 (if fl = true then lo else f.toInt64) ((if fl = true then li else fi)) (if fl = true then f.toInt64 else hi) ((if fl = true then fi else hn)) _ false t.toInt64 ti) (cwV 3 hts gX1_part_X1_withEnd rfl rfl rfl (by decide +kernel) ⟨Nat.le_of_ble_eq_true rfl, Nat.le_of_ble_eq_true rfl⟩) (preV_Z hK (hP.sub [1] rfl) 0 1 rfl rfl) rfl rfl hl.1 rfl (lv_room (Nat.le_of_ble_eq_true rfl)) dX1_part_153 ⟨Nat.le_of_ble_eq_true rfl, Nat.le_of_ble_eq_true rfl⟩) hS (fun q h => mA_sub [] rfl hS.1 h) (fun qN51 tt H1 locs1 ht hvm hB hzz hk hS => ?_)
                                      obtain ⟨hqN51, hPn⟩ := hB
                                      rw [ht] at hPn
                                      have hqN51 : s.heap.size ≤ qN51 := by omega
                                      have hP : va_P D vwCl [(aR, .inr (1, [.long lo, .int (bI li), .long hi, .int (bI hn)])), (qN51, .inr (1, [.long (if false = true then (if fl = true then lo else f.toInt64) else t.toInt64), .int (bI (if false = true then ((if fl = true then li else fi)) else ti)), .long (if false = true then t.toInt64 else (if fl = true then f.toInt64 else hi)), .int (bI (if false = true then ti else ((if fl = true then fi else hn))))]))] H1 := (P_keepS hP0 (fun q _ => List.not_mem_nil) hS).app hPn
                                      have hS1 := hS.1
                                      generalize H1 = H at hP hS hS1 ⊢
                                      generalize locs1 = locs at hS ⊢
                                      refine W.eq (g2 := F0 mM 156 ls (.ref qN51 :: [])) rfl ?_
                                      refine lv_goto (tgt := 161) hx hb dX1_part_156 (by decide) ?_
                                      have hz : prt lo li hi hn 3 f fi t ti fl = some (if false = true then (if fl = true then lo else f.toInt64) else t.toInt64, (if false = true then ((if fl = true then li else fi)) else ti), if false = true then t.toInt64 else (if fl = true then f.toInt64 else hi), (if false = true then ti else ((if fl = true then fi else hn)))) := by first | exact absurd (hfl.symm.trans hfl2) (by decide) | (simp [prt, hf, ht1, hfl, Int32.not_lt.mpr hft, wE]; done)
                                      refine W.widen (k := 2) (n := 8) (by decide) (by decide) ?_
                                      exact ret_aX hx hb hr (Or.inl ⟨_, rfl⟩) hlocks dX1_part_161 hS (some qN51) rfl (Or.inr ⟨_, rfl⟩) (fun t ht => by rw [hz]; exact ⟨qN51, rfl, Or.inr hqN51, by rw [ht]; exact hP.sub [1] rfl⟩)
                                    · refine lv_iconst (v := bI true) hx hb dX1_part_143 (by decide) ?_
                                      refine lv_goto (tgt := 148) hx hb dX1_part_144 (by decide) ?_
                                      refine lv_iload hx hb dX1_part_148 (lv_at hl 7 rfl) ?_
                                      refine lv_i2l hx hb dX1_part_150 rfl ?_
                                      refine lv_iload hx hb dX1_part_151 (lv_at hl 8 rfl) ?_
                                      refine go_X (va_runV (As := [.int (bI true), .long t.toInt64, .int (bI ti)]) (rest := []) ⟨hx, hb, hml, hown, hts⟩ (c_X1_withEnd l D cy qN48 (if fl = true then lo else f.toInt64) ((if fl = true then li else fi)) (if fl = true then f.toInt64 else hi) ((if fl = true then fi else hn)) _ true t.toInt64 ti) (cwV 3 hts gX1_part_X1_withEnd rfl rfl rfl (by decide +kernel) ⟨Nat.le_of_ble_eq_true rfl, Nat.le_of_ble_eq_true rfl⟩) (preV_Z hK (hP.sub [1] rfl) 0 1 rfl rfl) rfl rfl hl.1 rfl (lv_room (Nat.le_of_ble_eq_true rfl)) dX1_part_153 ⟨Nat.le_of_ble_eq_true rfl, Nat.le_of_ble_eq_true rfl⟩) hS (fun q h => mA_sub [] rfl hS.1 h) (fun qN52 tt H1 locs1 ht hvm hB hzz hk hS => ?_)
                                      obtain ⟨hqN52, hPn⟩ := hB
                                      rw [ht] at hPn
                                      have hqN52 : s.heap.size ≤ qN52 := by omega
                                      have hP : va_P D vwCl [(aR, .inr (1, [.long lo, .int (bI li), .long hi, .int (bI hn)])), (qN52, .inr (1, [.long (if true = true then (if fl = true then lo else f.toInt64) else t.toInt64), .int (bI (if true = true then ((if fl = true then li else fi)) else ti)), .long (if true = true then t.toInt64 else (if fl = true then f.toInt64 else hi)), .int (bI (if true = true then ti else ((if fl = true then fi else hn))))]))] H1 := (P_keepS hP0 (fun q _ => List.not_mem_nil) hS).app hPn
                                      have hS1 := hS.1
                                      generalize H1 = H at hP hS hS1 ⊢
                                      generalize locs1 = locs at hS ⊢
                                      refine W.eq (g2 := F0 mM 156 ls (.ref qN52 :: [])) rfl ?_
                                      refine lv_goto (tgt := 161) hx hb dX1_part_156 (by decide) ?_
                                      have hz : prt lo li hi hn 3 f fi t ti fl = some (if true = true then (if fl = true then lo else f.toInt64) else t.toInt64, (if true = true then ((if fl = true then li else fi)) else ti), if true = true then t.toInt64 else (if fl = true then f.toInt64 else hi), (if true = true then ti else ((if fl = true then fi else hn)))) := by first | exact absurd (hfl.symm.trans hfl2) (by decide) | (simp [prt, hf, ht1, hfl, Int32.not_lt.mpr hft, wE]; done)
                                      refine W.widen (k := 2) (n := 8) (by decide) (by decide) ?_
                                      exact ret_aX hx hb hr (Or.inl ⟨_, rfl⟩) hlocks dX1_part_161 hS (some qN52) rfl (Or.inr ⟨_, rfl⟩) (fun t ht => by rw [hz]; exact ⟨qN52, rfl, Or.inr hqN52, by rw [ht]; exact hP.sub [1] rfl⟩)
                              · have hz : prt lo li hi hn 3 f fi t ti fl = none := by simp [prt, hf, ht1, hfl, Int32.not_le.mp hft]
                                refine lv_null hx hb dX1_part_109 ?_
                                refine W.widen (k := 2) (n := 8) (by decide) (by decide) ?_
                                exact ret_aX hx hb hr (Or.inl ⟨_, rfl⟩) hlocks dX1_part_110 hS none rfl (Or.inl rfl) (fun t ht => by rw [hz]; rfl)
                            · refine lv_iload_n hx hb dX1_part_94 rfl (lv_at hl 4 rfl) ?_
                              refine lv_iload hx hb dX1_part_95 (lv_at hl 6 rfl) ?_
                              refine lv_icmp_ge (tgt := 111) hx hb dX1_part_97 (by decide) (fun hft => ?_) (fun hft => ?_)
                              · refine lv_iload hx hb dX1_part_111 (lv_at hl 1 rfl) ?_
                                refine b_eq (tgt := 128) hx hb dX1_part_113 (by decide) (fun c_54 => ?_) (fun c_54 => ?_)
                                · exact absurd c_54 (by decide)
                                · refine lv_aload_n hx hb dX1_part_116 rfl (lv_at hl 2 rfl) ?_
                                  refine lv_iload hx hb dX1_part_117 (lv_at hl 8 rfl) ?_
                                  refine lv_iload_n hx hb dX1_part_119 rfl (lv_at hl 4 rfl) ?_
                                  refine lv_i2l hx hb dX1_part_120 rfl ?_
                                  refine lv_iload_n hx hb dX1_part_121 rfl (lv_at hl 5 rfl) ?_
                                  refine go_X (va_runV (As := [.int (bI fl), .long f.toInt64, .int (bI fi)]) (rest := []) ⟨hx, hb, hml, hown, hts⟩ (c_X1_withEnd l D cy aR lo li hi hn _ fl f.toInt64 fi) (cwV 3 hts gX1_part_X1_withEnd rfl rfl rfl (by decide +kernel) ⟨Nat.le_of_ble_eq_true rfl, Nat.le_of_ble_eq_true rfl⟩) (preV_Z hK (hP.sub [0] rfl) 0 1 rfl rfl) rfl rfl hl.1 rfl (lv_room (Nat.le_of_ble_eq_true rfl)) dX1_part_122 ⟨Nat.le_of_ble_eq_true rfl, Nat.le_of_ble_eq_true rfl⟩) hS (fun q h => mA_sub [] rfl hS.1 h) (fun qN55 tt H1 locs1 ht hvm hB hzz hk hS => ?_)
                                  obtain ⟨hqN55, hPn⟩ := hB
                                  rw [ht] at hPn
                                  have hqN55 : s.heap.size ≤ qN55 := by omega
                                  have hP : va_P D vwCl [(aR, .inr (1, [.long lo, .int (bI li), .long hi, .int (bI hn)])), (qN55, .inr (1, [.long (if fl = true then lo else f.toInt64), .int (bI (if fl = true then li else fi)), .long (if fl = true then f.toInt64 else hi), .int (bI (if fl = true then fi else hn))]))] H1 := (P_keepS hP0 (fun q _ => List.not_mem_nil) hS).app hPn
                                  have hS1 := hS.1
                                  generalize H1 = H at hP hS hS1 ⊢
                                  generalize locs1 = locs at hS ⊢
                                  refine W.eq (g2 := F0 mM 125 ls (.ref qN55 :: [])) rfl ?_
                                  refine lv_goto (tgt := 129) hx hb dX1_part_125 (by decide) ?_
                                  refine lv_astore (lv' := [(9, .ref qN55), (8, .int (bI true)), (7, .int (bI true)), (0, .ref aR), (1, .int 3), (2, .int f), (3, .int (bI fi)), (4, .int t), (5, .int (bI ti)), (6, .int (bI fl))]) hx hb dX1_part_129 hl (by decide) rfl (fun ls hl => ?_)
                                  refine lv_iload hx hb dX1_part_131 (lv_at hl 1 rfl) ?_
                                  refine b_eq (tgt := 159) hx hb dX1_part_133 (by decide) (fun c_56 => ?_) (fun c_56 => ?_)
                                  · exact absurd c_56 (by decide)
                                  · refine lv_aload hx hb dX1_part_136 (lv_at hl 0 rfl) ?_
                                    refine lv_iload hx hb dX1_part_138 (lv_at hl 9 rfl) ?_
                                    refine b_ne (tgt := 147) hx hb dX1_part_140 (by decide) (fun hfl2 => ?_) (fun hfl2 => ?_)
                                    · refine lv_iconst (v := bI false) hx hb dX1_part_147 (by decide) ?_
                                      refine lv_iload hx hb dX1_part_148 (lv_at hl 7 rfl) ?_
                                      refine lv_i2l hx hb dX1_part_150 rfl ?_
                                      refine lv_iload hx hb dX1_part_151 (lv_at hl 8 rfl) ?_
                                      refine go_X (va_runV (As := [.int (bI false), .long t.toInt64, .int (bI ti)]) (rest := []) ⟨hx, hb, hml, hown, hts⟩ (c_X1_withEnd l D cy qN55 (if fl = true then lo else f.toInt64) ((if fl = true then li else fi)) (if fl = true then f.toInt64 else hi) ((if fl = true then fi else hn)) _ false t.toInt64 ti) (cwV 3 hts gX1_part_X1_withEnd rfl rfl rfl (by decide +kernel) ⟨Nat.le_of_ble_eq_true rfl, Nat.le_of_ble_eq_true rfl⟩) (preV_Z hK (hP.sub [1] rfl) 0 1 rfl rfl) rfl rfl hl.1 rfl (lv_room (Nat.le_of_ble_eq_true rfl)) dX1_part_153 ⟨Nat.le_of_ble_eq_true rfl, Nat.le_of_ble_eq_true rfl⟩) hS (fun q h => mA_sub [] rfl hS.1 h) (fun qN58 tt H1 locs1 ht hvm hB hzz hk hS => ?_)
                                      obtain ⟨hqN58, hPn⟩ := hB
                                      rw [ht] at hPn
                                      have hqN58 : s.heap.size ≤ qN58 := by omega
                                      have hP : va_P D vwCl [(aR, .inr (1, [.long lo, .int (bI li), .long hi, .int (bI hn)])), (qN58, .inr (1, [.long (if false = true then (if fl = true then lo else f.toInt64) else t.toInt64), .int (bI (if false = true then ((if fl = true then li else fi)) else ti)), .long (if false = true then t.toInt64 else (if fl = true then f.toInt64 else hi)), .int (bI (if false = true then ti else ((if fl = true then fi else hn))))]))] H1 := (P_keepS hP0 (fun q _ => List.not_mem_nil) hS).app hPn
                                      have hS1 := hS.1
                                      generalize H1 = H at hP hS hS1 ⊢
                                      generalize locs1 = locs at hS ⊢
                                      refine W.eq (g2 := F0 mM 156 ls (.ref qN58 :: [])) rfl ?_
                                      refine lv_goto (tgt := 161) hx hb dX1_part_156 (by decide) ?_
                                      have hz : prt lo li hi hn 3 f fi t ti fl = some (if false = true then (if fl = true then lo else f.toInt64) else t.toInt64, (if false = true then ((if fl = true then li else fi)) else ti), if false = true then t.toInt64 else (if fl = true then f.toInt64 else hi), (if false = true then ti else ((if fl = true then fi else hn)))) := by first | exact absurd (hfl.symm.trans hfl2) (by decide) | (simp [prt, hf, ht1, hfl, Int32.not_lt.mpr hft, wE]; done)
                                      refine W.widen (k := 2) (n := 8) (by decide) (by decide) ?_
                                      exact ret_aX hx hb hr (Or.inl ⟨_, rfl⟩) hlocks dX1_part_161 hS (some qN58) rfl (Or.inr ⟨_, rfl⟩) (fun t ht => by rw [hz]; exact ⟨qN58, rfl, Or.inr hqN58, by rw [ht]; exact hP.sub [1] rfl⟩)
                                    · refine lv_iconst (v := bI true) hx hb dX1_part_143 (by decide) ?_
                                      refine lv_goto (tgt := 148) hx hb dX1_part_144 (by decide) ?_
                                      refine lv_iload hx hb dX1_part_148 (lv_at hl 7 rfl) ?_
                                      refine lv_i2l hx hb dX1_part_150 rfl ?_
                                      refine lv_iload hx hb dX1_part_151 (lv_at hl 8 rfl) ?_
                                      refine go_X (va_runV (As := [.int (bI true), .long t.toInt64, .int (bI ti)]) (rest := []) ⟨hx, hb, hml, hown, hts⟩ (c_X1_withEnd l D cy qN55 (if fl = true then lo else f.toInt64) ((if fl = true then li else fi)) (if fl = true then f.toInt64 else hi) ((if fl = true then fi else hn)) _ true t.toInt64 ti) (cwV 3 hts gX1_part_X1_withEnd rfl rfl rfl (by decide +kernel) ⟨Nat.le_of_ble_eq_true rfl, Nat.le_of_ble_eq_true rfl⟩) (preV_Z hK (hP.sub [1] rfl) 0 1 rfl rfl) rfl rfl hl.1 rfl (lv_room (Nat.le_of_ble_eq_true rfl)) dX1_part_153 ⟨Nat.le_of_ble_eq_true rfl, Nat.le_of_ble_eq_true rfl⟩) hS (fun q h => mA_sub [] rfl hS.1 h) (fun qN59 tt H1 locs1 ht hvm hB hzz hk hS => ?_)
                                      obtain ⟨hqN59, hPn⟩ := hB
                                      rw [ht] at hPn
                                      have hqN59 : s.heap.size ≤ qN59 := by omega
                                      have hP : va_P D vwCl [(aR, .inr (1, [.long lo, .int (bI li), .long hi, .int (bI hn)])), (qN59, .inr (1, [.long (if true = true then (if fl = true then lo else f.toInt64) else t.toInt64), .int (bI (if true = true then ((if fl = true then li else fi)) else ti)), .long (if true = true then t.toInt64 else (if fl = true then f.toInt64 else hi)), .int (bI (if true = true then ti else ((if fl = true then fi else hn))))]))] H1 := (P_keepS hP0 (fun q _ => List.not_mem_nil) hS).app hPn
                                      have hS1 := hS.1
                                      generalize H1 = H at hP hS hS1 ⊢
                                      generalize locs1 = locs at hS ⊢
                                      refine W.eq (g2 := F0 mM 156 ls (.ref qN59 :: [])) rfl ?_
                                      refine lv_goto (tgt := 161) hx hb dX1_part_156 (by decide) ?_
                                      have hz : prt lo li hi hn 3 f fi t ti fl = some (if true = true then (if fl = true then lo else f.toInt64) else t.toInt64, (if true = true then ((if fl = true then li else fi)) else ti), if true = true then t.toInt64 else (if fl = true then f.toInt64 else hi), (if true = true then ti else ((if fl = true then fi else hn)))) := by first | exact absurd (hfl.symm.trans hfl2) (by decide) | (simp [prt, hf, ht1, hfl, Int32.not_lt.mpr hft, wE]; done)
                                      refine W.widen (k := 2) (n := 8) (by decide) (by decide) ?_
                                      exact ret_aX hx hb hr (Or.inl ⟨_, rfl⟩) hlocks dX1_part_161 hS (some qN59) rfl (Or.inr ⟨_, rfl⟩) (fun t ht => by rw [hz]; exact ⟨qN59, rfl, Or.inr hqN59, by rw [ht]; exact hP.sub [1] rfl⟩)
                              · have hz : prt lo li hi hn 3 f fi t ti fl = none := by simp [prt, hf, ht1, hfl, Int32.not_le.mp hft]
                                refine lv_goto (tgt := 109) hx hb dX1_part_100 (by decide) ?_
                                refine lv_null hx hb dX1_part_109 ?_
                                refine W.widen (k := 2) (n := 8) (by decide) (by decide) ?_
                                exact ret_aX hx hb hr (Or.inl ⟨_, rfl⟩) hlocks dX1_part_110 hS none rfl (Or.inl rfl) (fun t ht => by rw [hz]; rfl)
                      · have hz : prt lo li hi hn 3 f fi t ti fl = none := by simp [prt, ht1]
                        refine lv_null hx hb dX1_part_77 ?_
                        refine W.widen (k := 2) (n := 8) (by decide) (by decide) ?_
                        exact ret_aX hx hb hr (Or.inl ⟨_, rfl⟩) hlocks dX1_part_78 hS none rfl (Or.inl rfl) (fun t ht => by rw [hz]; rfl)
    · have hz : prt lo li hi hn kind f fi t ti fl = none := pt_gt h6
      refine lv_null hx hb dX1_part_9 ?_
      refine W.widen (k := 2) (n := 8) (by decide) (by decide) ?_
      exact ret_aX hx hb hr (Or.inl ⟨_, rfl⟩) hlocks dX1_part_10 hS none rfl (Or.inl rfl) (fun t ht => by rw [hz]; rfl)
