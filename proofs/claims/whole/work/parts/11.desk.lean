/-! the contracts of OrderedDesk's methods (written by wip/gen/x2.py) -/
abbrev d4 (cy : ClassId) (aD aE aK aV aW aR : Nat) (k v : Nat → Int32) (c : Nat) (fl : Bool) : va_W := [(aD, .inr (2, [.ref aE, .ref aW, .ref aR, .int (bI fl)])), (aE, .inr (0, [.ref aK, .ref aV, .int (nI c)])), (aK, .inl (cy, 512, .inl k)), (aV, .inl (cy, 512, .inl v))]
abbrev dW (cy : ClassId) (aD aE aK aV aW aR : Nat) (k v : Nat → Int32) (c : Nat) (lo : Int64) (li : Bool) (hi : Int64) (hn : Bool) (fl : Bool) : va_W := [(aD, .inr (2, [.ref aE, .ref aW, .ref aR, .int (bI fl)])), (aE, .inr (0, [.ref aK, .ref aV, .int (nI c)])), (aK, .inl (cy, 512, .inl k)), (aV, .inl (cy, 512, .inl v)), (aR, .inr (1, [.long lo, .int (bI li), .long hi, .int (bI hn)]))]
def vB (k : Nat → Int32) (c : Nat) (lo : Int64) (li : Bool) : Nat := plc k c (stR lo li)
def vE (k : Nat → Int32) (c : Nat) (lo : Int64) (li : Bool) (hi : Int64) (hn : Bool) : Nat := max (vB k c lo li) (plc k c (spR hi hn))
theorem vB_le (k : Nat → Int32) (c : Nat) (lo : Int64) (li : Bool) : vB k c lo li ≤ c := plc_le k c _
theorem vE_le (k : Nat → Int32) (c : Nat) (lo : Int64) (li : Bool) (hi : Int64) (hn : Bool) : vE k c lo li hi hn ≤ c := Nat.max_le.mpr ⟨plc_le k c _, plc_le k c _⟩
theorem vBE (k : Nat → Int32) (c : Nat) (lo : Int64) (li : Bool) (hi : Int64) (hn : Bool) : vB k c lo li ≤ vE k c lo li hi hn := Nat.le_max_left _ _
def mir (w : Int32) : Int32 := if w = 0 then 1 else if w = 1 then 0 else if w = 2 then 3 else if w = 3 then 2 else if w = 4 then 5 else if w = 5 then 4 else w
def kN (k : Nat → Int32) (c : Nat) (w x : Int32) (b f : Nat) : Int64 :=
  if w = 0 then kW k ((min (plc k c (x.toInt64 + 1)) f : Nat) - 1 : Int) b f
  else if w = 1 then kW k ((max (plc k c x.toInt64) b : Nat) : Int) b f
  else if w = 2 then kW k ((min (plc k c x.toInt64) f : Nat) - 1 : Int) b f
  else if w = 3 then kW k ((max (plc k c (x.toInt64 + 1)) b : Nat) : Int) b f
  else if w = 4 then kW k (b : Int) b f
  else if w = 5 then kW k ((f : Int) - 1) b f
  else NO
def pj (g : Bool) (b f : Nat) : Int := if g = true then (f : Int) - 1 else (b : Int)
def plP (k v : Nat → Int32) (c : Nat) (g : Bool) (b f : Nat) : Nat × (Nat → Int32) × (Nat → Int32) := if kW k (pj g b f) b f = NO then (c, k, v) else dlK 1 0 (pj g b f).toNat ((pj g b f).toNat + 1) c k v
def adT (k v : Nat → Int32) (c : Nat) (x y : Int32) : Nat × (Nat → Int32) × (Nat → Int32) := if vOf k v c x = NO then (stC k c x, stK k c x, stV k v c x y) else (c, k, v)
def hsD (k v : Nat → Int32) (c : Nat) (w x : Int32) : Bool := if w = 0 then !decide (vOf k v c x = NO) else if w = 1 then hasV v c x else false
def vPT (k v : Nat → Int32) (c : Nat) (h : Bool) (x y : Int32) : Nat × (Nat → Int32) × (Nat → Int32) := if h = true then (stC k c x, stK k c x, stV k v c x y) else (c, k, v)
def vRT (k v : Nat → Int32) (c : Nat) (h : Bool) (x : Int32) : Nat × (Nat → Int32) × (Nat → Int32) := if h = true then drp k v c x else (c, k, v)
def vKy (k : Nat → Int32) (b f : Nat) (fl : Bool) (z : Int) : Int64 := if 0 ≤ z ∧ z < (f : Int) - (b : Int) then (k (if fl = true then f - 1 - z.toNat else b + z.toNat)).toInt64 else NO
/-- the loop of walk -/
def wsm (k : Nat → Int32) (g : Nat → Int64) : Nat → Nat → Int64 → Int64
  | 0, _, a => a
  | n + 1, i, a => wsm k g n (i + 1) (a + (k i).toInt64 * g i)
theorem wsm_s {k : Nat → Int32} {g : Nat → Int64} {f i : Nat} {a : Int64} (h : i < f) : wsm k g (f - i) i a = wsm k g (f - (i + 1)) (i + 1) (a + (k i).toInt64 * g i) := by
  obtain ⟨n, hn⟩ : ∃ n, f - i = n + 1 := ⟨f - i - 1, by omega⟩
  rw [hn, show f - (i + 1) = n by omega, wsm]
def wpl (b f : Nat) (fl : Bool) (i : Nat) : Int64 := if fl = true then (nI (f - i)).toInt64 else (nI (i - b + 1)).toInt64
theorem nI_m1I {n : Nat} (h : n < 2 ^ 31) : (nI n - 1).toInt = (n : Int) - 1 := by
  rw [show (1 : Int32) = nI 1 from rfl]
  cases n with
  | zero => decide
  | succ n => rw [pk_sub (by omega), nI_toInt (by omega)]; omega
theorem kW_in {k : Nat → Int32} {z : Int} {b f : Nat} (h : ¬ kW k z b f = NO) : (b : Int) ≤ z ∧ z < (f : Int) := by
  by_cases q : (b : Int) ≤ z ∧ z < (f : Int)
  · exact q
  · exact absurd (if_neg q) h
theorem I32_of {x : Int32} {j : Nat} (h : x.toInt = (j : Int)) (hj : j < 2 ^ 31) : x = nI j := Int32.toInt_inj.mp (by rw [h, nI_toInt hj])
set_option maxHeartbeats 4000000 in
set_option maxRecDepth 100000 in
/-- get(key) -/
theorem c_X2_get (l : Launch) (D : va_G) (cy : ClassId) (aD aE aK aV aW aR : Nat) (k v : Nat → Int32) (c : Nat) (hc : c ≤ 512) (lo : Int64) (li : Bool) (hi : Int64) (hn : Bool) (fl : Bool) (x : Int32) : Met l yX2_get wsX2_get ({ frames := 2, cells := 0, slots := 0, locals := 45 } : Room) (pcW D [(cy, .int)] [.ref aD, .int x] [(aD, .inr (2, [.ref aE, .ref aW, .ref aR, .int (bI fl)])), (aE, .inr (0, [.ref aK, .ref aV, .int (nI c)])), (aK, .inl (cy, 512, .inl k)), (aV, .inl (cy, 512, .inl v)), (aR, .inr (1, [.long lo, .int (bI li), .long hi, .int (bI hn)]))]) (qR (.long (vOf k v c x))) 0 0 (fun _ => False) := by
  refine met_W (cc := cX2_get) (maxL := 2) (ret := (some .long)) (by decide +kernel) rfl (Nat.le_of_ble_eq_true rfl) ?_
  intro pM eM s mM below meth cM ls hx hb hr hts hown hlocks hml hnm hK hP hl
  have hown : s.vm.findClass RX2 = some mM.cls := hown
  have hl : lv_has ls 2 [(0, .ref aD), (1, .int x)] := hl
  have hin_X2 : ∀ w ∈ wsX20, w ∈ wsX2_get := by decide +kernel
  have kf_12 := hts (.fieldLink RX2 12 "OrderedDesk" "entries" "LOrderedDesk$Entries;") (by decide +kernel)
  have hP : va_P D vwCl [(aD, .inr (2, [.ref aE, .ref aW, .ref aR, .int (bI fl)])), (aE, .inr (0, [.ref aK, .ref aV, .int (nI c)])), (aK, .inl (cy, 512, .inl k)), (aV, .inl (cy, 512, .inl v)), (aR, .inr (1, [.long lo, .int (bI li), .long hi, .int (bI hn)]))] s.heap := hP
  refine lv_aload_n hx hb dX2_get_0 rfl (lv_at hl 0 rfl) ?_
  refine va_get (ci := 2) (v := .ref aE) (C := RX2) (T := TX2) (N := 4) hx hb hts hin_X2 hown hK hP 0 rfl rfl 0 (by decide) kf_12 (fun _ h9 => h9) rfl dX2_get_1 ?_
  refine lv_iload_n hx hb dX2_get_4 rfl (lv_at hl 1 rfl) ?_
  refine go_R (va_runV (As := [.int x]) (rest := []) ⟨hx, hb, hml, hown, hts⟩ (c_X0_valueOf l D cy aE aK aV k v c (by omega) x) (cwV 1 hts gX2_get_X0_valueOf rfl rfl rfl (by decide +kernel) ⟨(Nat.le_of_ble_eq_true rfl), (Nat.le_of_ble_eq_true rfl)⟩) (preV_W hK (hP.sub [1, 2, 3] rfl) 0 0 rfl rfl) rfl rfl hl.1 rfl (lv_room (Nat.le_of_ble_eq_true rfl)) dX2_get_5 ⟨(Nat.le_of_ble_eq_true rfl), (Nat.le_of_ble_eq_true rfl)⟩) ?_
  exact ret_l hx hb hr hlocks dX2_get_8 (rfl)

set_option maxHeartbeats 4000000 in
set_option maxRecDepth 100000 in
/-- size() -/
theorem c_X2_size (l : Launch) (D : va_G) (cy : ClassId) (aD aE aK aV aW aR : Nat) (k v : Nat → Int32) (c : Nat) (hc : c ≤ 512) (lo : Int64) (li : Bool) (hi : Int64) (hn : Bool) (fl : Bool) : Met l yX2_size wsX2_size ({ frames := 1, cells := 0, slots := 0, locals := 20 } : Room) (pcW D [(cy, .int)] [.ref aD] [(aD, .inr (2, [.ref aE, .ref aW, .ref aR, .int (bI fl)])), (aE, .inr (0, [.ref aK, .ref aV, .int (nI c)])), (aK, .inl (cy, 512, .inl k)), (aV, .inl (cy, 512, .inl v)), (aR, .inr (1, [.long lo, .int (bI li), .long hi, .int (bI hn)]))]) (qR (.int (nI c))) 0 0 (fun _ => False) := by
  refine met_W (cc := cX2_size) (maxL := 1) (ret := (some .int)) (by decide +kernel) rfl (Nat.le_of_ble_eq_true rfl) ?_
  intro pM eM s mM below meth cM ls hx hb hr hts hown hlocks hml hnm hK hP hl
  have hown : s.vm.findClass RX2 = some mM.cls := hown
  have hl : lv_has ls 1 [(0, .ref aD)] := hl
  have hin_X2 : ∀ w ∈ wsX20, w ∈ wsX2_size := by decide +kernel
  have kf_12 := hts (.fieldLink RX2 12 "OrderedDesk" "entries" "LOrderedDesk$Entries;") (by decide +kernel)
  have hP : va_P D vwCl [(aD, .inr (2, [.ref aE, .ref aW, .ref aR, .int (bI fl)])), (aE, .inr (0, [.ref aK, .ref aV, .int (nI c)])), (aK, .inl (cy, 512, .inl k)), (aV, .inl (cy, 512, .inl v)), (aR, .inr (1, [.long lo, .int (bI li), .long hi, .int (bI hn)]))] s.heap := hP
  refine lv_aload_n hx hb dX2_size_0 rfl (lv_at hl 0 rfl) ?_
  refine va_get (ci := 2) (v := .ref aE) (C := RX2) (T := TX2) (N := 4) hx hb hts hin_X2 hown hK hP 0 rfl rfl 0 (by decide) kf_12 (fun _ h9 => h9) rfl dX2_size_1 ?_
  refine go_R (va_runV (As := []) (rest := []) ⟨hx, hb, hml, hown, hts⟩ (c_X0_count l D cy aE aK aV k v c (by omega)) (cwV 0 hts gX2_size_X0_count rfl rfl rfl (by decide +kernel) ⟨(Nat.le_of_ble_eq_true rfl), (Nat.le_of_ble_eq_true rfl)⟩) (preV_W hK (hP.sub [1, 2, 3] rfl) 0 0 rfl rfl) rfl rfl hl.1 rfl (lv_room (Nat.le_of_ble_eq_true rfl)) dX2_size_4 ⟨(Nat.le_of_ble_eq_true rfl), (Nat.le_of_ble_eq_true rfl)⟩) ?_
  exact ret_i hx hb hr hlocks dX2_size_7 (rfl)

theorem tbl_out {w : Int32} (h0 : ¬ w = 0) (h1 : ¬ w = 1) (h2 : ¬ w = 2) (h3 : ¬ w = 3) (h4 : ¬ w = 4) (h5 : ¬ w = 5) : w.toInt < 0 ∨ 5 < w.toInt := by
  have a0 := lv_neT h0 (a := 0) (by decide)
  have a1 := lv_neT h1 (a := 1) (by decide)
  have a2 := lv_neT h2 (a := 2) (by decide)
  have a3 := lv_neT h3 (a := 3) (by decide)
  have a4 := lv_neT h4 (a := 4) (by decide)
  have a5 := lv_neT h5 (a := 5) (by decide)
  omega

set_option maxHeartbeats 4000000 in
set_option maxRecDepth 100000 in
/-- has(what, number) -/
theorem c_X2_has (l : Launch) (D : va_G) (cy : ClassId) (aD aE aK aV aW aR : Nat) (k v : Nat → Int32) (c : Nat) (hc : c ≤ 512) (lo : Int64) (li : Bool) (hi : Int64) (hn : Bool) (fl : Bool) (w x : Int32) : Met l yX2_has wsX2_has ({ frames := 2, cells := 0, slots := 0, locals := 45 } : Room) (pcW D [(cy, .int)] [.ref aD, .int w, .int x] [(aD, .inr (2, [.ref aE, .ref aW, .ref aR, .int (bI fl)])), (aE, .inr (0, [.ref aK, .ref aV, .int (nI c)])), (aK, .inl (cy, 512, .inl k)), (aV, .inl (cy, 512, .inl v)), (aR, .inr (1, [.long lo, .int (bI li), .long hi, .int (bI hn)]))]) (qR (.int (bI (hsD k v c w x)))) 0 0 (fun _ => False) := by
  refine met_W (cc := cX2_has) (maxL := 3) (ret := (some .boolean)) (by decide +kernel) rfl (Nat.le_of_ble_eq_true rfl) ?_
  intro pM eM s mM below meth cM ls hx hb hr hts hown hlocks hml hnm hK hP hl
  have hown : s.vm.findClass RX2 = some mM.cls := hown
  have hl : lv_has ls 3 [(0, .ref aD), (1, .int w), (2, .int x)] := hl
  have hin_X2 : ∀ w ∈ wsX20, w ∈ wsX2_has := by decide +kernel
  have kf_12 := hts (.fieldLink RX2 12 "OrderedDesk" "entries" "LOrderedDesk$Entries;") (by decide +kernel)
  have kc_44 := hts (.constantLong RX2 44 (1099511627776)) (by decide +kernel)
  have hP : va_P D vwCl [(aD, .inr (2, [.ref aE, .ref aW, .ref aR, .int (bI fl)])), (aE, .inr (0, [.ref aK, .ref aV, .int (nI c)])), (aK, .inl (cy, 512, .inl k)), (aV, .inl (cy, 512, .inl v)), (aR, .inr (1, [.long lo, .int (bI li), .long hi, .int (bI hn)]))] s.heap := hP
  refine lv_iload_n hx hb dX2_has_0 rfl (lv_at hl 1 rfl) ?_
  by_cases w0 : w = 0
  · refine top_i (y := 0) w0 ?_
    refine lv_lookup (off := 27) (tgt := 28) hx hb dX2_has_1 (by decide) (by decide) (by decide) ?_
    refine lv_aload_n hx hb dX2_has_28 rfl (lv_at hl 0 rfl) ?_
    refine va_get (ci := 2) (v := .ref aE) (C := RX2) (T := TX2) (N := 4) hx hb hts hin_X2 hown hK hP 0 rfl rfl 0 (by decide) kf_12 (fun _ h9 => h9) rfl dX2_has_29 ?_
    refine lv_iload_n hx hb dX2_has_32 rfl (lv_at hl 2 rfl) ?_
    refine go_R (va_runV (As := [.int x]) (rest := []) ⟨hx, hb, hml, hown, hts⟩ (c_X0_valueOf l D cy aE aK aV k v c (by omega) x) (cwV 1 hts gX2_has_X0_valueOf rfl rfl rfl (by decide +kernel) ⟨(Nat.le_of_ble_eq_true rfl), (Nat.le_of_ble_eq_true rfl)⟩) (preV_W hK (hP.sub [1, 2, 3] rfl) 0 0 rfl rfl) rfl rfl hl.1 rfl (lv_room (Nat.le_of_ble_eq_true rfl)) dX2_has_33 ⟨(Nat.le_of_ble_eq_true rfl), (Nat.le_of_ble_eq_true rfl)⟩) ?_
    refine lv_ldc2 hx hb hown kc_44 dX2_has_36 ?_
    refine l_eq (tgt := 47) hx hb dX2_has_39 dX2_has_40 (by decide) (fun h39 => ?_) (fun h39 => ?_)
    · have hz : hsD k v c w x = false := by unfold hsD; rw [if_pos w0, decide_eq_true h39]; rfl
      refine lv_iconst (v := bI false) hx hb dX2_has_47 (by decide) ?_
      exact ret_z hx hb hr hlocks dX2_has_48 (by rw [hz])
    · have hz : hsD k v c w x = true := by unfold hsD; rw [if_pos w0, decide_eq_false h39]; rfl
      refine lv_iconst (v := bI true) hx hb dX2_has_43 (by decide) ?_
      refine lv_goto (tgt := 48) hx hb dX2_has_44 (by decide) ?_
      exact ret_z hx hb hr hlocks dX2_has_48 (by rw [hz])
  by_cases w1 : w = 1
  · refine top_i (y := 1) w1 ?_
    refine lv_lookup (off := 48) (tgt := 49) hx hb dX2_has_1 (by decide) (by decide) (by decide) ?_
    have hz : hsD k v c w x = hasV v c x := by unfold hsD; rw [if_neg w0, if_pos w1]
    refine lv_aload_n hx hb dX2_has_49 rfl (lv_at hl 0 rfl) ?_
    refine va_get (ci := 2) (v := .ref aE) (C := RX2) (T := TX2) (N := 4) hx hb hts hin_X2 hown hK hP 0 rfl rfl 0 (by decide) kf_12 (fun _ h9 => h9) rfl dX2_has_50 ?_
    refine lv_iload_n hx hb dX2_has_53 rfl (lv_at hl 2 rfl) ?_
    refine go_R (va_runV (As := [.int x]) (rest := []) ⟨hx, hb, hml, hown, hts⟩ (c_X0_holdsValue l D cy aE aK aV k v c (by omega) x) (cwV 1 hts gX2_has_X0_holdsValue rfl rfl rfl (by decide +kernel) ⟨(Nat.le_of_ble_eq_true rfl), (Nat.le_of_ble_eq_true rfl)⟩) (preV_W hK (hP.sub [1, 2, 3] rfl) 0 0 rfl rfl) rfl rfl hl.1 rfl (lv_room (Nat.le_of_ble_eq_true rfl)) dX2_has_54 ⟨(Nat.le_of_ble_eq_true rfl), (Nat.le_of_ble_eq_true rfl)⟩) ?_
    exact ret_z hx hb hr hlocks dX2_has_57 (by rw [hz])
  refine lv_lookup (off := 57) (tgt := 58) hx hb dX2_has_1 (by decide) ((lv_osw w0 (by decide)).trans ((lv_osw w1 (by decide)).trans (rfl))) (by decide) ?_
  have hz : hsD k v c w x = false := by unfold hsD; rw [if_neg w0, if_neg w1]
  refine lv_iconst (v := bI false) hx hb dX2_has_58 (by decide) ?_
  exact ret_z hx hb hr hlocks dX2_has_59 (by rw [hz])

set_option maxHeartbeats 4000000 in
set_option maxRecDepth 100000 in
/-- viewBegin() -/
theorem c_X2_viewBegin (l : Launch) (D : va_G) (cy : ClassId) (aD aE aK aV aW aR : Nat) (k v : Nat → Int32) (c : Nat) (hc : c ≤ 512) (lo : Int64) (li : Bool) (hi : Int64) (hn : Bool) (fl : Bool) : Met l yX2_viewBegin wsX2_viewBegin ({ frames := 1, cells := 0, slots := 0, locals := 23 } : Room) (pcW D [(cy, .int)] [.ref aD] [(aD, .inr (2, [.ref aE, .ref aW, .ref aR, .int (bI fl)])), (aE, .inr (0, [.ref aK, .ref aV, .int (nI c)])), (aK, .inl (cy, 512, .inl k)), (aV, .inl (cy, 512, .inl v)), (aR, .inr (1, [.long lo, .int (bI li), .long hi, .int (bI hn)]))]) (qR (.int (nI (vB k c lo li)))) 0 0 (fun _ => False) := by
  refine met_W (cc := cX2_viewBegin) (maxL := 1) (ret := (some .int)) (by decide +kernel) rfl (Nat.le_of_ble_eq_true rfl) ?_
  intro pM eM s mM below meth cM ls hx hb hr hts hown hlocks hml hnm hK hP hl
  have hown : s.vm.findClass RX2 = some mM.cls := hown
  have hl : lv_has ls 1 [(0, .ref aD)] := hl
  have hin_X2 : ∀ w ∈ wsX20, w ∈ wsX2_viewBegin := by decide +kernel
  have kf_12 := hts (.fieldLink RX2 12 "OrderedDesk" "entries" "LOrderedDesk$Entries;") (by decide +kernel)
  have kf_29 := hts (.fieldLink RX2 29 "OrderedDesk" "range" "LOrderedDesk$Range;") (by decide +kernel)
  have hP : va_P D vwCl [(aD, .inr (2, [.ref aE, .ref aW, .ref aR, .int (bI fl)])), (aE, .inr (0, [.ref aK, .ref aV, .int (nI c)])), (aK, .inl (cy, 512, .inl k)), (aV, .inl (cy, 512, .inl v)), (aR, .inr (1, [.long lo, .int (bI li), .long hi, .int (bI hn)]))] s.heap := hP
  refine lv_aload_n hx hb dX2_viewBegin_0 rfl (lv_at hl 0 rfl) ?_
  refine va_get (ci := 2) (v := .ref aE) (C := RX2) (T := TX2) (N := 4) hx hb hts hin_X2 hown hK hP 0 rfl rfl 0 (by decide) kf_12 (fun _ h9 => h9) rfl dX2_viewBegin_1 ?_
  refine lv_aload_n hx hb dX2_viewBegin_4 rfl (lv_at hl 0 rfl) ?_
  refine va_get (ci := 2) (v := .ref aR) (C := RX2) (T := TX2) (N := 4) hx hb hts hin_X2 hown hK hP 0 rfl rfl 2 (by decide) kf_29 (fun _ h9 => h9) rfl dX2_viewBegin_5 ?_
  refine go_R (va_runV (As := []) (rest := [.ref aE]) ⟨hx, hb, hml, hown, hts⟩ (c_X1_start l D cy aR lo li hi hn) (cwV 0 hts gX2_viewBegin_X1_start rfl rfl rfl (by decide +kernel) ⟨(Nat.le_of_ble_eq_true rfl), (Nat.le_of_ble_eq_true rfl)⟩) (preV_W hK (hP.sub [4] rfl) 0 1 rfl rfl) rfl rfl hl.1 rfl (lv_room (Nat.le_of_ble_eq_true rfl)) dX2_viewBegin_8 ⟨(Nat.le_of_ble_eq_true rfl), (Nat.le_of_ble_eq_true rfl)⟩) ?_
  refine go_R (va_runV (As := [.long (stR lo li)]) (rest := []) ⟨hx, hb, hml, hown, hts⟩ (c_X0_placeOf l D cy aE aK aV k v c (by omega) (stR lo li)) (cwV 1 hts gX2_viewBegin_X0_placeOf rfl rfl rfl (by decide +kernel) ⟨(Nat.le_of_ble_eq_true rfl), (Nat.le_of_ble_eq_true rfl)⟩) (preV_W hK (hP.sub [1, 2, 3] rfl) 0 0 rfl rfl) rfl rfl hl.1 rfl (lv_room (Nat.le_of_ble_eq_true rfl)) dX2_viewBegin_11 ⟨(Nat.le_of_ble_eq_true rfl), (Nat.le_of_ble_eq_true rfl)⟩) ?_
  exact ret_i hx hb hr hlocks dX2_viewBegin_14 (rfl)

set_option maxHeartbeats 4000000 in
set_option maxRecDepth 100000 in
/-- viewEnd() -/
theorem c_X2_viewEnd (l : Launch) (D : va_G) (cy : ClassId) (aD aE aK aV aW aR : Nat) (k v : Nat → Int32) (c : Nat) (hc : c ≤ 512) (lo : Int64) (li : Bool) (hi : Int64) (hn : Bool) (fl : Bool) : Met l yX2_viewEnd wsX2_viewEnd ({ frames := 2, cells := 0, slots := 0, locals := 43 } : Room) (pcW D [(cy, .int)] [.ref aD] [(aD, .inr (2, [.ref aE, .ref aW, .ref aR, .int (bI fl)])), (aE, .inr (0, [.ref aK, .ref aV, .int (nI c)])), (aK, .inl (cy, 512, .inl k)), (aV, .inl (cy, 512, .inl v)), (aR, .inr (1, [.long lo, .int (bI li), .long hi, .int (bI hn)]))]) (qR (.int (nI (vE k c lo li hi hn)))) 0 0 (fun _ => False) := by
  refine met_W (cc := cX2_viewEnd) (maxL := 1) (ret := (some .int)) (by decide +kernel) rfl (Nat.le_of_ble_eq_true rfl) ?_
  intro pM eM s mM below meth cM ls hx hb hr hts hown hlocks hml hnm hK hP hl
  have hown : s.vm.findClass RX2 = some mM.cls := hown
  have hl : lv_has ls 1 [(0, .ref aD)] := hl
  have hin_X2 : ∀ w ∈ wsX20, w ∈ wsX2_viewEnd := by decide +kernel
  have kf_12 := hts (.fieldLink RX2 12 "OrderedDesk" "entries" "LOrderedDesk$Entries;") (by decide +kernel)
  have kf_29 := hts (.fieldLink RX2 29 "OrderedDesk" "range" "LOrderedDesk$Range;") (by decide +kernel)
  have hP : va_P D vwCl [(aD, .inr (2, [.ref aE, .ref aW, .ref aR, .int (bI fl)])), (aE, .inr (0, [.ref aK, .ref aV, .int (nI c)])), (aK, .inl (cy, 512, .inl k)), (aV, .inl (cy, 512, .inl v)), (aR, .inr (1, [.long lo, .int (bI li), .long hi, .int (bI hn)]))] s.heap := hP
  have q1 := vB_le k c lo li
  have q2 := plc_le k c (spR hi hn)
  refine lv_aload_n hx hb dX2_viewEnd_0 rfl (lv_at hl 0 rfl) ?_
  refine go_R (va_runV (As := []) (rest := []) ⟨hx, hb, hml, hown, hts⟩ (c_X2_viewBegin l D cy aD aE aK aV aW aR k v c (by omega) lo li hi hn fl) (cwV 0 hts gX2_viewEnd_X2_viewBegin rfl rfl rfl (by decide +kernel) ⟨(Nat.le_of_ble_eq_true rfl), (Nat.le_of_ble_eq_true rfl)⟩) (preV_W hK (hP.sub [0, 1, 2, 3, 4] rfl) 0 2 rfl rfl) rfl rfl hl.1 rfl (lv_room (Nat.le_of_ble_eq_true rfl)) dX2_viewEnd_1 ⟨(Nat.le_of_ble_eq_true rfl), (Nat.le_of_ble_eq_true rfl)⟩) ?_
  refine lv_aload_n hx hb dX2_viewEnd_4 rfl (lv_at hl 0 rfl) ?_
  refine va_get (ci := 2) (v := .ref aE) (C := RX2) (T := TX2) (N := 4) hx hb hts hin_X2 hown hK hP 0 rfl rfl 0 (by decide) kf_12 (fun _ h9 => h9) rfl dX2_viewEnd_5 ?_
  refine lv_aload_n hx hb dX2_viewEnd_8 rfl (lv_at hl 0 rfl) ?_
  refine va_get (ci := 2) (v := .ref aR) (C := RX2) (T := TX2) (N := 4) hx hb hts hin_X2 hown hK hP 0 rfl rfl 2 (by decide) kf_29 (fun _ h9 => h9) rfl dX2_viewEnd_9 ?_
  refine go_R (va_runV (As := []) (rest := [.ref aE, .int (nI (vB k c lo li))]) ⟨hx, hb, hml, hown, hts⟩ (c_X1_stop l D cy aR lo li hi hn) (cwV 0 hts gX2_viewEnd_X1_stop rfl rfl rfl (by decide +kernel) ⟨(Nat.le_of_ble_eq_true rfl), (Nat.le_of_ble_eq_true rfl)⟩) (preV_W hK (hP.sub [4] rfl) 0 1 rfl rfl) rfl rfl hl.1 rfl (lv_room (Nat.le_of_ble_eq_true rfl)) dX2_viewEnd_12 ⟨(Nat.le_of_ble_eq_true rfl), (Nat.le_of_ble_eq_true rfl)⟩) ?_
  refine go_R (va_runV (As := [.long (spR hi hn)]) (rest := [.int (nI (vB k c lo li))]) ⟨hx, hb, hml, hown, hts⟩ (c_X0_placeOf l D cy aE aK aV k v c (by omega) (spR hi hn)) (cwV 1 hts gX2_viewEnd_X0_placeOf rfl rfl rfl (by decide +kernel) ⟨(Nat.le_of_ble_eq_true rfl), (Nat.le_of_ble_eq_true rfl)⟩) (preV_W hK (hP.sub [1, 2, 3] rfl) 0 0 rfl rfl) rfl rfl hl.1 rfl (lv_room (Nat.le_of_ble_eq_true rfl)) dX2_viewEnd_15 ⟨(Nat.le_of_ble_eq_true rfl), (Nat.le_of_ble_eq_true rfl)⟩) ?_
  refine va_mmax hx hb (by rw [hml]; exact hl.1.symm) hown (hts (.methodLink RX2 110 Lib.Math.max.name) (by decide +kernel)) (hts (.static Lib.Math.max.name) (by decide +kernel)) (hts (.initialized "java/lang/Math") (by decide +kernel)) (hts (.code Lib.Math.max.name Lib.Math.max.code 2 (some .int)) (by decide +kernel)) (Nat.le_of_ble_eq_true rfl) (Nat.le_of_ble_eq_true rfl) (Nat.le_of_ble_eq_true rfl) (Nat.le_of_ble_eq_true rfl) dX2_viewEnd_18 ?_
  refine top_i (y := nI (max (vB k c lo li) (plc k c (spR hi hn)))) (nI_max (by omega) (by omega)) ?_
  exact ret_i hx hb hr hlocks dX2_viewEnd_21 (rfl)

set_option maxHeartbeats 4000000 in
set_option maxRecDepth 100000 in
/-- viewSize() -/
theorem c_X2_viewSize (l : Launch) (D : va_G) (cy : ClassId) (aD aE aK aV aW aR : Nat) (k v : Nat → Int32) (c : Nat) (hc : c ≤ 512) (lo : Int64) (li : Bool) (hi : Int64) (hn : Bool) (fl : Bool) : Met l yX2_viewSize wsX2_viewSize ({ frames := 3, cells := 0, slots := 0, locals := 63 } : Room) (pcW D [(cy, .int)] [.ref aD] [(aD, .inr (2, [.ref aE, .ref aW, .ref aR, .int (bI fl)])), (aE, .inr (0, [.ref aK, .ref aV, .int (nI c)])), (aK, .inl (cy, 512, .inl k)), (aV, .inl (cy, 512, .inl v)), (aR, .inr (1, [.long lo, .int (bI li), .long hi, .int (bI hn)]))]) (qR (.int (nI (vE k c lo li hi hn - vB k c lo li)))) 0 0 (fun _ => False) := by
  refine met_W (cc := cX2_viewSize) (maxL := 1) (ret := (some .int)) (by decide +kernel) rfl (Nat.le_of_ble_eq_true rfl) ?_
  intro pM eM s mM below meth cM ls hx hb hr hts hown hlocks hml hnm hK hP hl
  have hown : s.vm.findClass RX2 = some mM.cls := hown
  have hl : lv_has ls 1 [(0, .ref aD)] := hl
  have hP : va_P D vwCl [(aD, .inr (2, [.ref aE, .ref aW, .ref aR, .int (bI fl)])), (aE, .inr (0, [.ref aK, .ref aV, .int (nI c)])), (aK, .inl (cy, 512, .inl k)), (aV, .inl (cy, 512, .inl v)), (aR, .inr (1, [.long lo, .int (bI li), .long hi, .int (bI hn)]))] s.heap := hP
  have q1 := vB_le k c lo li
  have q2 := vE_le k c lo li hi hn
  have q3 := vBE k c lo li hi hn
  refine lv_aload_n hx hb dX2_viewSize_0 rfl (lv_at hl 0 rfl) ?_
  refine go_R (va_runV (As := []) (rest := []) ⟨hx, hb, hml, hown, hts⟩ (c_X2_viewEnd l D cy aD aE aK aV aW aR k v c (by omega) lo li hi hn fl) (cwV 0 hts gX2_viewSize_X2_viewEnd rfl rfl rfl (by decide +kernel) ⟨(Nat.le_of_ble_eq_true rfl), (Nat.le_of_ble_eq_true rfl)⟩) (preV_W hK (hP.sub [0, 1, 2, 3, 4] rfl) 0 2 rfl rfl) rfl rfl hl.1 rfl (lv_room (Nat.le_of_ble_eq_true rfl)) dX2_viewSize_1 ⟨(Nat.le_of_ble_eq_true rfl), (Nat.le_of_ble_eq_true rfl)⟩) ?_
  refine lv_aload_n hx hb dX2_viewSize_4 rfl (lv_at hl 0 rfl) ?_
  refine go_R (va_runV (As := []) (rest := [.int (nI (vE k c lo li hi hn))]) ⟨hx, hb, hml, hown, hts⟩ (c_X2_viewBegin l D cy aD aE aK aV aW aR k v c (by omega) lo li hi hn fl) (cwV 0 hts gX2_viewSize_X2_viewBegin rfl rfl rfl (by decide +kernel) ⟨(Nat.le_of_ble_eq_true rfl), (Nat.le_of_ble_eq_true rfl)⟩) (preV_W hK (hP.sub [0, 1, 2, 3, 4] rfl) 0 2 rfl rfl) rfl rfl hl.1 rfl (lv_room (Nat.le_of_ble_eq_true rfl)) dX2_viewSize_5 ⟨(Nat.le_of_ble_eq_true rfl), (Nat.le_of_ble_eq_true rfl)⟩) ?_
  refine lv_isub hx hb dX2_viewSize_8 ?_
  refine top_i (y := nI ((vE k c lo li hi hn) - (vB k c lo li))) (pk_sub (by omega)) ?_
  exact ret_i hx hb hr hlocks dX2_viewSize_9 (rfl)

set_option maxHeartbeats 4000000 in
set_option maxRecDepth 100000 in
/-- keyWithin(place, begin, end) -/
theorem c_X2_keyWithin (l : Launch) (D : va_G) (cy : ClassId) (aD aE aK aV aW aR : Nat) (k v : Nat → Int32) (c : Nat) (hc : c ≤ 512) (lo : Int64) (li : Bool) (hi : Int64) (hn : Bool) (fl : Bool) (x : Int32) (b f : Nat) (hb2 : b ≤ 512) (hf2 : f ≤ c) : Met l yX2_keyWithin wsX2_keyWithin ({ frames := 1, cells := 0, slots := 0, locals := 21 } : Room) (pcW D [(cy, .int)] [.ref aD, .int x, .int (nI b), .int (nI f)] [(aD, .inr (2, [.ref aE, .ref aW, .ref aR, .int (bI fl)])), (aE, .inr (0, [.ref aK, .ref aV, .int (nI c)])), (aK, .inl (cy, 512, .inl k)), (aV, .inl (cy, 512, .inl v)), (aR, .inr (1, [.long lo, .int (bI li), .long hi, .int (bI hn)]))]) (qR (.long (kW k x.toInt b f))) 0 0 (fun _ => False) := by
  refine met_W (cc := cX2_keyWithin) (maxL := 4) (ret := (some .long)) (by decide +kernel) rfl (Nat.le_of_ble_eq_true rfl) ?_
  intro pM eM s mM below meth cM ls hx hb hr hts hown hlocks hml hnm hK hP hl
  have hown : s.vm.findClass RX2 = some mM.cls := hown
  have hl : lv_has ls 4 [(0, .ref aD), (1, .int x), (2, .int (nI b)), (3, .int (nI f))] := hl
  have hin_X2 : ∀ w ∈ wsX20, w ∈ wsX2_keyWithin := by decide +kernel
  have kf_12 := hts (.fieldLink RX2 12 "OrderedDesk" "entries" "LOrderedDesk$Entries;") (by decide +kernel)
  have kc_44 := hts (.constantLong RX2 44 (1099511627776)) (by decide +kernel)
  have hP : va_P D vwCl [(aD, .inr (2, [.ref aE, .ref aW, .ref aR, .int (bI fl)])), (aE, .inr (0, [.ref aK, .ref aV, .int (nI c)])), (aK, .inl (cy, 512, .inl k)), (aV, .inl (cy, 512, .inl v)), (aR, .inr (1, [.long lo, .int (bI li), .long hi, .int (bI hn)]))] s.heap := hP
  refine lv_iload_n hx hb dX2_keyWithin_0 rfl (lv_at hl 1 rfl) ?_
  refine lv_iload_n hx hb dX2_keyWithin_1 rfl (lv_at hl 2 rfl) ?_
  refine lv_icmp_lt (tgt := 21) hx hb dX2_keyWithin_2 (by decide) (fun h2 => ?_) (fun h2 => ?_)
  · have hz : kW k x.toInt b f = NO := kW_no (by rw [Int32.lt_iff_toInt_lt, nI_toInt (by omega)] at h2; omega)
    refine lv_ldc2 hx hb hown kc_44 dX2_keyWithin_21 ?_
    exact ret_l hx hb hr hlocks dX2_keyWithin_24 (by rw [hz])
  · refine lv_iload_n hx hb dX2_keyWithin_5 rfl (lv_at hl 1 rfl) ?_
    refine lv_iload_n hx hb dX2_keyWithin_6 rfl (lv_at hl 3 rfl) ?_
    refine lv_icmp_ge (tgt := 21) hx hb dX2_keyWithin_7 (by decide) (fun h7 => ?_) (fun h7 => ?_)
    · have hz : kW k x.toInt b f = NO := kW_no (by rw [Int32.le_iff_toInt_le, nI_toInt (by omega)] at h7; omega)
      refine lv_ldc2 hx hb hown kc_44 dX2_keyWithin_21 ?_
      exact ret_l hx hb hr hlocks dX2_keyWithin_24 (by rw [hz])
    · have hz : kW k x.toInt b f = kW k x.toInt 0 c := by rw [Int32.lt_iff_toInt_lt, nI_toInt (by omega)] at h2; rw [Int32.le_iff_toInt_le, nI_toInt (by omega)] at h7; unfold kW; rw [if_pos (by omega), if_pos (by omega)]
      refine lv_aload_n hx hb dX2_keyWithin_10 rfl (lv_at hl 0 rfl) ?_
      refine va_get (ci := 2) (v := .ref aE) (C := RX2) (T := TX2) (N := 4) hx hb hts hin_X2 hown hK hP 0 rfl rfl 0 (by decide) kf_12 (fun _ h9 => h9) rfl dX2_keyWithin_11 ?_
      refine lv_iload_n hx hb dX2_keyWithin_14 rfl (lv_at hl 1 rfl) ?_
      refine go_R (va_runV (As := [.int x]) (rest := []) ⟨hx, hb, hml, hown, hts⟩ (c_X0_keyAt l D cy aE aK aV k v c (by omega) x) (cwV 1 hts gX2_keyWithin_X0_keyAt rfl rfl rfl (by decide +kernel) ⟨(Nat.le_of_ble_eq_true rfl), (Nat.le_of_ble_eq_true rfl)⟩) (preV_W hK (hP.sub [1, 2, 3] rfl) 0 0 rfl rfl) rfl rfl hl.1 rfl (lv_room (Nat.le_of_ble_eq_true rfl)) dX2_keyWithin_15 ⟨(Nat.le_of_ble_eq_true rfl), (Nat.le_of_ble_eq_true rfl)⟩) ?_
      refine lv_goto (tgt := 24) hx hb dX2_keyWithin_18 (by decide) ?_
      exact ret_l hx hb hr hlocks dX2_keyWithin_24 (by rw [hz])

set_option maxHeartbeats 4000000 in
set_option maxRecDepth 100000 in
/-- keyNear(what, key, begin, end) -/
theorem c_X2_keyNear (l : Launch) (D : va_G) (cy : ClassId) (aD aE aK aV aW aR : Nat) (k v : Nat → Int32) (c : Nat) (hc : c ≤ 512) (lo : Int64) (li : Bool) (hi : Int64) (hn : Bool) (fl : Bool) (w x : Int32) (b f : Nat) (hb2 : b ≤ 512) (hf2 : f ≤ c) : Met l yX2_keyNear wsX2_keyNear ({ frames := 2, cells := 0, slots := 0, locals := 44 } : Room) (pcW D [(cy, .int)] [.ref aD, .int w, .int x, .int (nI b), .int (nI f)] [(aD, .inr (2, [.ref aE, .ref aW, .ref aR, .int (bI fl)])), (aE, .inr (0, [.ref aK, .ref aV, .int (nI c)])), (aK, .inl (cy, 512, .inl k)), (aV, .inl (cy, 512, .inl v)), (aR, .inr (1, [.long lo, .int (bI li), .long hi, .int (bI hn)]))]) (qR (.long (kN k c w x b f))) 0 0 (fun _ => False) := by
  refine met_W (cc := cX2_keyNear) (maxL := 7) (ret := (some .long)) (by decide +kernel) rfl (Nat.le_of_ble_eq_true rfl) ?_
  intro pM eM s mM below meth cM ls hx hb hr hts hown hlocks hml hnm hK hP hl
  have hown : s.vm.findClass RX2 = some mM.cls := hown
  have hl : lv_has ls 7 [(0, .ref aD), (1, .int w), (2, .int x), (3, .int (nI b)), (4, .int (nI f))] := hl
  have hin_X2 : ∀ w ∈ wsX20, w ∈ wsX2_keyNear := by decide +kernel
  have kf_12 := hts (.fieldLink RX2 12 "OrderedDesk" "entries" "LOrderedDesk$Entries;") (by decide +kernel)
  have kc_44 := hts (.constantLong RX2 44 (1099511627776)) (by decide +kernel)
  have hP : va_P D vwCl [(aD, .inr (2, [.ref aE, .ref aW, .ref aR, .int (bI fl)])), (aE, .inr (0, [.ref aK, .ref aV, .int (nI c)])), (aK, .inl (cy, 512, .inl k)), (aV, .inl (cy, 512, .inl v)), (aR, .inr (1, [.long lo, .int (bI li), .long hi, .int (bI hn)]))] s.heap := hP
  have q1 := plc_le k c x.toInt64
  have q2 := plc_le k c (x.toInt64 + 1)
  refine lv_aload_n hx hb dX2_keyNear_0 rfl (lv_at hl 0 rfl) ?_
  refine va_get (ci := 2) (v := .ref aE) (C := RX2) (T := TX2) (N := 4) hx hb hts hin_X2 hown hK hP 0 rfl rfl 0 (by decide) kf_12 (fun _ h9 => h9) rfl dX2_keyNear_1 ?_
  refine lv_iload_n hx hb dX2_keyNear_4 rfl (lv_at hl 2 rfl) ?_
  refine lv_i2l hx hb dX2_keyNear_5 rfl ?_
  refine go_R (va_runV (As := [.long x.toInt64]) (rest := []) ⟨hx, hb, hml, hown, hts⟩ (c_X0_placeOf l D cy aE aK aV k v c (by omega) x.toInt64) (cwV 1 hts gX2_keyNear_X0_placeOf rfl rfl rfl (by decide +kernel) ⟨(Nat.le_of_ble_eq_true rfl), (Nat.le_of_ble_eq_true rfl)⟩) (preV_W hK (hP.sub [1, 2, 3] rfl) 0 0 rfl rfl) rfl rfl hl.1 rfl (lv_room (Nat.le_of_ble_eq_true rfl)) dX2_keyNear_6 ⟨(Nat.le_of_ble_eq_true rfl), (Nat.le_of_ble_eq_true rfl)⟩) ?_
  refine lv_istore (lv' := [(5, .int (nI (plc k c x.toInt64))), (0, .ref aD), (1, .int w), (2, .int x), (3, .int (nI b)), (4, .int (nI f))]) hx hb dX2_keyNear_9 hl (by decide) rfl (fun ls hl => ?_)
  refine lv_aload_n hx hb dX2_keyNear_11 rfl (lv_at hl 1 rfl) ?_
  refine va_get (ci := 2) (v := .ref aE) (C := RX2) (T := TX2) (N := 4) hx hb hts hin_X2 hown hK hP 0 rfl rfl 0 (by decide) kf_12 (fun _ h9 => h9) rfl dX2_keyNear_12 ?_
  refine lv_iload_n hx hb dX2_keyNear_15 rfl (lv_at hl 3 rfl) ?_
  refine lv_i2l hx hb dX2_keyNear_16 rfl ?_
  refine lv_lconst (v := 1) hx hb dX2_keyNear_17 (by decide) ?_
  refine lv_ladd hx hb dX2_keyNear_18 ?_
  refine go_R (va_runV (As := [.long (x.toInt64 + 1)]) (rest := []) ⟨hx, hb, hml, hown, hts⟩ (c_X0_placeOf l D cy aE aK aV k v c (by omega) (x.toInt64 + 1)) (cwV 1 hts gX2_keyNear_X0_placeOf rfl rfl rfl (by decide +kernel) ⟨(Nat.le_of_ble_eq_true rfl), (Nat.le_of_ble_eq_true rfl)⟩) (preV_W hK (hP.sub [1, 2, 3] rfl) 0 0 rfl rfl) rfl rfl hl.1 rfl (lv_room (Nat.le_of_ble_eq_true rfl)) dX2_keyNear_19 ⟨(Nat.le_of_ble_eq_true rfl), (Nat.le_of_ble_eq_true rfl)⟩) ?_
  refine lv_istore (lv' := [(6, .int (nI (plc k c (x.toInt64 + 1)))), (5, .int (nI (plc k c x.toInt64))), (0, .ref aD), (1, .int w), (2, .int x), (3, .int (nI b)), (4, .int (nI f))]) hx hb dX2_keyNear_22 hl (by decide) rfl (fun ls hl => ?_)
  refine lv_iload_n hx hb dX2_keyNear_24 rfl (lv_at hl 3 rfl) ?_
  by_cases w0 : w = 0
  · refine top_i (y := 0) w0 ?_
    refine lv_tableIn (off := 39) (tgt := 64) hx hb dX2_keyNear_25 (by decide) (by decide) (by decide) (by decide) ?_
    have hz : kN k c w x b f = kW k ((min (plc k c (x.toInt64 + 1)) f : Nat) - 1 : Int) b f := by unfold kN; rw [if_pos w0]
    refine lv_aload_n hx hb dX2_keyNear_64 rfl (lv_at hl 2 rfl) ?_
    refine lv_iload hx hb dX2_keyNear_65 (lv_at hl 0 rfl) ?_
    refine lv_iload hx hb dX2_keyNear_67 (lv_at hl 6 rfl) ?_
    refine va_mmin hx hb (by rw [hml]; exact hl.1.symm) hown (hts (.methodLink RX2 115 Lib.Math.min.name) (by decide +kernel)) (hts (.static Lib.Math.min.name) (by decide +kernel)) (hts (.initialized "java/lang/Math") (by decide +kernel)) (hts (.code Lib.Math.min.name Lib.Math.min.code 2 (some .int)) (by decide +kernel)) (Nat.le_of_ble_eq_true rfl) (Nat.le_of_ble_eq_true rfl) (Nat.le_of_ble_eq_true rfl) (Nat.le_of_ble_eq_true rfl) dX2_keyNear_69 ?_
    refine top_i (y := nI (min (plc k c (x.toInt64 + 1)) f)) (nI_min (by omega) (by omega)) ?_
    refine lv_iconst (v := 1) hx hb dX2_keyNear_72 (by decide) ?_
    refine lv_isub hx hb dX2_keyNear_73 ?_
    refine lv_iload_n hx hb dX2_keyNear_74 rfl (lv_at hl 5 rfl) ?_
    refine lv_iload hx hb dX2_keyNear_75 (lv_at hl 6 rfl) ?_
    refine go_R (va_runV (As := [.int ((nI (min (plc k c (x.toInt64 + 1)) f)) - 1), .int (nI b), .int (nI f)]) (rest := []) ⟨hx, hb, hml, hown, hts⟩ (c_X2_keyWithin l D cy aD aE aK aV aW aR k v c (by omega) lo li hi hn fl ((nI (min (plc k c (x.toInt64 + 1)) f)) - 1) b f (by omega) (by omega)) (cwV 3 hts gX2_keyNear_X2_keyWithin rfl rfl rfl (by decide +kernel) ⟨(Nat.le_of_ble_eq_true rfl), (Nat.le_of_ble_eq_true rfl)⟩) (preV_W hK (hP.sub [0, 1, 2, 3, 4] rfl) 0 2 rfl rfl) rfl rfl hl.1 rfl (lv_room (Nat.le_of_ble_eq_true rfl)) dX2_keyNear_77 ⟨(Nat.le_of_ble_eq_true rfl), (Nat.le_of_ble_eq_true rfl)⟩) ?_
    exact ret_l hx hb hr hlocks dX2_keyNear_80 (by first | (rw [hz]; done) | (rw [hz, nI_toInt (by omega)]; done) | (rw [hz, nI_m1I (by omega)]; done))
  by_cases w1 : w = 1
  · refine top_i (y := 1) w1 ?_
    refine lv_tableIn (off := 56) (tgt := 81) hx hb dX2_keyNear_25 (by decide) (by decide) (by decide) (by decide) ?_
    have hz : kN k c w x b f = kW k ((max (plc k c x.toInt64) b : Nat) : Int) b f := by unfold kN; rw [if_neg w0, if_pos w1]
    refine lv_aload_n hx hb dX2_keyNear_81 rfl (lv_at hl 2 rfl) ?_
    refine lv_iload hx hb dX2_keyNear_82 (lv_at hl 1 rfl) ?_
    refine lv_iload_n hx hb dX2_keyNear_84 rfl (lv_at hl 5 rfl) ?_
    refine va_mmax hx hb (by rw [hml]; exact hl.1.symm) hown (hts (.methodLink RX2 110 Lib.Math.max.name) (by decide +kernel)) (hts (.static Lib.Math.max.name) (by decide +kernel)) (hts (.initialized "java/lang/Math") (by decide +kernel)) (hts (.code Lib.Math.max.name Lib.Math.max.code 2 (some .int)) (by decide +kernel)) (Nat.le_of_ble_eq_true rfl) (Nat.le_of_ble_eq_true rfl) (Nat.le_of_ble_eq_true rfl) (Nat.le_of_ble_eq_true rfl) dX2_keyNear_85 ?_
    refine top_i (y := nI (max (plc k c x.toInt64) b)) (nI_max (by omega) (by omega)) ?_
    refine lv_iload_n hx hb dX2_keyNear_88 rfl (lv_at hl 5 rfl) ?_
    refine lv_iload hx hb dX2_keyNear_89 (lv_at hl 6 rfl) ?_
    refine go_R (va_runV (As := [.int (nI (max (plc k c x.toInt64) b)), .int (nI b), .int (nI f)]) (rest := []) ⟨hx, hb, hml, hown, hts⟩ (c_X2_keyWithin l D cy aD aE aK aV aW aR k v c (by omega) lo li hi hn fl (nI (max (plc k c x.toInt64) b)) b f (by omega) (by omega)) (cwV 3 hts gX2_keyNear_X2_keyWithin rfl rfl rfl (by decide +kernel) ⟨(Nat.le_of_ble_eq_true rfl), (Nat.le_of_ble_eq_true rfl)⟩) (preV_W hK (hP.sub [0, 1, 2, 3, 4] rfl) 0 2 rfl rfl) rfl rfl hl.1 rfl (lv_room (Nat.le_of_ble_eq_true rfl)) dX2_keyNear_91 ⟨(Nat.le_of_ble_eq_true rfl), (Nat.le_of_ble_eq_true rfl)⟩) ?_
    exact ret_l hx hb hr hlocks dX2_keyNear_94 (by first | (rw [hz]; done) | (rw [hz, nI_toInt (by omega)]; done) | (rw [hz, nI_m1I (by omega)]; done))
  by_cases w2 : w = 2
  · refine top_i (y := 2) w2 ?_
    refine lv_tableIn (off := 70) (tgt := 95) hx hb dX2_keyNear_25 (by decide) (by decide) (by decide) (by decide) ?_
    have hz : kN k c w x b f = kW k ((min (plc k c x.toInt64) f : Nat) - 1 : Int) b f := by unfold kN; rw [if_neg w0, if_neg w1, if_pos w2]
    refine lv_aload_n hx hb dX2_keyNear_95 rfl (lv_at hl 2 rfl) ?_
    refine lv_iload hx hb dX2_keyNear_96 (lv_at hl 1 rfl) ?_
    refine lv_iload hx hb dX2_keyNear_98 (lv_at hl 6 rfl) ?_
    refine va_mmin hx hb (by rw [hml]; exact hl.1.symm) hown (hts (.methodLink RX2 115 Lib.Math.min.name) (by decide +kernel)) (hts (.static Lib.Math.min.name) (by decide +kernel)) (hts (.initialized "java/lang/Math") (by decide +kernel)) (hts (.code Lib.Math.min.name Lib.Math.min.code 2 (some .int)) (by decide +kernel)) (Nat.le_of_ble_eq_true rfl) (Nat.le_of_ble_eq_true rfl) (Nat.le_of_ble_eq_true rfl) (Nat.le_of_ble_eq_true rfl) dX2_keyNear_100 ?_
    refine top_i (y := nI (min (plc k c x.toInt64) f)) (nI_min (by omega) (by omega)) ?_
    refine lv_iconst (v := 1) hx hb dX2_keyNear_103 (by decide) ?_
    refine lv_isub hx hb dX2_keyNear_104 ?_
    refine lv_iload_n hx hb dX2_keyNear_105 rfl (lv_at hl 5 rfl) ?_
    refine lv_iload hx hb dX2_keyNear_106 (lv_at hl 6 rfl) ?_
    refine go_R (va_runV (As := [.int ((nI (min (plc k c x.toInt64) f)) - 1), .int (nI b), .int (nI f)]) (rest := []) ⟨hx, hb, hml, hown, hts⟩ (c_X2_keyWithin l D cy aD aE aK aV aW aR k v c (by omega) lo li hi hn fl ((nI (min (plc k c x.toInt64) f)) - 1) b f (by omega) (by omega)) (cwV 3 hts gX2_keyNear_X2_keyWithin rfl rfl rfl (by decide +kernel) ⟨(Nat.le_of_ble_eq_true rfl), (Nat.le_of_ble_eq_true rfl)⟩) (preV_W hK (hP.sub [0, 1, 2, 3, 4] rfl) 0 2 rfl rfl) rfl rfl hl.1 rfl (lv_room (Nat.le_of_ble_eq_true rfl)) dX2_keyNear_108 ⟨(Nat.le_of_ble_eq_true rfl), (Nat.le_of_ble_eq_true rfl)⟩) ?_
    exact ret_l hx hb hr hlocks dX2_keyNear_111 (by first | (rw [hz]; done) | (rw [hz, nI_toInt (by omega)]; done) | (rw [hz, nI_m1I (by omega)]; done))
  by_cases w3 : w = 3
  · refine top_i (y := 3) w3 ?_
    refine lv_tableIn (off := 87) (tgt := 112) hx hb dX2_keyNear_25 (by decide) (by decide) (by decide) (by decide) ?_
    have hz : kN k c w x b f = kW k ((max (plc k c (x.toInt64 + 1)) b : Nat) : Int) b f := by unfold kN; rw [if_neg w0, if_neg w1, if_neg w2, if_pos w3]
    refine lv_aload_n hx hb dX2_keyNear_112 rfl (lv_at hl 2 rfl) ?_
    refine lv_iload hx hb dX2_keyNear_113 (lv_at hl 0 rfl) ?_
    refine lv_iload_n hx hb dX2_keyNear_115 rfl (lv_at hl 5 rfl) ?_
    refine va_mmax hx hb (by rw [hml]; exact hl.1.symm) hown (hts (.methodLink RX2 110 Lib.Math.max.name) (by decide +kernel)) (hts (.static Lib.Math.max.name) (by decide +kernel)) (hts (.initialized "java/lang/Math") (by decide +kernel)) (hts (.code Lib.Math.max.name Lib.Math.max.code 2 (some .int)) (by decide +kernel)) (Nat.le_of_ble_eq_true rfl) (Nat.le_of_ble_eq_true rfl) (Nat.le_of_ble_eq_true rfl) (Nat.le_of_ble_eq_true rfl) dX2_keyNear_116 ?_
    refine top_i (y := nI (max (plc k c (x.toInt64 + 1)) b)) (nI_max (by omega) (by omega)) ?_
    refine lv_iload_n hx hb dX2_keyNear_119 rfl (lv_at hl 5 rfl) ?_
    refine lv_iload hx hb dX2_keyNear_120 (lv_at hl 6 rfl) ?_
    refine go_R (va_runV (As := [.int (nI (max (plc k c (x.toInt64 + 1)) b)), .int (nI b), .int (nI f)]) (rest := []) ⟨hx, hb, hml, hown, hts⟩ (c_X2_keyWithin l D cy aD aE aK aV aW aR k v c (by omega) lo li hi hn fl (nI (max (plc k c (x.toInt64 + 1)) b)) b f (by omega) (by omega)) (cwV 3 hts gX2_keyNear_X2_keyWithin rfl rfl rfl (by decide +kernel) ⟨(Nat.le_of_ble_eq_true rfl), (Nat.le_of_ble_eq_true rfl)⟩) (preV_W hK (hP.sub [0, 1, 2, 3, 4] rfl) 0 2 rfl rfl) rfl rfl hl.1 rfl (lv_room (Nat.le_of_ble_eq_true rfl)) dX2_keyNear_122 ⟨(Nat.le_of_ble_eq_true rfl), (Nat.le_of_ble_eq_true rfl)⟩) ?_
    exact ret_l hx hb hr hlocks dX2_keyNear_125 (by first | (rw [hz]; done) | (rw [hz, nI_toInt (by omega)]; done) | (rw [hz, nI_m1I (by omega)]; done))
  by_cases w4 : w = 4
  · refine top_i (y := 4) w4 ?_
    refine lv_tableIn (off := 101) (tgt := 126) hx hb dX2_keyNear_25 (by decide) (by decide) (by decide) (by decide) ?_
    have hz : kN k c w x b f = kW k (b : Int) b f := by unfold kN; rw [if_neg w0, if_neg w1, if_neg w2, if_neg w3, if_pos w4]
    refine lv_aload_n hx hb dX2_keyNear_126 rfl (lv_at hl 2 rfl) ?_
    refine lv_iload_n hx hb dX2_keyNear_127 rfl (lv_at hl 5 rfl) ?_
    refine lv_iload_n hx hb dX2_keyNear_128 rfl (lv_at hl 5 rfl) ?_
    refine lv_iload hx hb dX2_keyNear_129 (lv_at hl 6 rfl) ?_
    refine go_R (va_runV (As := [.int (nI b), .int (nI b), .int (nI f)]) (rest := []) ⟨hx, hb, hml, hown, hts⟩ (c_X2_keyWithin l D cy aD aE aK aV aW aR k v c (by omega) lo li hi hn fl (nI b) b f (by omega) (by omega)) (cwV 3 hts gX2_keyNear_X2_keyWithin rfl rfl rfl (by decide +kernel) ⟨(Nat.le_of_ble_eq_true rfl), (Nat.le_of_ble_eq_true rfl)⟩) (preV_W hK (hP.sub [0, 1, 2, 3, 4] rfl) 0 2 rfl rfl) rfl rfl hl.1 rfl (lv_room (Nat.le_of_ble_eq_true rfl)) dX2_keyNear_131 ⟨(Nat.le_of_ble_eq_true rfl), (Nat.le_of_ble_eq_true rfl)⟩) ?_
    exact ret_l hx hb hr hlocks dX2_keyNear_134 (by first | (rw [hz]; done) | (rw [hz, nI_toInt (by omega)]; done) | (rw [hz, nI_m1I (by omega)]; done))
  by_cases w5 : w = 5
  · refine top_i (y := 5) w5 ?_
    refine lv_tableIn (off := 110) (tgt := 135) hx hb dX2_keyNear_25 (by decide) (by decide) (by decide) (by decide) ?_
    have hz : kN k c w x b f = kW k ((f : Int) - 1) b f := by unfold kN; rw [if_neg w0, if_neg w1, if_neg w2, if_neg w3, if_neg w4, if_pos w5]
    refine lv_aload_n hx hb dX2_keyNear_135 rfl (lv_at hl 2 rfl) ?_
    refine lv_iload hx hb dX2_keyNear_136 (lv_at hl 6 rfl) ?_
    refine lv_iconst (v := 1) hx hb dX2_keyNear_138 (by decide) ?_
    refine lv_isub hx hb dX2_keyNear_139 ?_
    refine lv_iload_n hx hb dX2_keyNear_140 rfl (lv_at hl 5 rfl) ?_
    refine lv_iload hx hb dX2_keyNear_141 (lv_at hl 6 rfl) ?_
    refine go_R (va_runV (As := [.int ((nI f) - 1), .int (nI b), .int (nI f)]) (rest := []) ⟨hx, hb, hml, hown, hts⟩ (c_X2_keyWithin l D cy aD aE aK aV aW aR k v c (by omega) lo li hi hn fl ((nI f) - 1) b f (by omega) (by omega)) (cwV 3 hts gX2_keyNear_X2_keyWithin rfl rfl rfl (by decide +kernel) ⟨(Nat.le_of_ble_eq_true rfl), (Nat.le_of_ble_eq_true rfl)⟩) (preV_W hK (hP.sub [0, 1, 2, 3, 4] rfl) 0 2 rfl rfl) rfl rfl hl.1 rfl (lv_room (Nat.le_of_ble_eq_true rfl)) dX2_keyNear_143 ⟨(Nat.le_of_ble_eq_true rfl), (Nat.le_of_ble_eq_true rfl)⟩) ?_
    exact ret_l hx hb hr hlocks dX2_keyNear_146 (by first | (rw [hz]; done) | (rw [hz, nI_toInt (by omega)]; done) | (rw [hz, nI_m1I (by omega)]; done))
  refine lv_tableOut (tgt := 147) hx hb dX2_keyNear_25 (tbl_out w0 w1 w2 w3 w4 w5) (by decide) ?_
  have hz : kN k c w x b f = NO := by unfold kN; rw [if_neg w0, if_neg w1, if_neg w2, if_neg w3, if_neg w4, if_neg w5]
  refine lv_ldc2 hx hb hown kc_44 dX2_keyNear_147 ?_
  exact ret_l hx hb hr hlocks dX2_keyNear_150 (by first | (rw [hz]; done) | (rw [hz, nI_toInt (by omega)]; done) | (rw [hz, nI_m1I (by omega)]; done))

set_option maxHeartbeats 4000000 in
set_option maxRecDepth 100000 in
/-- near(what, key) -/
theorem c_X2_near (l : Launch) (D : va_G) (cy : ClassId) (aD aE aK aV aW aR : Nat) (k v : Nat → Int32) (c : Nat) (hc : c ≤ 512) (lo : Int64) (li : Bool) (hi : Int64) (hn : Bool) (fl : Bool) (w x : Int32) : Met l yX2_near wsX2_near ({ frames := 3, cells := 0, slots := 0, locals := 70 } : Room) (pcW D [(cy, .int)] [.ref aD, .int w, .int x] [(aD, .inr (2, [.ref aE, .ref aW, .ref aR, .int (bI fl)])), (aE, .inr (0, [.ref aK, .ref aV, .int (nI c)])), (aK, .inl (cy, 512, .inl k)), (aV, .inl (cy, 512, .inl v)), (aR, .inr (1, [.long lo, .int (bI li), .long hi, .int (bI hn)]))]) (qR (.long (kN k c w x 0 c))) 0 0 (fun _ => False) := by
  refine met_W (cc := cX2_near) (maxL := 3) (ret := (some .long)) (by decide +kernel) rfl (Nat.le_of_ble_eq_true rfl) ?_
  intro pM eM s mM below meth cM ls hx hb hr hts hown hlocks hml hnm hK hP hl
  have hown : s.vm.findClass RX2 = some mM.cls := hown
  have hl : lv_has ls 3 [(0, .ref aD), (1, .int w), (2, .int x)] := hl
  have hin_X2 : ∀ w ∈ wsX20, w ∈ wsX2_near := by decide +kernel
  have kf_12 := hts (.fieldLink RX2 12 "OrderedDesk" "entries" "LOrderedDesk$Entries;") (by decide +kernel)
  have hP : va_P D vwCl [(aD, .inr (2, [.ref aE, .ref aW, .ref aR, .int (bI fl)])), (aE, .inr (0, [.ref aK, .ref aV, .int (nI c)])), (aK, .inl (cy, 512, .inl k)), (aV, .inl (cy, 512, .inl v)), (aR, .inr (1, [.long lo, .int (bI li), .long hi, .int (bI hn)]))] s.heap := hP
  refine lv_aload_n hx hb dX2_near_0 rfl (lv_at hl 0 rfl) ?_
  refine lv_iload_n hx hb dX2_near_1 rfl (lv_at hl 1 rfl) ?_
  refine lv_iload_n hx hb dX2_near_2 rfl (lv_at hl 2 rfl) ?_
  refine lv_iconst (v := nI 0) hx hb dX2_near_3 (by decide) ?_
  refine lv_aload_n hx hb dX2_near_4 rfl (lv_at hl 0 rfl) ?_
  refine va_get (ci := 2) (v := .ref aE) (C := RX2) (T := TX2) (N := 4) hx hb hts hin_X2 hown hK hP 0 rfl rfl 0 (by decide) kf_12 (fun _ h9 => h9) rfl dX2_near_5 ?_
  refine go_R (va_runV (As := []) (rest := [.int (nI 0), .int x, .int w, .ref aD]) ⟨hx, hb, hml, hown, hts⟩ (c_X0_count l D cy aE aK aV k v c (by omega)) (cwV 0 hts gX2_near_X0_count rfl rfl rfl (by decide +kernel) ⟨(Nat.le_of_ble_eq_true rfl), (Nat.le_of_ble_eq_true rfl)⟩) (preV_W hK (hP.sub [1, 2, 3] rfl) 0 0 rfl rfl) rfl rfl hl.1 rfl (lv_room (Nat.le_of_ble_eq_true rfl)) dX2_near_8 ⟨(Nat.le_of_ble_eq_true rfl), (Nat.le_of_ble_eq_true rfl)⟩) ?_
  refine go_R (va_runV (As := [.int w, .int x, .int (nI 0), .int (nI c)]) (rest := []) ⟨hx, hb, hml, hown, hts⟩ (c_X2_keyNear l D cy aD aE aK aV aW aR k v c (by omega) lo li hi hn fl w x 0 c (by omega) (by omega)) (cwV 4 hts gX2_near_X2_keyNear rfl rfl rfl (by decide +kernel) ⟨(Nat.le_of_ble_eq_true rfl), (Nat.le_of_ble_eq_true rfl)⟩) (preV_W hK (hP.sub [0, 1, 2, 3, 4] rfl) 0 2 rfl rfl) rfl rfl hl.1 rfl (lv_room (Nat.le_of_ble_eq_true rfl)) dX2_near_11 ⟨(Nat.le_of_ble_eq_true rfl), (Nat.le_of_ble_eq_true rfl)⟩) ?_
  exact ret_l hx hb hr hlocks dX2_near_14 (rfl)

set_option maxHeartbeats 4000000 in
set_option maxRecDepth 100000 in
/-- mirrored(what) -/
theorem c_X2_mirrored (l : Launch) (D : va_G) (w : Int32) : Met l yX2_mirrored wsX2_mirrored ({ frames := 0, cells := 0, slots := 0, locals := 0 } : Room) (pcW D [] [.int w] []) (qR (.int (mir w))) 0 0 (fun _ => False) := by
  refine met_W (cc := cX2_mirrored) (maxL := 1) (ret := (some .int)) (by decide +kernel) rfl (Nat.le_of_ble_eq_true rfl) ?_
  intro pM eM s mM below meth cM ls hx hb hr hts hown hlocks hml hnm hK hP hl
  have hown : s.vm.findClass RX2 = some mM.cls := hown
  have hl : lv_has ls 1 [(0, .int w)] := hl
  have hP : va_P D vwCl [] s.heap := hP
  refine lv_iload_n hx hb dX2_mirrored_0 rfl (lv_at hl 0 rfl) ?_
  by_cases w0 : w = 0
  · refine top_i (y := 0) w0 ?_
    refine lv_tableIn (off := 39) (tgt := 40) hx hb dX2_mirrored_1 (by decide) (by decide) (by decide) (by decide) ?_
    have hz : mir w = 1 := by unfold mir; rw [if_pos w0]
    refine lv_iconst (v := 1) hx hb dX2_mirrored_40 (by decide) ?_
    exact ret_i hx hb hr hlocks dX2_mirrored_41 hz.symm
  by_cases w1 : w = 1
  · refine top_i (y := 1) w1 ?_
    refine lv_tableIn (off := 41) (tgt := 42) hx hb dX2_mirrored_1 (by decide) (by decide) (by decide) (by decide) ?_
    have hz : mir w = 0 := by unfold mir; rw [if_neg w0, if_pos w1]
    refine lv_iconst (v := 0) hx hb dX2_mirrored_42 (by decide) ?_
    exact ret_i hx hb hr hlocks dX2_mirrored_43 hz.symm
  by_cases w2 : w = 2
  · refine top_i (y := 2) w2 ?_
    refine lv_tableIn (off := 43) (tgt := 44) hx hb dX2_mirrored_1 (by decide) (by decide) (by decide) (by decide) ?_
    have hz : mir w = 3 := by unfold mir; rw [if_neg w0, if_neg w1, if_pos w2]
    refine lv_iconst (v := 3) hx hb dX2_mirrored_44 (by decide) ?_
    exact ret_i hx hb hr hlocks dX2_mirrored_45 hz.symm
  by_cases w3 : w = 3
  · refine top_i (y := 3) w3 ?_
    refine lv_tableIn (off := 45) (tgt := 46) hx hb dX2_mirrored_1 (by decide) (by decide) (by decide) (by decide) ?_
    have hz : mir w = 2 := by unfold mir; rw [if_neg w0, if_neg w1, if_neg w2, if_pos w3]
    refine lv_iconst (v := 2) hx hb dX2_mirrored_46 (by decide) ?_
    exact ret_i hx hb hr hlocks dX2_mirrored_47 hz.symm
  by_cases w4 : w = 4
  · refine top_i (y := 4) w4 ?_
    refine lv_tableIn (off := 47) (tgt := 48) hx hb dX2_mirrored_1 (by decide) (by decide) (by decide) (by decide) ?_
    have hz : mir w = 5 := by unfold mir; rw [if_neg w0, if_neg w1, if_neg w2, if_neg w3, if_pos w4]
    refine lv_iconst (v := 5) hx hb dX2_mirrored_48 (by decide) ?_
    exact ret_i hx hb hr hlocks dX2_mirrored_49 hz.symm
  by_cases w5 : w = 5
  · refine top_i (y := 5) w5 ?_
    refine lv_tableIn (off := 49) (tgt := 50) hx hb dX2_mirrored_1 (by decide) (by decide) (by decide) (by decide) ?_
    have hz : mir w = 4 := by unfold mir; rw [if_neg w0, if_neg w1, if_neg w2, if_neg w3, if_neg w4, if_pos w5]
    refine lv_iconst (v := 4) hx hb dX2_mirrored_50 (by decide) ?_
    exact ret_i hx hb hr hlocks dX2_mirrored_51 hz.symm
  refine lv_tableOut (tgt := 52) hx hb dX2_mirrored_1 (tbl_out w0 w1 w2 w3 w4 w5) (by decide) ?_
  have hz : mir w = w := by unfold mir; rw [if_neg w0, if_neg w1, if_neg w2, if_neg w3, if_neg w4, if_neg w5]
  refine lv_iload_n hx hb dX2_mirrored_52 rfl (lv_at hl 0 rfl) ?_
  exact ret_i hx hb hr hlocks dX2_mirrored_53 hz.symm

set_option maxHeartbeats 4000000 in
set_option maxRecDepth 100000 in
/-- viewNear(what, key) -/
theorem c_X2_viewNear (l : Launch) (D : va_G) (cy : ClassId) (aD aE aK aV aW aR : Nat) (k v : Nat → Int32) (c : Nat) (hc : c ≤ 512) (lo : Int64) (li : Bool) (hi : Int64) (hn : Bool) (fl : Bool) (w x : Int32) : Met l yX2_viewNear wsX2_viewNear ({ frames := 3, cells := 0, slots := 0, locals := 70 } : Room) (pcW D [(cy, .int)] [.ref aD, .int w, .int x] [(aD, .inr (2, [.ref aE, .ref aW, .ref aR, .int (bI fl)])), (aE, .inr (0, [.ref aK, .ref aV, .int (nI c)])), (aK, .inl (cy, 512, .inl k)), (aV, .inl (cy, 512, .inl v)), (aR, .inr (1, [.long lo, .int (bI li), .long hi, .int (bI hn)]))]) (qR (.long (kN k c (if fl = true then mir w else w) x (vB k c lo li) (vE k c lo li hi hn)))) 0 0 (fun _ => False) := by
  refine met_W (cc := cX2_viewNear) (maxL := 3) (ret := (some .long)) (by decide +kernel) rfl (Nat.le_of_ble_eq_true rfl) ?_
  intro pM eM s mM below meth cM ls hx hb hr hts hown hlocks hml hnm hK hP hl
  have hown : s.vm.findClass RX2 = some mM.cls := hown
  have hl : lv_has ls 3 [(0, .ref aD), (1, .int w), (2, .int x)] := hl
  have hin_X2 : ∀ w ∈ wsX20, w ∈ wsX2_viewNear := by decide +kernel
  have kf_32 := hts (.fieldLink RX2 32 "OrderedDesk" "falling" "Z") (by decide +kernel)
  have hP : va_P D vwCl [(aD, .inr (2, [.ref aE, .ref aW, .ref aR, .int (bI fl)])), (aE, .inr (0, [.ref aK, .ref aV, .int (nI c)])), (aK, .inl (cy, 512, .inl k)), (aV, .inl (cy, 512, .inl v)), (aR, .inr (1, [.long lo, .int (bI li), .long hi, .int (bI hn)]))] s.heap := hP
  have q1 := vB_le k c lo li
  have q2 := vE_le k c lo li hi hn
  have q3 := vBE k c lo li hi hn
  refine lv_aload_n hx hb dX2_viewNear_0 rfl (lv_at hl 0 rfl) ?_
  refine lv_aload_n hx hb dX2_viewNear_1 rfl (lv_at hl 0 rfl) ?_
  refine va_get (ci := 2) (v := .int (bI fl)) (C := RX2) (T := TX2) (N := 4) hx hb hts hin_X2 hown hK hP 0 rfl rfl 3 (by decide) kf_32 (fun _ h9 => h9) rfl dX2_viewNear_2 ?_
  refine b_eq (tgt := 15) hx hb dX2_viewNear_5 (by decide) (fun h5 => ?_) (fun h5 => ?_)
  · have hz : (if fl = true then mir w else w) = w := if_neg (by rw [h5]; decide)
    refine lv_iload_n hx hb dX2_viewNear_15 rfl (lv_at hl 1 rfl) ?_
    refine lv_iload_n hx hb dX2_viewNear_16 rfl (lv_at hl 2 rfl) ?_
    refine lv_aload_n hx hb dX2_viewNear_17 rfl (lv_at hl 0 rfl) ?_
    refine go_R (va_runV (As := []) (rest := [.int x, .int w, .ref aD]) ⟨hx, hb, hml, hown, hts⟩ (c_X2_viewBegin l D cy aD aE aK aV aW aR k v c (by omega) lo li hi hn fl) (cwV 0 hts gX2_viewNear_X2_viewBegin rfl rfl rfl (by decide +kernel) ⟨(Nat.le_of_ble_eq_true rfl), (Nat.le_of_ble_eq_true rfl)⟩) (preV_W hK (hP.sub [0, 1, 2, 3, 4] rfl) 0 2 rfl rfl) rfl rfl hl.1 rfl (lv_room (Nat.le_of_ble_eq_true rfl)) dX2_viewNear_18 ⟨(Nat.le_of_ble_eq_true rfl), (Nat.le_of_ble_eq_true rfl)⟩) ?_
    refine lv_aload_n hx hb dX2_viewNear_21 rfl (lv_at hl 0 rfl) ?_
    refine go_R (va_runV (As := []) (rest := [.int (nI (vB k c lo li)), .int x, .int w, .ref aD]) ⟨hx, hb, hml, hown, hts⟩ (c_X2_viewEnd l D cy aD aE aK aV aW aR k v c (by omega) lo li hi hn fl) (cwV 0 hts gX2_viewNear_X2_viewEnd rfl rfl rfl (by decide +kernel) ⟨(Nat.le_of_ble_eq_true rfl), (Nat.le_of_ble_eq_true rfl)⟩) (preV_W hK (hP.sub [0, 1, 2, 3, 4] rfl) 0 2 rfl rfl) rfl rfl hl.1 rfl (lv_room (Nat.le_of_ble_eq_true rfl)) dX2_viewNear_22 ⟨(Nat.le_of_ble_eq_true rfl), (Nat.le_of_ble_eq_true rfl)⟩) ?_
    refine go_R (va_runV (As := [.int w, .int x, .int (nI (vB k c lo li)), .int (nI (vE k c lo li hi hn))]) (rest := []) ⟨hx, hb, hml, hown, hts⟩ (c_X2_keyNear l D cy aD aE aK aV aW aR k v c (by omega) lo li hi hn fl w x (vB k c lo li) (vE k c lo li hi hn) (by omega) (by omega)) (cwV 4 hts gX2_viewNear_X2_keyNear rfl rfl rfl (by decide +kernel) ⟨(Nat.le_of_ble_eq_true rfl), (Nat.le_of_ble_eq_true rfl)⟩) (preV_W hK (hP.sub [0, 1, 2, 3, 4] rfl) 0 2 rfl rfl) rfl rfl hl.1 rfl (lv_room (Nat.le_of_ble_eq_true rfl)) dX2_viewNear_25 ⟨(Nat.le_of_ble_eq_true rfl), (Nat.le_of_ble_eq_true rfl)⟩) ?_
    exact ret_l hx hb hr hlocks dX2_viewNear_28 (by rw [hz])
  · have hz : (if fl = true then mir w else w) = mir w := if_pos h5
    refine lv_iload_n hx hb dX2_viewNear_8 rfl (lv_at hl 1 rfl) ?_
    refine go_R (va_runS (As := [.int w]) (rest := [.ref aD]) ⟨hx, hb, hml, hown, hts⟩ (c_X2_mirrored l D w) (va_cwS 1 hts gX2_viewNear_X2_mirrored rfl rfl rfl (by decide +kernel) ⟨(Nat.le_of_ble_eq_true rfl), (Nat.le_of_ble_eq_true rfl)⟩) (preS_W (hK.sub [] rfl) (hP.sub [] rfl)) rfl rfl hl.1 rfl (lv_room (Nat.le_of_ble_eq_true rfl)) dX2_viewNear_9 ⟨(Nat.le_of_ble_eq_true rfl), (Nat.le_of_ble_eq_true rfl)⟩) ?_
    refine lv_goto (tgt := 16) hx hb dX2_viewNear_12 (by decide) ?_
    refine lv_iload_n hx hb dX2_viewNear_16 rfl (lv_at hl 2 rfl) ?_
    refine lv_aload_n hx hb dX2_viewNear_17 rfl (lv_at hl 0 rfl) ?_
    refine go_R (va_runV (As := []) (rest := [.int x, .int (mir w), .ref aD]) ⟨hx, hb, hml, hown, hts⟩ (c_X2_viewBegin l D cy aD aE aK aV aW aR k v c (by omega) lo li hi hn fl) (cwV 0 hts gX2_viewNear_X2_viewBegin rfl rfl rfl (by decide +kernel) ⟨(Nat.le_of_ble_eq_true rfl), (Nat.le_of_ble_eq_true rfl)⟩) (preV_W hK (hP.sub [0, 1, 2, 3, 4] rfl) 0 2 rfl rfl) rfl rfl hl.1 rfl (lv_room (Nat.le_of_ble_eq_true rfl)) dX2_viewNear_18 ⟨(Nat.le_of_ble_eq_true rfl), (Nat.le_of_ble_eq_true rfl)⟩) ?_
    refine lv_aload_n hx hb dX2_viewNear_21 rfl (lv_at hl 0 rfl) ?_
    refine go_R (va_runV (As := []) (rest := [.int (nI (vB k c lo li)), .int x, .int (mir w), .ref aD]) ⟨hx, hb, hml, hown, hts⟩ (c_X2_viewEnd l D cy aD aE aK aV aW aR k v c (by omega) lo li hi hn fl) (cwV 0 hts gX2_viewNear_X2_viewEnd rfl rfl rfl (by decide +kernel) ⟨(Nat.le_of_ble_eq_true rfl), (Nat.le_of_ble_eq_true rfl)⟩) (preV_W hK (hP.sub [0, 1, 2, 3, 4] rfl) 0 2 rfl rfl) rfl rfl hl.1 rfl (lv_room (Nat.le_of_ble_eq_true rfl)) dX2_viewNear_22 ⟨(Nat.le_of_ble_eq_true rfl), (Nat.le_of_ble_eq_true rfl)⟩) ?_
    refine go_R (va_runV (As := [.int (mir w), .int x, .int (nI (vB k c lo li)), .int (nI (vE k c lo li hi hn))]) (rest := []) ⟨hx, hb, hml, hown, hts⟩ (c_X2_keyNear l D cy aD aE aK aV aW aR k v c (by omega) lo li hi hn fl (mir w) x (vB k c lo li) (vE k c lo li hi hn) (by omega) (by omega)) (cwV 4 hts gX2_viewNear_X2_keyNear rfl rfl rfl (by decide +kernel) ⟨(Nat.le_of_ble_eq_true rfl), (Nat.le_of_ble_eq_true rfl)⟩) (preV_W hK (hP.sub [0, 1, 2, 3, 4] rfl) 0 2 rfl rfl) rfl rfl hl.1 rfl (lv_room (Nat.le_of_ble_eq_true rfl)) dX2_viewNear_25 ⟨(Nat.le_of_ble_eq_true rfl), (Nat.le_of_ble_eq_true rfl)⟩) ?_
    exact ret_l hx hb hr hlocks dX2_viewNear_28 (by rw [hz])

set_option maxHeartbeats 4000000 in
set_option maxRecDepth 100000 in
/-- viewGet(key) -/
theorem c_X2_viewGet (l : Launch) (D : va_G) (cy : ClassId) (aD aE aK aV aW aR : Nat) (k v : Nat → Int32) (c : Nat) (hc : c ≤ 512) (lo : Int64) (li : Bool) (hi : Int64) (hn : Bool) (fl : Bool) (x : Int32) : Met l yX2_viewGet wsX2_viewGet ({ frames := 2, cells := 0, slots := 0, locals := 45 } : Room) (pcW D [(cy, .int)] [.ref aD, .int x] [(aD, .inr (2, [.ref aE, .ref aW, .ref aR, .int (bI fl)])), (aE, .inr (0, [.ref aK, .ref aV, .int (nI c)])), (aK, .inl (cy, 512, .inl k)), (aV, .inl (cy, 512, .inl v)), (aR, .inr (1, [.long lo, .int (bI li), .long hi, .int (bI hn)]))]) (qR (.long (if hR lo li hi hn x.toInt64 = true then vOf k v c x else NO))) 0 0 (fun _ => False) := by
  refine met_W (cc := cX2_viewGet) (maxL := 2) (ret := (some .long)) (by decide +kernel) rfl (Nat.le_of_ble_eq_true rfl) ?_
  intro pM eM s mM below meth cM ls hx hb hr hts hown hlocks hml hnm hK hP hl
  have hown : s.vm.findClass RX2 = some mM.cls := hown
  have hl : lv_has ls 2 [(0, .ref aD), (1, .int x)] := hl
  have hin_X2 : ∀ w ∈ wsX20, w ∈ wsX2_viewGet := by decide +kernel
  have kf_12 := hts (.fieldLink RX2 12 "OrderedDesk" "entries" "LOrderedDesk$Entries;") (by decide +kernel)
  have kf_29 := hts (.fieldLink RX2 29 "OrderedDesk" "range" "LOrderedDesk$Range;") (by decide +kernel)
  have kc_44 := hts (.constantLong RX2 44 (1099511627776)) (by decide +kernel)
  have hP : va_P D vwCl [(aD, .inr (2, [.ref aE, .ref aW, .ref aR, .int (bI fl)])), (aE, .inr (0, [.ref aK, .ref aV, .int (nI c)])), (aK, .inl (cy, 512, .inl k)), (aV, .inl (cy, 512, .inl v)), (aR, .inr (1, [.long lo, .int (bI li), .long hi, .int (bI hn)]))] s.heap := hP
  refine lv_aload_n hx hb dX2_viewGet_0 rfl (lv_at hl 0 rfl) ?_
  refine va_get (ci := 2) (v := .ref aR) (C := RX2) (T := TX2) (N := 4) hx hb hts hin_X2 hown hK hP 0 rfl rfl 2 (by decide) kf_29 (fun _ h9 => h9) rfl dX2_viewGet_1 ?_
  refine lv_iload_n hx hb dX2_viewGet_4 rfl (lv_at hl 1 rfl) ?_
  refine lv_i2l hx hb dX2_viewGet_5 rfl ?_
  refine go_R (va_runV (As := [.long x.toInt64]) (rest := []) ⟨hx, hb, hml, hown, hts⟩ (c_X1_holds l D cy aR lo li hi hn x.toInt64) (cwV 1 hts gX2_viewGet_X1_holds rfl rfl rfl (by decide +kernel) ⟨(Nat.le_of_ble_eq_true rfl), (Nat.le_of_ble_eq_true rfl)⟩) (preV_W hK (hP.sub [4] rfl) 0 1 rfl rfl) rfl rfl hl.1 rfl (lv_room (Nat.le_of_ble_eq_true rfl)) dX2_viewGet_6 ⟨(Nat.le_of_ble_eq_true rfl), (Nat.le_of_ble_eq_true rfl)⟩) ?_
  refine b_eq (tgt := 23) hx hb dX2_viewGet_9 (by decide) (fun h9 => ?_) (fun h9 => ?_)
  · refine lv_ldc2 hx hb hown kc_44 dX2_viewGet_23 ?_
    exact ret_l hx hb hr hlocks dX2_viewGet_26 (by rw [h9]; rfl)
  · refine lv_aload_n hx hb dX2_viewGet_12 rfl (lv_at hl 0 rfl) ?_
    refine va_get (ci := 2) (v := .ref aE) (C := RX2) (T := TX2) (N := 4) hx hb hts hin_X2 hown hK hP 0 rfl rfl 0 (by decide) kf_12 (fun _ h9 => h9) rfl dX2_viewGet_13 ?_
    refine lv_iload_n hx hb dX2_viewGet_16 rfl (lv_at hl 1 rfl) ?_
    refine go_R (va_runV (As := [.int x]) (rest := []) ⟨hx, hb, hml, hown, hts⟩ (c_X0_valueOf l D cy aE aK aV k v c (by omega) x) (cwV 1 hts gX2_viewGet_X0_valueOf rfl rfl rfl (by decide +kernel) ⟨(Nat.le_of_ble_eq_true rfl), (Nat.le_of_ble_eq_true rfl)⟩) (preV_W hK (hP.sub [1, 2, 3] rfl) 0 0 rfl rfl) rfl rfl hl.1 rfl (lv_room (Nat.le_of_ble_eq_true rfl)) dX2_viewGet_17 ⟨(Nat.le_of_ble_eq_true rfl), (Nat.le_of_ble_eq_true rfl)⟩) ?_
    refine lv_goto (tgt := 26) hx hb dX2_viewGet_20 (by decide) ?_
    exact ret_l hx hb hr hlocks dX2_viewGet_26 (by rw [h9]; rfl)

set_option maxHeartbeats 4000000 in
set_option maxRecDepth 100000 in
/-- viewKey(k) -/
theorem c_X2_viewKey (l : Launch) (D : va_G) (cy : ClassId) (aD aE aK aV aW aR : Nat) (k v : Nat → Int32) (c : Nat) (hc : c ≤ 512) (lo : Int64) (li : Bool) (hi : Int64) (hn : Bool) (fl : Bool) (x : Int32) : Met l yX2_viewKey wsX2_viewKey ({ frames := 3, cells := 0, slots := 0, locals := 63 } : Room) (pcW D [(cy, .int)] [.ref aD, .int x] [(aD, .inr (2, [.ref aE, .ref aW, .ref aR, .int (bI fl)])), (aE, .inr (0, [.ref aK, .ref aV, .int (nI c)])), (aK, .inl (cy, 512, .inl k)), (aV, .inl (cy, 512, .inl v)), (aR, .inr (1, [.long lo, .int (bI li), .long hi, .int (bI hn)]))]) (qR (.long (vKy k (vB k c lo li) (vE k c lo li hi hn) fl x.toInt))) 0 0 (fun _ => False) := by
  refine met_W (cc := cX2_viewKey) (maxL := 4) (ret := (some .long)) (by decide +kernel) rfl (Nat.le_of_ble_eq_true rfl) ?_
  intro pM eM s mM below meth cM ls hx hb hr hts hown hlocks hml hnm hK hP hl
  have hown : s.vm.findClass RX2 = some mM.cls := hown
  have hl : lv_has ls 4 [(0, .ref aD), (1, .int x)] := hl
  have hin_X2 : ∀ w ∈ wsX20, w ∈ wsX2_viewKey := by decide +kernel
  have kf_12 := hts (.fieldLink RX2 12 "OrderedDesk" "entries" "LOrderedDesk$Entries;") (by decide +kernel)
  have kf_32 := hts (.fieldLink RX2 32 "OrderedDesk" "falling" "Z") (by decide +kernel)
  have kc_44 := hts (.constantLong RX2 44 (1099511627776)) (by decide +kernel)
  have hP : va_P D vwCl [(aD, .inr (2, [.ref aE, .ref aW, .ref aR, .int (bI fl)])), (aE, .inr (0, [.ref aK, .ref aV, .int (nI c)])), (aK, .inl (cy, 512, .inl k)), (aV, .inl (cy, 512, .inl v)), (aR, .inr (1, [.long lo, .int (bI li), .long hi, .int (bI hn)]))] s.heap := hP
  have q1 := vB_le k c lo li
  have q2 := vE_le k c lo li hi hn
  have q3 := vBE k c lo li hi hn
  refine lv_aload_n hx hb dX2_viewKey_0 rfl (lv_at hl 0 rfl) ?_
  refine go_R (va_runV (As := []) (rest := []) ⟨hx, hb, hml, hown, hts⟩ (c_X2_viewBegin l D cy aD aE aK aV aW aR k v c (by omega) lo li hi hn fl) (cwV 0 hts gX2_viewKey_X2_viewBegin rfl rfl rfl (by decide +kernel) ⟨(Nat.le_of_ble_eq_true rfl), (Nat.le_of_ble_eq_true rfl)⟩) (preV_W hK (hP.sub [0, 1, 2, 3, 4] rfl) 0 2 rfl rfl) rfl rfl hl.1 rfl (lv_room (Nat.le_of_ble_eq_true rfl)) dX2_viewKey_1 ⟨(Nat.le_of_ble_eq_true rfl), (Nat.le_of_ble_eq_true rfl)⟩) ?_
  refine lv_istore_n (lv' := [(2, .int (nI (vB k c lo li))), (0, .ref aD), (1, .int x)]) hx hb dX2_viewKey_4 rfl hl (by decide) rfl (fun ls hl => ?_)
  refine lv_aload_n hx hb dX2_viewKey_5 rfl (lv_at hl 1 rfl) ?_
  refine go_R (va_runV (As := []) (rest := []) ⟨hx, hb, hml, hown, hts⟩ (c_X2_viewEnd l D cy aD aE aK aV aW aR k v c (by omega) lo li hi hn fl) (cwV 0 hts gX2_viewKey_X2_viewEnd rfl rfl rfl (by decide +kernel) ⟨(Nat.le_of_ble_eq_true rfl), (Nat.le_of_ble_eq_true rfl)⟩) (preV_W hK (hP.sub [0, 1, 2, 3, 4] rfl) 0 2 rfl rfl) rfl rfl hl.1 rfl (lv_room (Nat.le_of_ble_eq_true rfl)) dX2_viewKey_6 ⟨(Nat.le_of_ble_eq_true rfl), (Nat.le_of_ble_eq_true rfl)⟩) ?_
  refine lv_istore_n (lv' := [(3, .int (nI (vE k c lo li hi hn))), (2, .int (nI (vB k c lo li))), (0, .ref aD), (1, .int x)]) hx hb dX2_viewKey_9 rfl hl (by decide) rfl (fun ls hl => ?_)
  refine lv_iload_n hx hb dX2_viewKey_10 rfl (lv_at hl 3 rfl) ?_
  refine lv_if_lt (tgt := 21) hx hb dX2_viewKey_11 (by decide) (fun h11 => ?_) (fun h11 => ?_)
  · have hz : vKy k (vB k c lo li) (vE k c lo li hi hn) fl x.toInt = NO := by rw [Int32.lt_iff_toInt_lt, Int32.toInt_zero] at h11; unfold vKy; rw [if_neg (by omega)]
    refine lv_ldc2 hx hb hown kc_44 dX2_viewKey_21 ?_
    exact ret_l hx hb hr hlocks dX2_viewKey_24 (by first | (rw [hz]; done) | (rw [hz, nI_toInt (by omega)]; exact kW_yes (by omega) (by omega)))
  · refine lv_iload_n hx hb dX2_viewKey_14 rfl (lv_at hl 3 rfl) ?_
    refine lv_iload_n hx hb dX2_viewKey_15 rfl (lv_at hl 0 rfl) ?_
    refine lv_iload_n hx hb dX2_viewKey_16 rfl (lv_at hl 1 rfl) ?_
    refine lv_isub hx hb dX2_viewKey_17 ?_
    refine top_i (y := nI ((vE k c lo li hi hn) - (vB k c lo li))) (pk_sub (by omega)) ?_
    refine lv_icmp_lt (tgt := 25) hx hb dX2_viewKey_18 (by decide) (fun h18 => ?_) (fun h18 => ?_)
    · obtain ⟨j, hj, rfl⟩ : ∃ j : Nat, j < (vE k c lo li hi hn) - (vB k c lo li) ∧ x = nI j := by obtain ⟨j, h1, h2, -⟩ := pk_mu h11 (Int32.not_le.mpr h18) (by omega); exact ⟨j, h1, h2⟩
      have hz : vKy k (vB k c lo li) (vE k c lo li hi hn) fl (nI j).toInt = (k (if fl = true then (vE k c lo li hi hn) - 1 - j else (vB k c lo li) + j)).toInt64 := by rw [nI_toInt (by omega)]; unfold vKy; rw [if_pos (by omega), Int.toNat_natCast]
      refine lv_aload_n hx hb dX2_viewKey_25 rfl (lv_at hl 2 rfl) ?_
      refine va_get (ci := 2) (v := .ref aE) (C := RX2) (T := TX2) (N := 4) hx hb hts hin_X2 hown hK hP 0 rfl rfl 0 (by decide) kf_12 (fun _ h9 => h9) rfl dX2_viewKey_26 ?_
      refine lv_aload_n hx hb dX2_viewKey_29 rfl (lv_at hl 2 rfl) ?_
      refine va_get (ci := 2) (v := .int (bI fl)) (C := RX2) (T := TX2) (N := 4) hx hb hts hin_X2 hown hK hP 0 rfl rfl 3 (by decide) kf_32 (fun _ h9 => h9) rfl dX2_viewKey_30 ?_
      refine b_eq (tgt := 44) hx hb dX2_viewKey_33 (by decide) (fun h33 => ?_) (fun h33 => ?_)
      · rw [if_neg (by rw [h33]; decide)] at hz
        refine lv_iload_n hx hb dX2_viewKey_44 rfl (lv_at hl 1 rfl) ?_
        refine lv_iload_n hx hb dX2_viewKey_45 rfl (lv_at hl 3 rfl) ?_
        refine lv_iadd hx hb dX2_viewKey_46 ?_
        refine top_i (y := nI ((vB k c lo li) + j)) (nI_add _ _) ?_
        refine go_R (va_runV (As := [.int (nI ((vB k c lo li) + j))]) (rest := []) ⟨hx, hb, hml, hown, hts⟩ (c_X0_keyAt l D cy aE aK aV k v c (by omega) (nI ((vB k c lo li) + j))) (cwV 1 hts gX2_viewKey_X0_keyAt rfl rfl rfl (by decide +kernel) ⟨(Nat.le_of_ble_eq_true rfl), (Nat.le_of_ble_eq_true rfl)⟩) (preV_W hK (hP.sub [1, 2, 3] rfl) 0 0 rfl rfl) rfl rfl hl.1 rfl (lv_room (Nat.le_of_ble_eq_true rfl)) dX2_viewKey_47 ⟨(Nat.le_of_ble_eq_true rfl), (Nat.le_of_ble_eq_true rfl)⟩) ?_
        exact ret_l hx hb hr hlocks dX2_viewKey_50 (by first | (rw [hz]; done) | (rw [hz, nI_toInt (by omega)]; exact kW_yes (by omega) (by omega)))
      · rw [if_pos h33] at hz
        refine lv_iload_n hx hb dX2_viewKey_36 rfl (lv_at hl 0 rfl) ?_
        refine lv_iconst (v := nI 1) hx hb dX2_viewKey_37 (by decide) ?_
        refine lv_isub hx hb dX2_viewKey_38 ?_
        refine top_i (y := nI ((vE k c lo li hi hn) - 1)) (pk_sub (by omega)) ?_
        refine lv_iload_n hx hb dX2_viewKey_39 rfl (lv_at hl 3 rfl) ?_
        refine lv_isub hx hb dX2_viewKey_40 ?_
        refine top_i (y := nI (((vE k c lo li hi hn) - 1) - j)) (pk_sub (by omega)) ?_
        refine lv_goto (tgt := 47) hx hb dX2_viewKey_41 (by decide) ?_
        refine go_R (va_runV (As := [.int (nI (((vE k c lo li hi hn) - 1) - j))]) (rest := []) ⟨hx, hb, hml, hown, hts⟩ (c_X0_keyAt l D cy aE aK aV k v c (by omega) (nI (((vE k c lo li hi hn) - 1) - j))) (cwV 1 hts gX2_viewKey_X0_keyAt rfl rfl rfl (by decide +kernel) ⟨(Nat.le_of_ble_eq_true rfl), (Nat.le_of_ble_eq_true rfl)⟩) (preV_W hK (hP.sub [1, 2, 3] rfl) 0 0 rfl rfl) rfl rfl hl.1 rfl (lv_room (Nat.le_of_ble_eq_true rfl)) dX2_viewKey_47 ⟨(Nat.le_of_ble_eq_true rfl), (Nat.le_of_ble_eq_true rfl)⟩) ?_
        exact ret_l hx hb hr hlocks dX2_viewKey_50 (by first | (rw [hz]; done) | (rw [hz, nI_toInt (by omega)]; exact kW_yes (by omega) (by omega)))
    · have hz : vKy k (vB k c lo li) (vE k c lo li hi hn) fl x.toInt = NO := by rw [Int32.lt_iff_toInt_lt, nI_toInt (by omega)] at h18; unfold vKy; rw [if_neg (by omega)]
      refine lv_ldc2 hx hb hown kc_44 dX2_viewKey_21 ?_
      exact ret_l hx hb hr hlocks dX2_viewKey_24 (by first | (rw [hz]; done) | (rw [hz, nI_toInt (by omega)]; exact kW_yes (by omega) (by omega)))

set_option maxHeartbeats 4000000 in
set_option maxRecDepth 100000 in
/-- walk() -/
theorem c_X2_walk (l : Launch) (D : va_G) (cy : ClassId) (aD aE aK aV aW aR : Nat) (k v : Nat → Int32) (c : Nat) (hc : c ≤ 512) (lo : Int64) (li : Bool) (hi : Int64) (hn : Bool) (fl : Bool) : Met l yX2_walk wsX2_walk ({ frames := 3, cells := 0, slots := 0, locals := 63 } : Room) (pcW D [(cy, .int)] [.ref aD] [(aD, .inr (2, [.ref aE, .ref aW, .ref aR, .int (bI fl)])), (aE, .inr (0, [.ref aK, .ref aV, .int (nI c)])), (aK, .inl (cy, 512, .inl k)), (aV, .inl (cy, 512, .inl v)), (aR, .inr (1, [.long lo, .int (bI li), .long hi, .int (bI hn)]))]) (qR (.long (wsm k (wpl (vB k c lo li) (vE k c lo li hi hn) fl) ((vE k c lo li hi hn) - (vB k c lo li)) (vB k c lo li) 0))) 0 0 (fun _ => False) := by
  refine met_W (cc := cX2_walk) (maxL := 8) (ret := (some .long)) (by decide +kernel) rfl (Nat.le_of_ble_eq_true rfl) ?_
  intro pM eM s mM below meth cM ls hx hb hr hts hown hlocks hml hnm hK hP hl
  have hown : s.vm.findClass RX2 = some mM.cls := hown
  have hl : lv_has ls 8 [(0, .ref aD)] := hl
  have hin_X2 : ∀ w ∈ wsX20, w ∈ wsX2_walk := by decide +kernel
  have kf_12 := hts (.fieldLink RX2 12 "OrderedDesk" "entries" "LOrderedDesk$Entries;") (by decide +kernel)
  have kf_32 := hts (.fieldLink RX2 32 "OrderedDesk" "falling" "Z") (by decide +kernel)
  have hP : va_P D vwCl [(aD, .inr (2, [.ref aE, .ref aW, .ref aR, .int (bI fl)])), (aE, .inr (0, [.ref aK, .ref aV, .int (nI c)])), (aK, .inl (cy, 512, .inl k)), (aV, .inl (cy, 512, .inl v)), (aR, .inr (1, [.long lo, .int (bI li), .long hi, .int (bI hn)]))] s.heap := hP
  have q1 := vB_le k c lo li
  have q2 := vE_le k c lo li hi hn
  have q3 := vBE k c lo li hi hn
  refine lv_aload_n hx hb dX2_walk_0 rfl (lv_at hl 0 rfl) ?_
  refine go_R (va_runV (As := []) (rest := []) ⟨hx, hb, hml, hown, hts⟩ (c_X2_viewBegin l D cy aD aE aK aV aW aR k v c (by omega) lo li hi hn fl) (cwV 0 hts gX2_walk_X2_viewBegin rfl rfl rfl (by decide +kernel) ⟨(Nat.le_of_ble_eq_true rfl), (Nat.le_of_ble_eq_true rfl)⟩) (preV_W hK (hP.sub [0, 1, 2, 3, 4] rfl) 0 2 rfl rfl) rfl rfl hl.1 rfl (lv_room (Nat.le_of_ble_eq_true rfl)) dX2_walk_1 ⟨(Nat.le_of_ble_eq_true rfl), (Nat.le_of_ble_eq_true rfl)⟩) ?_
  refine lv_istore_n (lv' := [(1, .int (nI (vB k c lo li))), (0, .ref aD)]) hx hb dX2_walk_4 rfl hl (by decide) rfl (fun ls hl => ?_)
  refine lv_aload_n hx hb dX2_walk_5 rfl (lv_at hl 1 rfl) ?_
  refine go_R (va_runV (As := []) (rest := []) ⟨hx, hb, hml, hown, hts⟩ (c_X2_viewEnd l D cy aD aE aK aV aW aR k v c (by omega) lo li hi hn fl) (cwV 0 hts gX2_walk_X2_viewEnd rfl rfl rfl (by decide +kernel) ⟨(Nat.le_of_ble_eq_true rfl), (Nat.le_of_ble_eq_true rfl)⟩) (preV_W hK (hP.sub [0, 1, 2, 3, 4] rfl) 0 2 rfl rfl) rfl rfl hl.1 rfl (lv_room (Nat.le_of_ble_eq_true rfl)) dX2_walk_6 ⟨(Nat.le_of_ble_eq_true rfl), (Nat.le_of_ble_eq_true rfl)⟩) ?_
  refine lv_istore_n (lv' := [(2, .int (nI (vE k c lo li hi hn))), (1, .int (nI (vB k c lo li))), (0, .ref aD)]) hx hb dX2_walk_9 rfl hl (by decide) rfl (fun ls hl => ?_)
  refine lv_lconst (v := 0) hx hb dX2_walk_10 (by decide) ?_
  refine lv_lstore_n (lv' := [(3, .long 0), (2, .int (nI (vE k c lo li hi hn))), (1, .int (nI (vB k c lo li))), (0, .ref aD)]) hx hb dX2_walk_11 rfl hl (by decide) rfl (fun ls hl => ?_)
  refine lv_iload_n hx hb dX2_walk_12 rfl (lv_at hl 2 rfl) ?_
  refine lv_istore (lv' := [(5, .int (nI (vB k c lo li))), (3, .long 0), (2, .int (nI (vE k c lo li hi hn))), (1, .int (nI (vB k c lo li))), (0, .ref aD)]) hx hb dX2_walk_13 hl (by decide) rfl (fun ls hl => ?_)
  refine W_loopR (I := fun (i : Nat) (ls : Array Slot) => ∃ (a : Int64), lv_has ls 8 [(0, .ref aD), (1, .int (nI (vB k c lo li))), (2, .int (nI (vE k c lo li hi hn))), (3, .long a), (5, .int (nI i))] ∧ (vB k c lo li) ≤ i ∧ i ≤ (vE k c lo li hi hn) ∧ wsm k (wpl (vB k c lo li) (vE k c lo li hi hn) fl) ((vE k c lo li hi hn) - (vB k c lo li)) (vB k c lo li) 0 = wsm k (wpl (vB k c lo li) (vE k c lo li hi hn) fl) ((vE k c lo li hi hn) - i) i a) (μ := fun i => (vE k c lo li hi hn) - i) (fun i ls h ih => ?_) (vB k c lo li) ⟨0, lv_sub hl [4, 3, 2, 1, 0] rfl, Nat.le_refl _, q3, rfl⟩
  obtain ⟨a, hl, hi1, hi2, hv⟩ := h
  refine lv_iload hx hb dX2_walk_15 (lv_at hl 4 rfl) ?_
  refine lv_iload_n hx hb dX2_walk_17 rfl (lv_at hl 2 rfl) ?_
  refine n_ge (tgt := 66) (by omega) (by omega) hx hb dX2_walk_18 (by decide) (fun h18 => ?_) (fun h18 => ?_)
  · have hz : wsm k (wpl (vB k c lo li) (vE k c lo li hi hn) fl) ((vE k c lo li hi hn) - (vB k c lo li)) (vB k c lo li) 0 = a := by rw [hv, show (vE k c lo li hi hn) - i = 0 by omega]; rfl
    refine lv_lload_n hx hb dX2_walk_66 rfl (lv_at hl 3 rfl) ?_
    exact ret_l hx hb hr hlocks dX2_walk_67 (hz.symm)
  · refine lv_aload_n hx hb dX2_walk_21 rfl (lv_at hl 0 rfl) ?_
    refine va_get (ci := 2) (v := .int (bI fl)) (C := RX2) (T := TX2) (N := 4) hx hb hts hin_X2 hown hK hP 0 rfl rfl 3 (by decide) kf_32 (fun _ h9 => h9) rfl dX2_walk_22 ?_
    refine b_eq (tgt := 36) hx hb dX2_walk_25 (by decide) (fun h25 => ?_) (fun h25 => ?_)
    · have hpl : wpl (vB k c lo li) (vE k c lo li hi hn) fl i = (nI (i - (vB k c lo li) + 1)).toInt64 := if_neg (by rw [h25]; decide)
      refine lv_iload hx hb dX2_walk_36 (lv_at hl 4 rfl) ?_
      refine lv_iload_n hx hb dX2_walk_38 rfl (lv_at hl 1 rfl) ?_
      refine lv_isub hx hb dX2_walk_39 ?_
      refine top_i (y := nI (i - (vB k c lo li))) (pk_sub (by omega)) ?_
      refine lv_iconst (v := nI 1) hx hb dX2_walk_40 (by decide) ?_
      refine lv_iadd hx hb dX2_walk_41 ?_
      refine top_i (y := nI ((i - (vB k c lo li)) + 1)) (nI_add _ _) ?_
      refine lv_i2l hx hb dX2_walk_42 rfl ?_
      refine lv_lstore (lv' := [(6, .long ((nI ((i - (vB k c lo li)) + 1)).toInt64)), (0, .ref aD), (1, .int (nI (vB k c lo li))), (2, .int (nI (vE k c lo li hi hn))), (3, .long a), (5, .int (nI i))]) hx hb dX2_walk_43 hl (by decide) rfl (fun ls hl => ?_)
      refine lv_lload_n hx hb dX2_walk_45 rfl (lv_at hl 4 rfl) ?_
      refine lv_aload_n hx hb dX2_walk_46 rfl (lv_at hl 1 rfl) ?_
      refine va_get (ci := 2) (v := .ref aE) (C := RX2) (T := TX2) (N := 4) hx hb hts hin_X2 hown hK hP 0 rfl rfl 0 (by decide) kf_12 (fun _ h9 => h9) rfl dX2_walk_47 ?_
      refine lv_iload hx hb dX2_walk_50 (lv_at hl 5 rfl) ?_
      refine go_R (va_runV (As := [.int (nI i)]) (rest := [.long a]) ⟨hx, hb, hml, hown, hts⟩ (c_X0_keyAt l D cy aE aK aV k v c (by omega) (nI i)) (cwV 1 hts gX2_walk_X0_keyAt rfl rfl rfl (by decide +kernel) ⟨(Nat.le_of_ble_eq_true rfl), (Nat.le_of_ble_eq_true rfl)⟩) (preV_W hK (hP.sub [1, 2, 3] rfl) 0 0 rfl rfl) rfl rfl hl.1 rfl (lv_room (Nat.le_of_ble_eq_true rfl)) dX2_walk_52 ⟨(Nat.le_of_ble_eq_true rfl), (Nat.le_of_ble_eq_true rfl)⟩) ?_
      refine lv_lload hx hb dX2_walk_55 (lv_at hl 0 rfl) ?_
      refine lv_lmul hx hb dX2_walk_57 ?_
      refine lv_ladd hx hb dX2_walk_58 ?_
      refine lv_lstore_n (lv' := [(3, .long (a + ((kW k (nI i).toInt 0 c) * ((nI ((i - (vB k c lo li)) + 1)).toInt64)))), (6, .long ((nI ((i - (vB k c lo li)) + 1)).toInt64)), (0, .ref aD), (1, .int (nI (vB k c lo li))), (2, .int (nI (vE k c lo li hi hn))), (5, .int (nI i))]) hx hb dX2_walk_59 rfl hl (by decide) rfl (fun ls hl => ?_)
      refine lv_iinc (v := nI (i + 1)) (lv' := [(5, .int (nI (i + 1))), (3, .long (a + ((kW k (nI i).toInt 0 c) * ((nI ((i - (vB k c lo li)) + 1)).toInt64)))), (6, .long ((nI ((i - (vB k c lo li)) + 1)).toInt64)), (0, .ref aD), (1, .int (nI (vB k c lo li))), (2, .int (nI (vE k c lo li hi hn)))]) hx hb dX2_walk_60 hl (k := 5) rfl (by first | exact nI_1 _ | exact nI_add _ _) (by decide) rfl (fun ls hl => ?_)
      refine lv_goto (tgt := 15) hx hb dX2_walk_63 (by decide) ?_
      exact ih (i + 1) _ (by omega) ⟨_, lv_sub hl [3, 4, 5, 1, 0] rfl, by omega, by omega, by rw [hv, wsm_s h18]; congr 1; rw [nI_toInt (by omega), kW_yes (Nat.zero_le _) (by omega), hpl]⟩
    · have hpl : wpl (vB k c lo li) (vE k c lo li hi hn) fl i = (nI ((vE k c lo li hi hn) - i)).toInt64 := if_pos h25
      refine lv_iload_n hx hb dX2_walk_28 rfl (lv_at hl 2 rfl) ?_
      refine lv_iload hx hb dX2_walk_29 (lv_at hl 4 rfl) ?_
      refine lv_isub hx hb dX2_walk_31 ?_
      refine top_i (y := nI ((vE k c lo li hi hn) - i)) (pk_sub (by omega)) ?_
      refine lv_i2l hx hb dX2_walk_32 rfl ?_
      refine lv_goto (tgt := 43) hx hb dX2_walk_33 (by decide) ?_
      refine lv_lstore (lv' := [(6, .long ((nI ((vE k c lo li hi hn) - i)).toInt64)), (0, .ref aD), (1, .int (nI (vB k c lo li))), (2, .int (nI (vE k c lo li hi hn))), (3, .long a), (5, .int (nI i))]) hx hb dX2_walk_43 hl (by decide) rfl (fun ls hl => ?_)
      refine lv_lload_n hx hb dX2_walk_45 rfl (lv_at hl 4 rfl) ?_
      refine lv_aload_n hx hb dX2_walk_46 rfl (lv_at hl 1 rfl) ?_
      refine va_get (ci := 2) (v := .ref aE) (C := RX2) (T := TX2) (N := 4) hx hb hts hin_X2 hown hK hP 0 rfl rfl 0 (by decide) kf_12 (fun _ h9 => h9) rfl dX2_walk_47 ?_
      refine lv_iload hx hb dX2_walk_50 (lv_at hl 5 rfl) ?_
      refine go_R (va_runV (As := [.int (nI i)]) (rest := [.long a]) ⟨hx, hb, hml, hown, hts⟩ (c_X0_keyAt l D cy aE aK aV k v c (by omega) (nI i)) (cwV 1 hts gX2_walk_X0_keyAt rfl rfl rfl (by decide +kernel) ⟨(Nat.le_of_ble_eq_true rfl), (Nat.le_of_ble_eq_true rfl)⟩) (preV_W hK (hP.sub [1, 2, 3] rfl) 0 0 rfl rfl) rfl rfl hl.1 rfl (lv_room (Nat.le_of_ble_eq_true rfl)) dX2_walk_52 ⟨(Nat.le_of_ble_eq_true rfl), (Nat.le_of_ble_eq_true rfl)⟩) ?_
      refine lv_lload hx hb dX2_walk_55 (lv_at hl 0 rfl) ?_
      refine lv_lmul hx hb dX2_walk_57 ?_
      refine lv_ladd hx hb dX2_walk_58 ?_
      refine lv_lstore_n (lv' := [(3, .long (a + ((kW k (nI i).toInt 0 c) * ((nI ((vE k c lo li hi hn) - i)).toInt64)))), (6, .long ((nI ((vE k c lo li hi hn) - i)).toInt64)), (0, .ref aD), (1, .int (nI (vB k c lo li))), (2, .int (nI (vE k c lo li hi hn))), (5, .int (nI i))]) hx hb dX2_walk_59 rfl hl (by decide) rfl (fun ls hl => ?_)
      refine lv_iinc (v := nI (i + 1)) (lv' := [(5, .int (nI (i + 1))), (3, .long (a + ((kW k (nI i).toInt 0 c) * ((nI ((vE k c lo li hi hn) - i)).toInt64)))), (6, .long ((nI ((vE k c lo li hi hn) - i)).toInt64)), (0, .ref aD), (1, .int (nI (vB k c lo li))), (2, .int (nI (vE k c lo li hi hn)))]) hx hb dX2_walk_60 hl (k := 5) rfl (by first | exact nI_1 _ | exact nI_add _ _) (by decide) rfl (fun ls hl => ?_)
      refine lv_goto (tgt := 15) hx hb dX2_walk_63 (by decide) ?_
      exact ih (i + 1) _ (by omega) ⟨_, lv_sub hl [3, 4, 5, 1, 0] rfl, by omega, by omega, by rw [hv, wsm_s h18]; congr 1; rw [nI_toInt (by omega), kW_yes (Nat.zero_le _) (by omega), hpl]⟩

set_option maxHeartbeats 4000000 in
set_option maxRecDepth 100000 in
/-- put(key, value) -/
theorem c_X2_put (l : Launch) (D : va_G) (cy : ClassId) (aD aE aK aV aW aR : Nat) (k v : Nat → Int32) (c : Nat) (hc : c ≤ 512) (lo : Int64) (li : Bool) (hi : Int64) (hn : Bool) (fl : Bool) (nd : ([aD, aE, aK, aV] : List Nat).Nodup) (nr : ¬ aR ∈ ([aD, aE, aK, aV] : List Nat)) (sz : Nat) (hc2 : c < 512) (x y : Int32) : Met l yX2_put wsX2_put ({ frames := 2, cells := 0, slots := 0, locals := 49 } : Room) (pcZ D [(cy, .int)] [.ref aD, .int x, .int y] [(aD, .inr (2, [.ref aE, .ref aW, .ref aR, .int (bI fl)])), (aE, .inr (0, [.ref aK, .ref aV, .int (nI c)])), (aK, .inl (cy, 512, .inl k)), (aV, .inl (cy, 512, .inl v)), (aR, .inr (1, [.long lo, .int (bI li), .long hi, .int (bI hn)]))] sz) (qM (some (.long (vOf k v c x))) (fun H => va_P D vwCl (dW cy aD aE aK aV aW aR (stK k c x) (stV k v c x y) (stC k c x) lo li hi hn fl) H) (mA [aE, aK, aV] sz)) 0 0 (mA [aE, aK, aV] sz) := by
  refine met_Z (cc := cX2_put) (maxL := 3) (ret := (some .long)) (by decide +kernel) rfl (Nat.le_of_ble_eq_true rfl) ?_
  intro pM eM s mM below meth cM ls hx hb hr hts hown hlocks hml hnm hsz hK hP hl
  have hown : s.vm.findClass RX2 = some mM.cls := hown
  have hl : lv_has ls 3 [(0, .ref aD), (1, .int x), (2, .int y)] := hl
  have hin_X2 : ∀ w ∈ wsX20, w ∈ wsX2_put := by decide +kernel
  have kf_12 := hts (.fieldLink RX2 12 "OrderedDesk" "entries" "LOrderedDesk$Entries;") (by decide +kernel)
  have hP : va_P D vwCl [(aD, .inr (2, [.ref aE, .ref aW, .ref aR, .int (bI fl)])), (aE, .inr (0, [.ref aK, .ref aV, .int (nI c)])), (aK, .inl (cy, 512, .inl k)), (aV, .inl (cy, 512, .inl v)), (aR, .inr (1, [.long lo, .int (bI li), .long hi, .int (bI hn)]))] s.heap := hP
  subst hsz
  have hS : va_S (mA [aE, aK, aV] s.heap.size) s.heap s.heap [] := va_S.rf
  simp only [List.nodup_cons, List.mem_cons, List.not_mem_nil, or_false, not_or, not_false_eq_true, List.nodup_nil, and_true] at nd nr
  refine lv_aload_n hx hb dX2_put_0 rfl (lv_at hl 0 rfl) ?_
  refine va_get (ci := 2) (v := .ref aE) (C := RX2) (T := TX2) (N := 4) hx hb hts hin_X2 hown hK hP 0 rfl rfl 0 (by decide) kf_12 (fun _ h9 => h9) rfl dX2_put_1 ?_
  refine lv_iload_n hx hb dX2_put_4 rfl (lv_at hl 1 rfl) ?_
  refine lv_iload_n hx hb dX2_put_5 rfl (lv_at hl 2 rfl) ?_
  refine go_M (va_runV (As := [.int x, .int y]) (rest := []) ⟨hx, hb, hml, hown, hts⟩ (c_X0_store l D cy aE aK aV k v c (by omega) (by simp; omega) _ (by omega) x y) (cwV 2 hts gX2_put_X0_store rfl rfl rfl (by decide +kernel) ⟨(Nat.le_of_ble_eq_true rfl), (Nat.le_of_ble_eq_true rfl)⟩) (preV_Z hK (hP.sub [1, 2, 3] rfl) 0 0 rfl rfl) rfl rfl hl.1 rfl (lv_room (Nat.le_of_ble_eq_true rfl)) dX2_put_6 ⟨(Nat.le_of_ble_eq_true rfl), (Nat.le_of_ble_eq_true rfl)⟩) hS (fun q h => mA_sub [0, 1, 2] rfl hS.1 h) (fun H1 locs1 hB hzz hk hS => ?_)
  have hP : va_P D vwCl [(aD, .inr (2, [.ref aE, .ref aW, .ref aR, .int (bI fl)])), (aE, .inr (0, [.ref aK, .ref aV, .int (nI (stC k c x))])), (aK, .inl (cy, 512, .inl (stK k c x))), (aV, .inl (cy, 512, .inl (stV k v c x y))), (aR, .inr (1, [.long lo, .int (bI li), .long hi, .int (bI hn)]))] H1 := ((P_keepM (ws := [(aD, .inr (2, [.ref aE, .ref aW, .ref aR, .int (bI fl)])), (aR, .inr (1, [.long lo, .int (bI li), .long hi, .int (bI hn)]))]) (hP.sub [0, 4] rfl) (by intro q hq; simp only [List.map_cons, List.map_nil, List.mem_cons, List.not_mem_nil, or_false, not_or] at hq ⊢; omega) hk).app hB).sub [0, 2, 3, 4, 1] rfl
  clear hB
  generalize H1 = H at hP hS ⊢
  generalize locs1 = locs at hS ⊢
  exact ret_lM hx hb hr hlocks dX2_put_9 hS (rfl) (hP)

set_option maxHeartbeats 4000000 in
set_option maxRecDepth 100000 in
/-- add(key, value) -/
theorem c_X2_add (l : Launch) (D : va_G) (cy : ClassId) (aD aE aK aV aW aR : Nat) (k v : Nat → Int32) (c : Nat) (hc : c ≤ 512) (lo : Int64) (li : Bool) (hi : Int64) (hn : Bool) (fl : Bool) (nd : ([aD, aE, aK, aV] : List Nat).Nodup) (nr : ¬ aR ∈ ([aD, aE, aK, aV] : List Nat)) (sz : Nat) (hc2 : c < 512) (x y : Int32) : Met l yX2_add wsX2_add ({ frames := 2, cells := 0, slots := 0, locals := 49 } : Room) (pcZ D [(cy, .int)] [.ref aD, .int x, .int y] [(aD, .inr (2, [.ref aE, .ref aW, .ref aR, .int (bI fl)])), (aE, .inr (0, [.ref aK, .ref aV, .int (nI c)])), (aK, .inl (cy, 512, .inl k)), (aV, .inl (cy, 512, .inl v)), (aR, .inr (1, [.long lo, .int (bI li), .long hi, .int (bI hn)]))] sz) (qM (some (.long (vOf k v c x))) (fun H => va_P D vwCl (dW cy aD aE aK aV aW aR ((adT k v c x y).2.1) ((adT k v c x y).2.2) ((adT k v c x y).1) lo li hi hn fl) H) (mA [aE, aK, aV] sz)) 0 0 (mA [aE, aK, aV] sz) := by
  refine met_Z (cc := cX2_add) (maxL := 5) (ret := (some .long)) (by decide +kernel) rfl (Nat.le_of_ble_eq_true rfl) ?_
  intro pM eM s mM below meth cM ls hx hb hr hts hown hlocks hml hnm hsz hK hP hl
  have hown : s.vm.findClass RX2 = some mM.cls := hown
  have hl : lv_has ls 5 [(0, .ref aD), (1, .int x), (2, .int y)] := hl
  have hin_X2 : ∀ w ∈ wsX20, w ∈ wsX2_add := by decide +kernel
  have kf_12 := hts (.fieldLink RX2 12 "OrderedDesk" "entries" "LOrderedDesk$Entries;") (by decide +kernel)
  have kc_44 := hts (.constantLong RX2 44 (1099511627776)) (by decide +kernel)
  have hP : va_P D vwCl [(aD, .inr (2, [.ref aE, .ref aW, .ref aR, .int (bI fl)])), (aE, .inr (0, [.ref aK, .ref aV, .int (nI c)])), (aK, .inl (cy, 512, .inl k)), (aV, .inl (cy, 512, .inl v)), (aR, .inr (1, [.long lo, .int (bI li), .long hi, .int (bI hn)]))] s.heap := hP
  subst hsz
  have hS : va_S (mA [aE, aK, aV] s.heap.size) s.heap s.heap [] := va_S.rf
  simp only [List.nodup_cons, List.mem_cons, List.not_mem_nil, or_false, not_or, not_false_eq_true, List.nodup_nil, and_true] at nd nr
  refine lv_aload_n hx hb dX2_add_0 rfl (lv_at hl 0 rfl) ?_
  refine va_get (ci := 2) (v := .ref aE) (C := RX2) (T := TX2) (N := 4) hx hb hts hin_X2 hown hK hP 0 rfl rfl 0 (by decide) kf_12 (fun _ h9 => h9) rfl dX2_add_1 ?_
  refine lv_iload_n hx hb dX2_add_4 rfl (lv_at hl 1 rfl) ?_
  refine go_R (va_runV (As := [.int x]) (rest := []) ⟨hx, hb, hml, hown, hts⟩ (c_X0_valueOf l D cy aE aK aV k v c (by omega) x) (cwV 1 hts gX2_add_X0_valueOf rfl rfl rfl (by decide +kernel) ⟨(Nat.le_of_ble_eq_true rfl), (Nat.le_of_ble_eq_true rfl)⟩) (preV_W hK (hP.sub [1, 2, 3] rfl) 0 0 rfl rfl) rfl rfl hl.1 rfl (lv_room (Nat.le_of_ble_eq_true rfl)) dX2_add_5 ⟨(Nat.le_of_ble_eq_true rfl), (Nat.le_of_ble_eq_true rfl)⟩) ?_
  refine lv_lstore_n (lv' := [(3, .long (vOf k v c x)), (0, .ref aD), (1, .int x), (2, .int y)]) hx hb dX2_add_8 rfl hl (by decide) rfl (fun ls hl => ?_)
  refine lv_lload_n hx hb dX2_add_9 rfl (lv_at hl 0 rfl) ?_
  refine lv_ldc2 hx hb hown kc_44 dX2_add_10 ?_
  refine l_ne (tgt := 29) hx hb dX2_add_13 dX2_add_14 (by decide) (fun h13 => ?_) (fun h13 => ?_)
  · have e1 : adT k v c x y = (c, k, v) := if_neg h13
    refine lv_lload_n hx hb dX2_add_29 rfl (lv_at hl 0 rfl) ?_
    exact ret_lM hx hb hr hlocks dX2_add_30 hS (rfl) (by rw [e1]; exact hP)
  · have e1 : adT k v c x y = (stC k c x, stK k c x, stV k v c x y) := if_pos h13
    refine lv_aload_n hx hb dX2_add_17 rfl (lv_at hl 1 rfl) ?_
    refine va_get (ci := 2) (v := .ref aE) (C := RX2) (T := TX2) (N := 4) hx hb hts hin_X2 hown hK hP 0 rfl rfl 0 (by decide) kf_12 (fun _ h9 => h9) rfl dX2_add_18 ?_
    refine lv_iload_n hx hb dX2_add_21 rfl (lv_at hl 2 rfl) ?_
    refine lv_iload_n hx hb dX2_add_22 rfl (lv_at hl 3 rfl) ?_
    refine go_M (va_runV (As := [.int x, .int y]) (rest := []) ⟨hx, hb, hml, hown, hts⟩ (c_X0_store l D cy aE aK aV k v c (by omega) (by simp; omega) _ (by omega) x y) (cwV 2 hts gX2_add_X0_store rfl rfl rfl (by decide +kernel) ⟨(Nat.le_of_ble_eq_true rfl), (Nat.le_of_ble_eq_true rfl)⟩) (preV_Z hK (hP.sub [1, 2, 3] rfl) 0 0 rfl rfl) rfl rfl hl.1 rfl (lv_room (Nat.le_of_ble_eq_true rfl)) dX2_add_23 ⟨(Nat.le_of_ble_eq_true rfl), (Nat.le_of_ble_eq_true rfl)⟩) hS (fun q h => mA_sub [0, 1, 2] rfl hS.1 h) (fun H1 locs1 hB hzz hk hS => ?_)
    have hP : va_P D vwCl [(aD, .inr (2, [.ref aE, .ref aW, .ref aR, .int (bI fl)])), (aE, .inr (0, [.ref aK, .ref aV, .int (nI (stC k c x))])), (aK, .inl (cy, 512, .inl (stK k c x))), (aV, .inl (cy, 512, .inl (stV k v c x y))), (aR, .inr (1, [.long lo, .int (bI li), .long hi, .int (bI hn)]))] H1 := ((P_keepM (ws := [(aD, .inr (2, [.ref aE, .ref aW, .ref aR, .int (bI fl)])), (aR, .inr (1, [.long lo, .int (bI li), .long hi, .int (bI hn)]))]) (hP.sub [0, 4] rfl) (by intro q hq; simp only [List.map_cons, List.map_nil, List.mem_cons, List.not_mem_nil, or_false, not_or] at hq ⊢; omega) hk).app hB).sub [0, 2, 3, 4, 1] rfl
    clear hB
    generalize H1 = H at hP hS ⊢
    generalize locs1 = locs at hS ⊢
    refine lv_goto (tgt := 30) hx hb dX2_add_26 (by decide) ?_
    exact ret_lM hx hb hr hlocks dX2_add_30 hS (rfl) (by rw [e1]; exact hP)

set_option maxHeartbeats 4000000 in
set_option maxRecDepth 100000 in
/-- remove(key) -/
theorem c_X2_remove (l : Launch) (D : va_G) (cy : ClassId) (aD aE aK aV aW aR : Nat) (k v : Nat → Int32) (c : Nat) (hc : c ≤ 512) (lo : Int64) (li : Bool) (hi : Int64) (hn : Bool) (fl : Bool) (nd : ([aD, aE, aK, aV] : List Nat).Nodup) (nr : ¬ aR ∈ ([aD, aE, aK, aV] : List Nat)) (sz : Nat) (x : Int32) : Met l yX2_remove wsX2_remove ({ frames := 4, cells := 0, slots := 0, locals := 95 } : Room) (pcZ D [(cy, .int)] [.ref aD, .int x] [(aD, .inr (2, [.ref aE, .ref aW, .ref aR, .int (bI fl)])), (aE, .inr (0, [.ref aK, .ref aV, .int (nI c)])), (aK, .inl (cy, 512, .inl k)), (aV, .inl (cy, 512, .inl v)), (aR, .inr (1, [.long lo, .int (bI li), .long hi, .int (bI hn)]))] sz) (qM (some (.long (vOf k v c x))) (fun H => va_P D vwCl (dW cy aD aE aK aV aW aR ((drp k v c x).2.1) ((drp k v c x).2.2) ((drp k v c x).1) lo li hi hn fl) H) (mA [aE, aK, aV] sz)) 0 0 (mA [aE, aK, aV] sz) := by
  refine met_Z (cc := cX2_remove) (maxL := 2) (ret := (some .long)) (by decide +kernel) rfl (Nat.le_of_ble_eq_true rfl) ?_
  intro pM eM s mM below meth cM ls hx hb hr hts hown hlocks hml hnm hsz hK hP hl
  have hown : s.vm.findClass RX2 = some mM.cls := hown
  have hl : lv_has ls 2 [(0, .ref aD), (1, .int x)] := hl
  have hin_X2 : ∀ w ∈ wsX20, w ∈ wsX2_remove := by decide +kernel
  have kf_12 := hts (.fieldLink RX2 12 "OrderedDesk" "entries" "LOrderedDesk$Entries;") (by decide +kernel)
  have hP : va_P D vwCl [(aD, .inr (2, [.ref aE, .ref aW, .ref aR, .int (bI fl)])), (aE, .inr (0, [.ref aK, .ref aV, .int (nI c)])), (aK, .inl (cy, 512, .inl k)), (aV, .inl (cy, 512, .inl v)), (aR, .inr (1, [.long lo, .int (bI li), .long hi, .int (bI hn)]))] s.heap := hP
  subst hsz
  have hS : va_S (mA [aE, aK, aV] s.heap.size) s.heap s.heap [] := va_S.rf
  simp only [List.nodup_cons, List.mem_cons, List.not_mem_nil, or_false, not_or, not_false_eq_true, List.nodup_nil, and_true] at nd nr
  refine lv_aload_n hx hb dX2_remove_0 rfl (lv_at hl 0 rfl) ?_
  refine va_get (ci := 2) (v := .ref aE) (C := RX2) (T := TX2) (N := 4) hx hb hts hin_X2 hown hK hP 0 rfl rfl 0 (by decide) kf_12 (fun _ h9 => h9) rfl dX2_remove_1 ?_
  refine lv_iload_n hx hb dX2_remove_4 rfl (lv_at hl 1 rfl) ?_
  refine go_M (va_runV (As := [.int x]) (rest := []) ⟨hx, hb, hml, hown, hts⟩ (c_X0_drop l D cy aE aK aV k v c (by omega) (by simp; omega) _ x) (cwV 1 hts gX2_remove_X0_drop rfl rfl rfl (by decide +kernel) ⟨(Nat.le_of_ble_eq_true rfl), (Nat.le_of_ble_eq_true rfl)⟩) (preV_Z hK (hP.sub [1, 2, 3] rfl) 0 0 rfl rfl) rfl rfl hl.1 rfl (lv_room (Nat.le_of_ble_eq_true rfl)) dX2_remove_5 ⟨(Nat.le_of_ble_eq_true rfl), (Nat.le_of_ble_eq_true rfl)⟩) hS (fun q h => mA_sub [0, 1, 2] rfl hS.1 h) (fun H1 locs1 hB hzz hk hS => ?_)
  have hP : va_P D vwCl [(aD, .inr (2, [.ref aE, .ref aW, .ref aR, .int (bI fl)])), (aE, .inr (0, [.ref aK, .ref aV, .int (nI ((drp k v c x).1))])), (aK, .inl (cy, 512, .inl ((drp k v c x).2.1))), (aV, .inl (cy, 512, .inl ((drp k v c x).2.2))), (aR, .inr (1, [.long lo, .int (bI li), .long hi, .int (bI hn)]))] H1 := ((P_keepM (ws := [(aD, .inr (2, [.ref aE, .ref aW, .ref aR, .int (bI fl)])), (aR, .inr (1, [.long lo, .int (bI li), .long hi, .int (bI hn)]))]) (hP.sub [0, 4] rfl) (by intro q hq; simp only [List.map_cons, List.map_nil, List.mem_cons, List.not_mem_nil, or_false, not_or] at hq ⊢; omega) hk).app hB).sub [0, 2, 3, 4, 1] rfl
  clear hB
  generalize H1 = H at hP hS ⊢
  generalize locs1 = locs at hS ⊢
  exact ret_lM hx hb hr hlocks dX2_remove_8 hS (rfl) (hP)

set_option maxHeartbeats 4000000 in
set_option maxRecDepth 100000 in
/-- clear() -/
theorem c_X2_clear (l : Launch) (D : va_G) (cy : ClassId) (aD aE aK aV aW aR : Nat) (k v : Nat → Int32) (c : Nat) (hc : c ≤ 512) (lo : Int64) (li : Bool) (hi : Int64) (hn : Bool) (fl : Bool) (nd : ([aD, aE, aK, aV] : List Nat).Nodup) (nr : ¬ aR ∈ ([aD, aE, aK, aV] : List Nat)) (sz : Nat) : Met l yX2_clear wsX2_clear ({ frames := 3, cells := 0, slots := 0, locals := 71 } : Room) (pcZ D [(cy, .int)] [.ref aD] [(aD, .inr (2, [.ref aE, .ref aW, .ref aR, .int (bI fl)])), (aE, .inr (0, [.ref aK, .ref aV, .int (nI c)])), (aK, .inl (cy, 512, .inl k)), (aV, .inl (cy, 512, .inl v)), (aR, .inr (1, [.long lo, .int (bI li), .long hi, .int (bI hn)]))] sz) (qM (some (.int (nI (c - (dlK 1 0 0 c c k v).1)))) (fun H => va_P D vwCl (dW cy aD aE aK aV aW aR ((dlK 1 0 0 c c k v).2.1) ((dlK 1 0 0 c c k v).2.2) ((dlK 1 0 0 c c k v).1) lo li hi hn fl) H) (mA [aE, aK, aV] sz)) 0 0 (mA [aE, aK, aV] sz) := by
  refine met_Z (cc := cX2_clear) (maxL := 1) (ret := (some .int)) (by decide +kernel) rfl (Nat.le_of_ble_eq_true rfl) ?_
  intro pM eM s mM below meth cM ls hx hb hr hts hown hlocks hml hnm hsz hK hP hl
  have hown : s.vm.findClass RX2 = some mM.cls := hown
  have hl : lv_has ls 1 [(0, .ref aD)] := hl
  have hin_X2 : ∀ w ∈ wsX20, w ∈ wsX2_clear := by decide +kernel
  have kf_12 := hts (.fieldLink RX2 12 "OrderedDesk" "entries" "LOrderedDesk$Entries;") (by decide +kernel)
  have hP : va_P D vwCl [(aD, .inr (2, [.ref aE, .ref aW, .ref aR, .int (bI fl)])), (aE, .inr (0, [.ref aK, .ref aV, .int (nI c)])), (aK, .inl (cy, 512, .inl k)), (aV, .inl (cy, 512, .inl v)), (aR, .inr (1, [.long lo, .int (bI li), .long hi, .int (bI hn)]))] s.heap := hP
  subst hsz
  have hS : va_S (mA [aE, aK, aV] s.heap.size) s.heap s.heap [] := va_S.rf
  simp only [List.nodup_cons, List.mem_cons, List.not_mem_nil, or_false, not_or, not_false_eq_true, List.nodup_nil, and_true] at nd nr
  refine lv_aload_n hx hb dX2_clear_0 rfl (lv_at hl 0 rfl) ?_
  refine va_get (ci := 2) (v := .ref aE) (C := RX2) (T := TX2) (N := 4) hx hb hts hin_X2 hown hK hP 0 rfl rfl 0 (by decide) kf_12 (fun _ h9 => h9) rfl dX2_clear_1 ?_
  refine lv_iconst (v := nI 0) hx hb dX2_clear_4 (by decide) ?_
  refine lv_aload_n hx hb dX2_clear_5 rfl (lv_at hl 0 rfl) ?_
  refine va_get (ci := 2) (v := .ref aE) (C := RX2) (T := TX2) (N := 4) hx hb hts hin_X2 hown hK hP 0 rfl rfl 0 (by decide) kf_12 (fun _ h9 => h9) rfl dX2_clear_6 ?_
  refine go_R (va_runV (As := []) (rest := [.int (nI 0), .ref aE]) ⟨hx, hb, hml, hown, hts⟩ (c_X0_count l D cy aE aK aV k v c (by omega)) (cwV 0 hts gX2_clear_X0_count rfl rfl rfl (by decide +kernel) ⟨(Nat.le_of_ble_eq_true rfl), (Nat.le_of_ble_eq_true rfl)⟩) (preV_W hK (hP.sub [1, 2, 3] rfl) 0 0 rfl rfl) rfl rfl hl.1 rfl (lv_room (Nat.le_of_ble_eq_true rfl)) dX2_clear_9 ⟨(Nat.le_of_ble_eq_true rfl), (Nat.le_of_ble_eq_true rfl)⟩) ?_
  refine go_M (va_runV (As := [.int (nI 0), .int (nI c)]) (rest := []) ⟨hx, hb, hml, hown, hts⟩ (c_X0_dropPlaces l D cy aE aK aV k v c (by omega) (by simp; omega) _ 0 c (by omega) (by omega)) (cwV 2 hts gX2_clear_X0_dropPlaces rfl rfl rfl (by decide +kernel) ⟨(Nat.le_of_ble_eq_true rfl), (Nat.le_of_ble_eq_true rfl)⟩) (preV_Z hK (hP.sub [1, 2, 3] rfl) 0 0 rfl rfl) rfl rfl hl.1 rfl (lv_room (Nat.le_of_ble_eq_true rfl)) dX2_clear_12 ⟨(Nat.le_of_ble_eq_true rfl), (Nat.le_of_ble_eq_true rfl)⟩) hS (fun q h => mA_sub [0, 1, 2] rfl hS.1 h) (fun H1 locs1 hB hzz hk hS => ?_)
  have hP : va_P D vwCl [(aD, .inr (2, [.ref aE, .ref aW, .ref aR, .int (bI fl)])), (aE, .inr (0, [.ref aK, .ref aV, .int (nI ((dlK 1 0 0 c c k v).1))])), (aK, .inl (cy, 512, .inl ((dlK 1 0 0 c c k v).2.1))), (aV, .inl (cy, 512, .inl ((dlK 1 0 0 c c k v).2.2))), (aR, .inr (1, [.long lo, .int (bI li), .long hi, .int (bI hn)]))] H1 := ((P_keepM (ws := [(aD, .inr (2, [.ref aE, .ref aW, .ref aR, .int (bI fl)])), (aR, .inr (1, [.long lo, .int (bI li), .long hi, .int (bI hn)]))]) (hP.sub [0, 4] rfl) (by intro q hq; simp only [List.map_cons, List.map_nil, List.mem_cons, List.not_mem_nil, or_false, not_or] at hq ⊢; omega) hk).app hB).sub [0, 2, 3, 4, 1] rfl
  clear hB
  generalize H1 = H at hP hS ⊢
  generalize locs1 = locs at hS ⊢
  exact ret_iM hx hb hr hlocks dX2_clear_15 hS (rfl) (hP)

set_option maxHeartbeats 4000000 in
set_option maxRecDepth 100000 in
/-- pollWithin(greatest, begin, end) -/
theorem c_X2_pollWithin (l : Launch) (D : va_G) (cy : ClassId) (aD aE aK aV aW aR : Nat) (k v : Nat → Int32) (c : Nat) (hc : c ≤ 512) (lo : Int64) (li : Bool) (hi : Int64) (hn : Bool) (fl : Bool) (nd : ([aD, aE, aK, aV] : List Nat).Nodup) (nr : ¬ aR ∈ ([aD, aE, aK, aV] : List Nat)) (sz : Nat) (g : Bool) (b f : Nat) (hb2 : b ≤ 512) (hf2 : f ≤ c) : Met l yX2_pollWithin wsX2_pollWithin ({ frames := 3, cells := 0, slots := 0, locals := 71 } : Room) (pcZ D [(cy, .int)] [.ref aD, .int (bI g), .int (nI b), .int (nI f)] [(aD, .inr (2, [.ref aE, .ref aW, .ref aR, .int (bI fl)])), (aE, .inr (0, [.ref aK, .ref aV, .int (nI c)])), (aK, .inl (cy, 512, .inl k)), (aV, .inl (cy, 512, .inl v)), (aR, .inr (1, [.long lo, .int (bI li), .long hi, .int (bI hn)]))] sz) (qM (some (.long (kW k (pj g b f) b f))) (fun H => va_P D vwCl (dW cy aD aE aK aV aW aR ((plP k v c g b f).2.1) ((plP k v c g b f).2.2) ((plP k v c g b f).1) lo li hi hn fl) H) (mA [aE, aK, aV] sz)) 0 0 (mA [aE, aK, aV] sz) := by
  refine met_Z (cc := cX2_pollWithin) (maxL := 7) (ret := (some .long)) (by decide +kernel) rfl (Nat.le_of_ble_eq_true rfl) ?_
  intro pM eM s mM below meth cM ls hx hb hr hts hown hlocks hml hnm hsz hK hP hl
  have hown : s.vm.findClass RX2 = some mM.cls := hown
  have hl : lv_has ls 7 [(0, .ref aD), (1, .int (bI g)), (2, .int (nI b)), (3, .int (nI f))] := hl
  have hin_X2 : ∀ w ∈ wsX20, w ∈ wsX2_pollWithin := by decide +kernel
  have kf_12 := hts (.fieldLink RX2 12 "OrderedDesk" "entries" "LOrderedDesk$Entries;") (by decide +kernel)
  have kc_44 := hts (.constantLong RX2 44 (1099511627776)) (by decide +kernel)
  have hP : va_P D vwCl [(aD, .inr (2, [.ref aE, .ref aW, .ref aR, .int (bI fl)])), (aE, .inr (0, [.ref aK, .ref aV, .int (nI c)])), (aK, .inl (cy, 512, .inl k)), (aV, .inl (cy, 512, .inl v)), (aR, .inr (1, [.long lo, .int (bI li), .long hi, .int (bI hn)]))] s.heap := hP
  subst hsz
  have hS : va_S (mA [aE, aK, aV] s.heap.size) s.heap s.heap [] := va_S.rf
  simp only [List.nodup_cons, List.mem_cons, List.not_mem_nil, or_false, not_or, not_false_eq_true, List.nodup_nil, and_true] at nd nr
  refine lv_iload_n hx hb dX2_pollWithin_0 rfl (lv_at hl 1 rfl) ?_
  refine b_eq (tgt := 10) hx hb dX2_pollWithin_1 (by decide) (fun h1 => ?_) (fun h1 => ?_)
  · refine lv_iload_n hx hb dX2_pollWithin_10 rfl (lv_at hl 2 rfl) ?_
    refine lv_istore (lv' := [(4, .int (nI b)), (0, .ref aD), (1, .int (bI g)), (2, .int (nI b)), (3, .int (nI f))]) hx hb dX2_pollWithin_11 hl (by decide) rfl (fun ls hl => ?_)
    obtain ⟨x, ex⟩ : ∃ x : Int32, x = nI b := ⟨_, rfl⟩
    have hx2 : x.toInt = pj g b f := by rw [ex, nI_toInt (by omega)]; exact (if_neg (by rw [h1]; decide)).symm
    have hl : lv_has ls 7 [(4, .int x), (0, .ref aD), (1, .int (bI g)), (2, .int (nI b)), (3, .int (nI f))] := by rw [ex]; exact hl
    refine lv_aload_n hx hb dX2_pollWithin_13 rfl (lv_at hl 1 rfl) ?_
    refine lv_iload hx hb dX2_pollWithin_14 (lv_at hl 0 rfl) ?_
    refine lv_iload_n hx hb dX2_pollWithin_16 rfl (lv_at hl 3 rfl) ?_
    refine lv_iload_n hx hb dX2_pollWithin_17 rfl (lv_at hl 4 rfl) ?_
    refine go_R (va_runV (As := [.int x, .int (nI b), .int (nI f)]) (rest := []) ⟨hx, hb, hml, hown, hts⟩ (c_X2_keyWithin l D cy aD aE aK aV aW aR k v c (by omega) lo li hi hn fl x b f (by omega) (by omega)) (cwV 3 hts gX2_pollWithin_X2_keyWithin rfl rfl rfl (by decide +kernel) ⟨(Nat.le_of_ble_eq_true rfl), (Nat.le_of_ble_eq_true rfl)⟩) (preV_W hK (hP.sub [0, 1, 2, 3, 4] rfl) 0 2 rfl rfl) rfl rfl hl.1 rfl (lv_room (Nat.le_of_ble_eq_true rfl)) dX2_pollWithin_18 ⟨(Nat.le_of_ble_eq_true rfl), (Nat.le_of_ble_eq_true rfl)⟩) ?_
    refine lv_lstore (lv' := [(5, .long (kW k x.toInt b f)), (4, .int x), (0, .ref aD), (1, .int (bI g)), (2, .int (nI b)), (3, .int (nI f))]) hx hb dX2_pollWithin_21 hl (by decide) rfl (fun ls hl => ?_)
    refine lv_lload hx hb dX2_pollWithin_23 (lv_at hl 0 rfl) ?_
    refine lv_ldc2 hx hb hown kc_44 dX2_pollWithin_25 ?_
    refine l_eq (tgt := 46) hx hb dX2_pollWithin_28 dX2_pollWithin_29 (by decide) (fun h28 => ?_) (fun h28 => ?_)
    · rw [hx2] at h28
      have hz : kW k x.toInt b f = kW k (pj g b f) b f := by rw [hx2]
      have e1 : plP k v c g b f = (c, k, v) := if_pos h28
      refine lv_lload hx hb dX2_pollWithin_46 (lv_at hl 0 rfl) ?_
      exact ret_lM hx hb hr hlocks dX2_pollWithin_48 hS (hz) (by rw [e1]; exact hP)
    · have hin := kW_in h28
      have hz : kW k x.toInt b f = kW k (pj g b f) b f := by rw [hx2]
      obtain ⟨j, hj⟩ : ∃ j : Nat, x.toInt = (j : Int) := ⟨x.toInt.toNat, by omega⟩
      have hjx : x = nI j := I32_of hj (by omega)
      have e1 : plP k v c g b f = dlK 1 0 j (j + 1) c k v := by rw [hx2] at h28; unfold plP; rw [if_neg h28, ← hx2, hj, Int.toNat_natCast]
      rw [hjx] at hl hz
      refine lv_aload_n hx hb dX2_pollWithin_32 rfl (lv_at hl 2 rfl) ?_
      refine va_get (ci := 2) (v := .ref aE) (C := RX2) (T := TX2) (N := 4) hx hb hts hin_X2 hown hK hP 0 rfl rfl 0 (by decide) kf_12 (fun _ h9 => h9) rfl dX2_pollWithin_33 ?_
      refine lv_iload hx hb dX2_pollWithin_36 (lv_at hl 1 rfl) ?_
      refine lv_iload hx hb dX2_pollWithin_38 (lv_at hl 1 rfl) ?_
      refine lv_iconst (v := nI 1) hx hb dX2_pollWithin_40 (by decide) ?_
      refine lv_iadd hx hb dX2_pollWithin_41 ?_
      refine top_i (y := nI (j + 1)) (nI_add _ _) ?_
      refine go_M (va_runV (As := [.int (nI j), .int (nI (j + 1))]) (rest := []) ⟨hx, hb, hml, hown, hts⟩ (c_X0_dropPlaces l D cy aE aK aV k v c (by omega) (by simp; omega) _ j (j + 1) (by omega) (by omega)) (cwV 2 hts gX2_pollWithin_X0_dropPlaces rfl rfl rfl (by decide +kernel) ⟨(Nat.le_of_ble_eq_true rfl), (Nat.le_of_ble_eq_true rfl)⟩) (preV_Z hK (hP.sub [1, 2, 3] rfl) 0 0 rfl rfl) rfl rfl hl.1 rfl (lv_room (Nat.le_of_ble_eq_true rfl)) dX2_pollWithin_42 ⟨(Nat.le_of_ble_eq_true rfl), (Nat.le_of_ble_eq_true rfl)⟩) hS (fun q h => mA_sub [0, 1, 2] rfl hS.1 h) (fun H1 locs1 hB hzz hk hS => ?_)
      have hP : va_P D vwCl [(aD, .inr (2, [.ref aE, .ref aW, .ref aR, .int (bI fl)])), (aE, .inr (0, [.ref aK, .ref aV, .int (nI ((dlK 1 0 j (j + 1) c k v).1))])), (aK, .inl (cy, 512, .inl ((dlK 1 0 j (j + 1) c k v).2.1))), (aV, .inl (cy, 512, .inl ((dlK 1 0 j (j + 1) c k v).2.2))), (aR, .inr (1, [.long lo, .int (bI li), .long hi, .int (bI hn)]))] H1 := ((P_keepM (ws := [(aD, .inr (2, [.ref aE, .ref aW, .ref aR, .int (bI fl)])), (aR, .inr (1, [.long lo, .int (bI li), .long hi, .int (bI hn)]))]) (hP.sub [0, 4] rfl) (by intro q hq; simp only [List.map_cons, List.map_nil, List.mem_cons, List.not_mem_nil, or_false, not_or] at hq ⊢; omega) hk).app hB).sub [0, 2, 3, 4, 1] rfl
      clear hB
      generalize H1 = H at hP hS ⊢
      generalize locs1 = locs at hS ⊢
      refine lv_pop hx hb dX2_pollWithin_45 rfl ?_
      refine lv_lload hx hb dX2_pollWithin_46 (lv_at hl 0 rfl) ?_
      exact ret_lM hx hb hr hlocks dX2_pollWithin_48 hS (hz) (by rw [e1]; exact hP)
  · refine lv_iload_n hx hb dX2_pollWithin_4 rfl (lv_at hl 3 rfl) ?_
    refine lv_iconst (v := 1) hx hb dX2_pollWithin_5 (by decide) ?_
    refine lv_isub hx hb dX2_pollWithin_6 ?_
    refine lv_goto (tgt := 11) hx hb dX2_pollWithin_7 (by decide) ?_
    refine lv_istore (lv' := [(4, .int ((nI f) - 1)), (0, .ref aD), (1, .int (bI g)), (2, .int (nI b)), (3, .int (nI f))]) hx hb dX2_pollWithin_11 hl (by decide) rfl (fun ls hl => ?_)
    obtain ⟨x, ex⟩ : ∃ x : Int32, x = (nI f) - 1 := ⟨_, rfl⟩
    have hx2 : x.toInt = pj g b f := by rw [ex, nI_m1I (by omega)]; exact (if_pos h1).symm
    have hl : lv_has ls 7 [(4, .int x), (0, .ref aD), (1, .int (bI g)), (2, .int (nI b)), (3, .int (nI f))] := by rw [ex]; exact hl
    refine lv_aload_n hx hb dX2_pollWithin_13 rfl (lv_at hl 1 rfl) ?_
    refine lv_iload hx hb dX2_pollWithin_14 (lv_at hl 0 rfl) ?_
    refine lv_iload_n hx hb dX2_pollWithin_16 rfl (lv_at hl 3 rfl) ?_
    refine lv_iload_n hx hb dX2_pollWithin_17 rfl (lv_at hl 4 rfl) ?_
    refine go_R (va_runV (As := [.int x, .int (nI b), .int (nI f)]) (rest := []) ⟨hx, hb, hml, hown, hts⟩ (c_X2_keyWithin l D cy aD aE aK aV aW aR k v c (by omega) lo li hi hn fl x b f (by omega) (by omega)) (cwV 3 hts gX2_pollWithin_X2_keyWithin rfl rfl rfl (by decide +kernel) ⟨(Nat.le_of_ble_eq_true rfl), (Nat.le_of_ble_eq_true rfl)⟩) (preV_W hK (hP.sub [0, 1, 2, 3, 4] rfl) 0 2 rfl rfl) rfl rfl hl.1 rfl (lv_room (Nat.le_of_ble_eq_true rfl)) dX2_pollWithin_18 ⟨(Nat.le_of_ble_eq_true rfl), (Nat.le_of_ble_eq_true rfl)⟩) ?_
    refine lv_lstore (lv' := [(5, .long (kW k x.toInt b f)), (4, .int x), (0, .ref aD), (1, .int (bI g)), (2, .int (nI b)), (3, .int (nI f))]) hx hb dX2_pollWithin_21 hl (by decide) rfl (fun ls hl => ?_)
    refine lv_lload hx hb dX2_pollWithin_23 (lv_at hl 0 rfl) ?_
    refine lv_ldc2 hx hb hown kc_44 dX2_pollWithin_25 ?_
    refine l_eq (tgt := 46) hx hb dX2_pollWithin_28 dX2_pollWithin_29 (by decide) (fun h28 => ?_) (fun h28 => ?_)
    · rw [hx2] at h28
      have hz : kW k x.toInt b f = kW k (pj g b f) b f := by rw [hx2]
      have e1 : plP k v c g b f = (c, k, v) := if_pos h28
      refine lv_lload hx hb dX2_pollWithin_46 (lv_at hl 0 rfl) ?_
      exact ret_lM hx hb hr hlocks dX2_pollWithin_48 hS (hz) (by rw [e1]; exact hP)
    · have hin := kW_in h28
      have hz : kW k x.toInt b f = kW k (pj g b f) b f := by rw [hx2]
      obtain ⟨j, hj⟩ : ∃ j : Nat, x.toInt = (j : Int) := ⟨x.toInt.toNat, by omega⟩
      have hjx : x = nI j := I32_of hj (by omega)
      have e1 : plP k v c g b f = dlK 1 0 j (j + 1) c k v := by rw [hx2] at h28; unfold plP; rw [if_neg h28, ← hx2, hj, Int.toNat_natCast]
      rw [hjx] at hl hz
      refine lv_aload_n hx hb dX2_pollWithin_32 rfl (lv_at hl 2 rfl) ?_
      refine va_get (ci := 2) (v := .ref aE) (C := RX2) (T := TX2) (N := 4) hx hb hts hin_X2 hown hK hP 0 rfl rfl 0 (by decide) kf_12 (fun _ h9 => h9) rfl dX2_pollWithin_33 ?_
      refine lv_iload hx hb dX2_pollWithin_36 (lv_at hl 1 rfl) ?_
      refine lv_iload hx hb dX2_pollWithin_38 (lv_at hl 1 rfl) ?_
      refine lv_iconst (v := nI 1) hx hb dX2_pollWithin_40 (by decide) ?_
      refine lv_iadd hx hb dX2_pollWithin_41 ?_
      refine top_i (y := nI (j + 1)) (nI_add _ _) ?_
      refine go_M (va_runV (As := [.int (nI j), .int (nI (j + 1))]) (rest := []) ⟨hx, hb, hml, hown, hts⟩ (c_X0_dropPlaces l D cy aE aK aV k v c (by omega) (by simp; omega) _ j (j + 1) (by omega) (by omega)) (cwV 2 hts gX2_pollWithin_X0_dropPlaces rfl rfl rfl (by decide +kernel) ⟨(Nat.le_of_ble_eq_true rfl), (Nat.le_of_ble_eq_true rfl)⟩) (preV_Z hK (hP.sub [1, 2, 3] rfl) 0 0 rfl rfl) rfl rfl hl.1 rfl (lv_room (Nat.le_of_ble_eq_true rfl)) dX2_pollWithin_42 ⟨(Nat.le_of_ble_eq_true rfl), (Nat.le_of_ble_eq_true rfl)⟩) hS (fun q h => mA_sub [0, 1, 2] rfl hS.1 h) (fun H1 locs1 hB hzz hk hS => ?_)
      have hP : va_P D vwCl [(aD, .inr (2, [.ref aE, .ref aW, .ref aR, .int (bI fl)])), (aE, .inr (0, [.ref aK, .ref aV, .int (nI ((dlK 1 0 j (j + 1) c k v).1))])), (aK, .inl (cy, 512, .inl ((dlK 1 0 j (j + 1) c k v).2.1))), (aV, .inl (cy, 512, .inl ((dlK 1 0 j (j + 1) c k v).2.2))), (aR, .inr (1, [.long lo, .int (bI li), .long hi, .int (bI hn)]))] H1 := ((P_keepM (ws := [(aD, .inr (2, [.ref aE, .ref aW, .ref aR, .int (bI fl)])), (aR, .inr (1, [.long lo, .int (bI li), .long hi, .int (bI hn)]))]) (hP.sub [0, 4] rfl) (by intro q hq; simp only [List.map_cons, List.map_nil, List.mem_cons, List.not_mem_nil, or_false, not_or] at hq ⊢; omega) hk).app hB).sub [0, 2, 3, 4, 1] rfl
      clear hB
      generalize H1 = H at hP hS ⊢
      generalize locs1 = locs at hS ⊢
      refine lv_pop hx hb dX2_pollWithin_45 rfl ?_
      refine lv_lload hx hb dX2_pollWithin_46 (lv_at hl 0 rfl) ?_
      exact ret_lM hx hb hr hlocks dX2_pollWithin_48 hS (hz) (by rw [e1]; exact hP)

set_option maxHeartbeats 4000000 in
set_option maxRecDepth 100000 in
/-- poll(last) -/
theorem c_X2_poll (l : Launch) (D : va_G) (cy : ClassId) (aD aE aK aV aW aR : Nat) (k v : Nat → Int32) (c : Nat) (hc : c ≤ 512) (lo : Int64) (li : Bool) (hi : Int64) (hn : Bool) (fl : Bool) (nd : ([aD, aE, aK, aV] : List Nat).Nodup) (nr : ¬ aR ∈ ([aD, aE, aK, aV] : List Nat)) (sz : Nat) (g : Bool) : Met l yX2_poll wsX2_poll ({ frames := 4, cells := 0, slots := 0, locals := 97 } : Room) (pcZ D [(cy, .int)] [.ref aD, .int (bI g)] [(aD, .inr (2, [.ref aE, .ref aW, .ref aR, .int (bI fl)])), (aE, .inr (0, [.ref aK, .ref aV, .int (nI c)])), (aK, .inl (cy, 512, .inl k)), (aV, .inl (cy, 512, .inl v)), (aR, .inr (1, [.long lo, .int (bI li), .long hi, .int (bI hn)]))] sz) (qM (some (.long (kW k (pj g 0 c) 0 c))) (fun H => va_P D vwCl (dW cy aD aE aK aV aW aR ((plP k v c g 0 c).2.1) ((plP k v c g 0 c).2.2) ((plP k v c g 0 c).1) lo li hi hn fl) H) (mA [aE, aK, aV] sz)) 0 0 (mA [aE, aK, aV] sz) := by
  refine met_Z (cc := cX2_poll) (maxL := 2) (ret := (some .long)) (by decide +kernel) rfl (Nat.le_of_ble_eq_true rfl) ?_
  intro pM eM s mM below meth cM ls hx hb hr hts hown hlocks hml hnm hsz hK hP hl
  have hown : s.vm.findClass RX2 = some mM.cls := hown
  have hl : lv_has ls 2 [(0, .ref aD), (1, .int (bI g))] := hl
  have hin_X2 : ∀ w ∈ wsX20, w ∈ wsX2_poll := by decide +kernel
  have kf_12 := hts (.fieldLink RX2 12 "OrderedDesk" "entries" "LOrderedDesk$Entries;") (by decide +kernel)
  have hP : va_P D vwCl [(aD, .inr (2, [.ref aE, .ref aW, .ref aR, .int (bI fl)])), (aE, .inr (0, [.ref aK, .ref aV, .int (nI c)])), (aK, .inl (cy, 512, .inl k)), (aV, .inl (cy, 512, .inl v)), (aR, .inr (1, [.long lo, .int (bI li), .long hi, .int (bI hn)]))] s.heap := hP
  subst hsz
  have hS : va_S (mA [aE, aK, aV] s.heap.size) s.heap s.heap [] := va_S.rf
  simp only [List.nodup_cons, List.mem_cons, List.not_mem_nil, or_false, not_or, not_false_eq_true, List.nodup_nil, and_true] at nd nr
  refine lv_aload_n hx hb dX2_poll_0 rfl (lv_at hl 0 rfl) ?_
  refine lv_iload_n hx hb dX2_poll_1 rfl (lv_at hl 1 rfl) ?_
  refine lv_iconst (v := nI 0) hx hb dX2_poll_2 (by decide) ?_
  refine lv_aload_n hx hb dX2_poll_3 rfl (lv_at hl 0 rfl) ?_
  refine va_get (ci := 2) (v := .ref aE) (C := RX2) (T := TX2) (N := 4) hx hb hts hin_X2 hown hK hP 0 rfl rfl 0 (by decide) kf_12 (fun _ h9 => h9) rfl dX2_poll_4 ?_
  refine go_R (va_runV (As := []) (rest := [.int (nI 0), .int (bI g), .ref aD]) ⟨hx, hb, hml, hown, hts⟩ (c_X0_count l D cy aE aK aV k v c (by omega)) (cwV 0 hts gX2_poll_X0_count rfl rfl rfl (by decide +kernel) ⟨(Nat.le_of_ble_eq_true rfl), (Nat.le_of_ble_eq_true rfl)⟩) (preV_W hK (hP.sub [1, 2, 3] rfl) 0 0 rfl rfl) rfl rfl hl.1 rfl (lv_room (Nat.le_of_ble_eq_true rfl)) dX2_poll_7 ⟨(Nat.le_of_ble_eq_true rfl), (Nat.le_of_ble_eq_true rfl)⟩) ?_
  refine go_M (va_runV (As := [.int (bI g), .int (nI 0), .int (nI c)]) (rest := []) ⟨hx, hb, hml, hown, hts⟩ (c_X2_pollWithin l D cy aD aE aK aV aW aR k v c (by omega) lo li hi hn fl (by simp; omega) (by simp; omega) _ g 0 c (by omega) (by omega)) (cwV 3 hts gX2_poll_X2_pollWithin rfl rfl rfl (by decide +kernel) ⟨(Nat.le_of_ble_eq_true rfl), (Nat.le_of_ble_eq_true rfl)⟩) (preV_Z hK (hP.sub [0, 1, 2, 3, 4] rfl) 0 2 rfl rfl) rfl rfl hl.1 rfl (lv_room (Nat.le_of_ble_eq_true rfl)) dX2_poll_10 ⟨(Nat.le_of_ble_eq_true rfl), (Nat.le_of_ble_eq_true rfl)⟩) hS (fun q h => mA_sub [0, 1, 2] rfl hS.1 h) (fun H1 locs1 hB hzz hk hS => ?_)
  have hP : va_P D vwCl [(aD, .inr (2, [.ref aE, .ref aW, .ref aR, .int (bI fl)])), (aE, .inr (0, [.ref aK, .ref aV, .int (nI ((plP k v c g 0 c).1))])), (aK, .inl (cy, 512, .inl ((plP k v c g 0 c).2.1))), (aV, .inl (cy, 512, .inl ((plP k v c g 0 c).2.2))), (aR, .inr (1, [.long lo, .int (bI li), .long hi, .int (bI hn)]))] H1 := va_P.sub hB [0, 1, 2, 3, 4] rfl
  clear hB
  generalize H1 = H at hP hS ⊢
  generalize locs1 = locs at hS ⊢
  exact ret_lM hx hb hr hlocks dX2_poll_13 hS (rfl) (hP)

set_option maxHeartbeats 4000000 in
set_option maxRecDepth 100000 in
/-- viewPut(key, value) -/
theorem c_X2_viewPut (l : Launch) (D : va_G) (cy : ClassId) (aD aE aK aV aW aR : Nat) (k v : Nat → Int32) (c : Nat) (hc : c ≤ 512) (lo : Int64) (li : Bool) (hi : Int64) (hn : Bool) (fl : Bool) (nd : ([aD, aE, aK, aV] : List Nat).Nodup) (nr : ¬ aR ∈ ([aD, aE, aK, aV] : List Nat)) (sz : Nat) (hc2 : c < 512) (x y : Int32) : Met l yX2_viewPut wsX2_viewPut ({ frames := 2, cells := 0, slots := 0, locals := 49 } : Room) (pcZ D [(cy, .int)] [.ref aD, .int x, .int y] [(aD, .inr (2, [.ref aE, .ref aW, .ref aR, .int (bI fl)])), (aE, .inr (0, [.ref aK, .ref aV, .int (nI c)])), (aK, .inl (cy, 512, .inl k)), (aV, .inl (cy, 512, .inl v)), (aR, .inr (1, [.long lo, .int (bI li), .long hi, .int (bI hn)]))] sz) (qM (some (.long (if hR lo li hi hn x.toInt64 = true then vOf k v c x else OUT))) (fun H => va_P D vwCl (dW cy aD aE aK aV aW aR ((vPT k v c (hR lo li hi hn x.toInt64) x y).2.1) ((vPT k v c (hR lo li hi hn x.toInt64) x y).2.2) ((vPT k v c (hR lo li hi hn x.toInt64) x y).1) lo li hi hn fl) H) (mA [aE, aK, aV] sz)) 0 0 (mA [aE, aK, aV] sz) := by
  refine met_Z (cc := cX2_viewPut) (maxL := 3) (ret := (some .long)) (by decide +kernel) rfl (Nat.le_of_ble_eq_true rfl) ?_
  intro pM eM s mM below meth cM ls hx hb hr hts hown hlocks hml hnm hsz hK hP hl
  have hown : s.vm.findClass RX2 = some mM.cls := hown
  have hl : lv_has ls 3 [(0, .ref aD), (1, .int x), (2, .int y)] := hl
  have hin_X2 : ∀ w ∈ wsX20, w ∈ wsX2_viewPut := by decide +kernel
  have kf_12 := hts (.fieldLink RX2 12 "OrderedDesk" "entries" "LOrderedDesk$Entries;") (by decide +kernel)
  have kf_29 := hts (.fieldLink RX2 29 "OrderedDesk" "range" "LOrderedDesk$Range;") (by decide +kernel)
  have kc_86 := hts (.constantLong RX2 86 (1099511627777)) (by decide +kernel)
  have hP : va_P D vwCl [(aD, .inr (2, [.ref aE, .ref aW, .ref aR, .int (bI fl)])), (aE, .inr (0, [.ref aK, .ref aV, .int (nI c)])), (aK, .inl (cy, 512, .inl k)), (aV, .inl (cy, 512, .inl v)), (aR, .inr (1, [.long lo, .int (bI li), .long hi, .int (bI hn)]))] s.heap := hP
  subst hsz
  have hS : va_S (mA [aE, aK, aV] s.heap.size) s.heap s.heap [] := va_S.rf
  simp only [List.nodup_cons, List.mem_cons, List.not_mem_nil, or_false, not_or, not_false_eq_true, List.nodup_nil, and_true] at nd nr
  refine lv_aload_n hx hb dX2_viewPut_0 rfl (lv_at hl 0 rfl) ?_
  refine va_get (ci := 2) (v := .ref aR) (C := RX2) (T := TX2) (N := 4) hx hb hts hin_X2 hown hK hP 0 rfl rfl 2 (by decide) kf_29 (fun _ h9 => h9) rfl dX2_viewPut_1 ?_
  refine lv_iload_n hx hb dX2_viewPut_4 rfl (lv_at hl 1 rfl) ?_
  refine lv_i2l hx hb dX2_viewPut_5 rfl ?_
  refine go_R (va_runV (As := [.long x.toInt64]) (rest := []) ⟨hx, hb, hml, hown, hts⟩ (c_X1_holds l D cy aR lo li hi hn x.toInt64) (cwV 1 hts gX2_viewPut_X1_holds rfl rfl rfl (by decide +kernel) ⟨(Nat.le_of_ble_eq_true rfl), (Nat.le_of_ble_eq_true rfl)⟩) (preV_W hK (hP.sub [4] rfl) 0 1 rfl rfl) rfl rfl hl.1 rfl (lv_room (Nat.le_of_ble_eq_true rfl)) dX2_viewPut_6 ⟨(Nat.le_of_ble_eq_true rfl), (Nat.le_of_ble_eq_true rfl)⟩) ?_
  refine b_eq (tgt := 24) hx hb dX2_viewPut_9 (by decide) (fun h9 => ?_) (fun h9 => ?_)
  · have hz : (if hR lo li hi hn x.toInt64 = true then vOf k v c x else OUT) = OUT := if_neg (by rw [h9]; decide)
    have e1 : vPT k v c (hR lo li hi hn x.toInt64) x y = (c, k, v) := if_neg (by rw [h9]; decide)
    refine lv_ldc2 hx hb hown kc_86 dX2_viewPut_24 ?_
    exact ret_lM hx hb hr hlocks dX2_viewPut_27 hS (hz.symm) (by rw [e1]; exact hP)
  · have hz : (if hR lo li hi hn x.toInt64 = true then vOf k v c x else OUT) = vOf k v c x := if_pos h9
    have e1 : vPT k v c (hR lo li hi hn x.toInt64) x y = (stC k c x, stK k c x, stV k v c x y) := if_pos h9
    refine lv_aload_n hx hb dX2_viewPut_12 rfl (lv_at hl 0 rfl) ?_
    refine va_get (ci := 2) (v := .ref aE) (C := RX2) (T := TX2) (N := 4) hx hb hts hin_X2 hown hK hP 0 rfl rfl 0 (by decide) kf_12 (fun _ h9 => h9) rfl dX2_viewPut_13 ?_
    refine lv_iload_n hx hb dX2_viewPut_16 rfl (lv_at hl 1 rfl) ?_
    refine lv_iload_n hx hb dX2_viewPut_17 rfl (lv_at hl 2 rfl) ?_
    refine go_M (va_runV (As := [.int x, .int y]) (rest := []) ⟨hx, hb, hml, hown, hts⟩ (c_X0_store l D cy aE aK aV k v c (by omega) (by simp; omega) _ (by omega) x y) (cwV 2 hts gX2_viewPut_X0_store rfl rfl rfl (by decide +kernel) ⟨(Nat.le_of_ble_eq_true rfl), (Nat.le_of_ble_eq_true rfl)⟩) (preV_Z hK (hP.sub [1, 2, 3] rfl) 0 0 rfl rfl) rfl rfl hl.1 rfl (lv_room (Nat.le_of_ble_eq_true rfl)) dX2_viewPut_18 ⟨(Nat.le_of_ble_eq_true rfl), (Nat.le_of_ble_eq_true rfl)⟩) hS (fun q h => mA_sub [0, 1, 2] rfl hS.1 h) (fun H1 locs1 hB hzz hk hS => ?_)
    have hP : va_P D vwCl [(aD, .inr (2, [.ref aE, .ref aW, .ref aR, .int (bI fl)])), (aE, .inr (0, [.ref aK, .ref aV, .int (nI (stC k c x))])), (aK, .inl (cy, 512, .inl (stK k c x))), (aV, .inl (cy, 512, .inl (stV k v c x y))), (aR, .inr (1, [.long lo, .int (bI li), .long hi, .int (bI hn)]))] H1 := ((P_keepM (ws := [(aD, .inr (2, [.ref aE, .ref aW, .ref aR, .int (bI fl)])), (aR, .inr (1, [.long lo, .int (bI li), .long hi, .int (bI hn)]))]) (hP.sub [0, 4] rfl) (by intro q hq; simp only [List.map_cons, List.map_nil, List.mem_cons, List.not_mem_nil, or_false, not_or] at hq ⊢; omega) hk).app hB).sub [0, 2, 3, 4, 1] rfl
    clear hB
    generalize H1 = H at hP hS ⊢
    generalize locs1 = locs at hS ⊢
    refine lv_goto (tgt := 27) hx hb dX2_viewPut_21 (by decide) ?_
    exact ret_lM hx hb hr hlocks dX2_viewPut_27 hS (hz.symm) (by rw [e1]; exact hP)

set_option maxHeartbeats 4000000 in
set_option maxRecDepth 100000 in
/-- viewRemove(key) -/
theorem c_X2_viewRemove (l : Launch) (D : va_G) (cy : ClassId) (aD aE aK aV aW aR : Nat) (k v : Nat → Int32) (c : Nat) (hc : c ≤ 512) (lo : Int64) (li : Bool) (hi : Int64) (hn : Bool) (fl : Bool) (nd : ([aD, aE, aK, aV] : List Nat).Nodup) (nr : ¬ aR ∈ ([aD, aE, aK, aV] : List Nat)) (sz : Nat) (x : Int32) : Met l yX2_viewRemove wsX2_viewRemove ({ frames := 4, cells := 0, slots := 0, locals := 95 } : Room) (pcZ D [(cy, .int)] [.ref aD, .int x] [(aD, .inr (2, [.ref aE, .ref aW, .ref aR, .int (bI fl)])), (aE, .inr (0, [.ref aK, .ref aV, .int (nI c)])), (aK, .inl (cy, 512, .inl k)), (aV, .inl (cy, 512, .inl v)), (aR, .inr (1, [.long lo, .int (bI li), .long hi, .int (bI hn)]))] sz) (qM (some (.long (if hR lo li hi hn x.toInt64 = true then vOf k v c x else NO))) (fun H => va_P D vwCl (dW cy aD aE aK aV aW aR ((vRT k v c (hR lo li hi hn x.toInt64) x).2.1) ((vRT k v c (hR lo li hi hn x.toInt64) x).2.2) ((vRT k v c (hR lo li hi hn x.toInt64) x).1) lo li hi hn fl) H) (mA [aE, aK, aV] sz)) 0 0 (mA [aE, aK, aV] sz) := by
  refine met_Z (cc := cX2_viewRemove) (maxL := 2) (ret := (some .long)) (by decide +kernel) rfl (Nat.le_of_ble_eq_true rfl) ?_
  intro pM eM s mM below meth cM ls hx hb hr hts hown hlocks hml hnm hsz hK hP hl
  have hown : s.vm.findClass RX2 = some mM.cls := hown
  have hl : lv_has ls 2 [(0, .ref aD), (1, .int x)] := hl
  have hin_X2 : ∀ w ∈ wsX20, w ∈ wsX2_viewRemove := by decide +kernel
  have kf_12 := hts (.fieldLink RX2 12 "OrderedDesk" "entries" "LOrderedDesk$Entries;") (by decide +kernel)
  have kf_29 := hts (.fieldLink RX2 29 "OrderedDesk" "range" "LOrderedDesk$Range;") (by decide +kernel)
  have kc_44 := hts (.constantLong RX2 44 (1099511627776)) (by decide +kernel)
  have hP : va_P D vwCl [(aD, .inr (2, [.ref aE, .ref aW, .ref aR, .int (bI fl)])), (aE, .inr (0, [.ref aK, .ref aV, .int (nI c)])), (aK, .inl (cy, 512, .inl k)), (aV, .inl (cy, 512, .inl v)), (aR, .inr (1, [.long lo, .int (bI li), .long hi, .int (bI hn)]))] s.heap := hP
  subst hsz
  have hS : va_S (mA [aE, aK, aV] s.heap.size) s.heap s.heap [] := va_S.rf
  simp only [List.nodup_cons, List.mem_cons, List.not_mem_nil, or_false, not_or, not_false_eq_true, List.nodup_nil, and_true] at nd nr
  refine lv_aload_n hx hb dX2_viewRemove_0 rfl (lv_at hl 0 rfl) ?_
  refine va_get (ci := 2) (v := .ref aR) (C := RX2) (T := TX2) (N := 4) hx hb hts hin_X2 hown hK hP 0 rfl rfl 2 (by decide) kf_29 (fun _ h9 => h9) rfl dX2_viewRemove_1 ?_
  refine lv_iload_n hx hb dX2_viewRemove_4 rfl (lv_at hl 1 rfl) ?_
  refine lv_i2l hx hb dX2_viewRemove_5 rfl ?_
  refine go_R (va_runV (As := [.long x.toInt64]) (rest := []) ⟨hx, hb, hml, hown, hts⟩ (c_X1_holds l D cy aR lo li hi hn x.toInt64) (cwV 1 hts gX2_viewRemove_X1_holds rfl rfl rfl (by decide +kernel) ⟨(Nat.le_of_ble_eq_true rfl), (Nat.le_of_ble_eq_true rfl)⟩) (preV_W hK (hP.sub [4] rfl) 0 1 rfl rfl) rfl rfl hl.1 rfl (lv_room (Nat.le_of_ble_eq_true rfl)) dX2_viewRemove_6 ⟨(Nat.le_of_ble_eq_true rfl), (Nat.le_of_ble_eq_true rfl)⟩) ?_
  refine b_eq (tgt := 23) hx hb dX2_viewRemove_9 (by decide) (fun h9 => ?_) (fun h9 => ?_)
  · have hz : (if hR lo li hi hn x.toInt64 = true then vOf k v c x else NO) = NO := if_neg (by rw [h9]; decide)
    have e1 : vRT k v c (hR lo li hi hn x.toInt64) x = (c, k, v) := if_neg (by rw [h9]; decide)
    refine lv_ldc2 hx hb hown kc_44 dX2_viewRemove_23 ?_
    exact ret_lM hx hb hr hlocks dX2_viewRemove_26 hS (hz.symm) (by rw [e1]; exact hP)
  · have hz : (if hR lo li hi hn x.toInt64 = true then vOf k v c x else NO) = vOf k v c x := if_pos h9
    have e1 : vRT k v c (hR lo li hi hn x.toInt64) x = drp k v c x := if_pos h9
    refine lv_aload_n hx hb dX2_viewRemove_12 rfl (lv_at hl 0 rfl) ?_
    refine va_get (ci := 2) (v := .ref aE) (C := RX2) (T := TX2) (N := 4) hx hb hts hin_X2 hown hK hP 0 rfl rfl 0 (by decide) kf_12 (fun _ h9 => h9) rfl dX2_viewRemove_13 ?_
    refine lv_iload_n hx hb dX2_viewRemove_16 rfl (lv_at hl 1 rfl) ?_
    refine go_M (va_runV (As := [.int x]) (rest := []) ⟨hx, hb, hml, hown, hts⟩ (c_X0_drop l D cy aE aK aV k v c (by omega) (by simp; omega) _ x) (cwV 1 hts gX2_viewRemove_X0_drop rfl rfl rfl (by decide +kernel) ⟨(Nat.le_of_ble_eq_true rfl), (Nat.le_of_ble_eq_true rfl)⟩) (preV_Z hK (hP.sub [1, 2, 3] rfl) 0 0 rfl rfl) rfl rfl hl.1 rfl (lv_room (Nat.le_of_ble_eq_true rfl)) dX2_viewRemove_17 ⟨(Nat.le_of_ble_eq_true rfl), (Nat.le_of_ble_eq_true rfl)⟩) hS (fun q h => mA_sub [0, 1, 2] rfl hS.1 h) (fun H1 locs1 hB hzz hk hS => ?_)
    have hP : va_P D vwCl [(aD, .inr (2, [.ref aE, .ref aW, .ref aR, .int (bI fl)])), (aE, .inr (0, [.ref aK, .ref aV, .int (nI ((drp k v c x).1))])), (aK, .inl (cy, 512, .inl ((drp k v c x).2.1))), (aV, .inl (cy, 512, .inl ((drp k v c x).2.2))), (aR, .inr (1, [.long lo, .int (bI li), .long hi, .int (bI hn)]))] H1 := ((P_keepM (ws := [(aD, .inr (2, [.ref aE, .ref aW, .ref aR, .int (bI fl)])), (aR, .inr (1, [.long lo, .int (bI li), .long hi, .int (bI hn)]))]) (hP.sub [0, 4] rfl) (by intro q hq; simp only [List.map_cons, List.map_nil, List.mem_cons, List.not_mem_nil, or_false, not_or] at hq ⊢; omega) hk).app hB).sub [0, 2, 3, 4, 1] rfl
    clear hB
    generalize H1 = H at hP hS ⊢
    generalize locs1 = locs at hS ⊢
    refine lv_goto (tgt := 26) hx hb dX2_viewRemove_20 (by decide) ?_
    exact ret_lM hx hb hr hlocks dX2_viewRemove_26 hS (hz.symm) (by rw [e1]; exact hP)

set_option maxHeartbeats 4000000 in
set_option maxRecDepth 100000 in
/-- viewPoll(last) -/
theorem c_X2_viewPoll (l : Launch) (D : va_G) (cy : ClassId) (aD aE aK aV aW aR : Nat) (k v : Nat → Int32) (c : Nat) (hc : c ≤ 512) (lo : Int64) (li : Bool) (hi : Int64) (hn : Bool) (fl : Bool) (nd : ([aD, aE, aK, aV] : List Nat).Nodup) (nr : ¬ aR ∈ ([aD, aE, aK, aV] : List Nat)) (sz : Nat) (g : Bool) : Met l yX2_viewPoll wsX2_viewPoll ({ frames := 4, cells := 0, slots := 0, locals := 97 } : Room) (pcZ D [(cy, .int)] [.ref aD, .int (bI g)] [(aD, .inr (2, [.ref aE, .ref aW, .ref aR, .int (bI fl)])), (aE, .inr (0, [.ref aK, .ref aV, .int (nI c)])), (aK, .inl (cy, 512, .inl k)), (aV, .inl (cy, 512, .inl v)), (aR, .inr (1, [.long lo, .int (bI li), .long hi, .int (bI hn)]))] sz) (qM (some (.long (kW k (pj (g != fl) (vB k c lo li) (vE k c lo li hi hn)) (vB k c lo li) (vE k c lo li hi hn)))) (fun H => va_P D vwCl (dW cy aD aE aK aV aW aR ((plP k v c (g != fl) (vB k c lo li) (vE k c lo li hi hn)).2.1) ((plP k v c (g != fl) (vB k c lo li) (vE k c lo li hi hn)).2.2) ((plP k v c (g != fl) (vB k c lo li) (vE k c lo li hi hn)).1) lo li hi hn fl) H) (mA [aE, aK, aV] sz)) 0 0 (mA [aE, aK, aV] sz) := by
  refine met_Z (cc := cX2_viewPoll) (maxL := 2) (ret := (some .long)) (by decide +kernel) rfl (Nat.le_of_ble_eq_true rfl) ?_
  intro pM eM s mM below meth cM ls hx hb hr hts hown hlocks hml hnm hsz hK hP hl
  have hown : s.vm.findClass RX2 = some mM.cls := hown
  have hl : lv_has ls 2 [(0, .ref aD), (1, .int (bI g))] := hl
  have hin_X2 : ∀ w ∈ wsX20, w ∈ wsX2_viewPoll := by decide +kernel
  have kf_32 := hts (.fieldLink RX2 32 "OrderedDesk" "falling" "Z") (by decide +kernel)
  have hP : va_P D vwCl [(aD, .inr (2, [.ref aE, .ref aW, .ref aR, .int (bI fl)])), (aE, .inr (0, [.ref aK, .ref aV, .int (nI c)])), (aK, .inl (cy, 512, .inl k)), (aV, .inl (cy, 512, .inl v)), (aR, .inr (1, [.long lo, .int (bI li), .long hi, .int (bI hn)]))] s.heap := hP
  subst hsz
  have hS : va_S (mA [aE, aK, aV] s.heap.size) s.heap s.heap [] := va_S.rf
  simp only [List.nodup_cons, List.mem_cons, List.not_mem_nil, or_false, not_or, not_false_eq_true, List.nodup_nil, and_true] at nd nr
  have q1 := vB_le k c lo li
  have q2 := vE_le k c lo li hi hn
  have q3 := vBE k c lo li hi hn
  refine lv_aload_n hx hb dX2_viewPoll_0 rfl (lv_at hl 0 rfl) ?_
  refine lv_iload_n hx hb dX2_viewPoll_1 rfl (lv_at hl 1 rfl) ?_
  refine lv_aload_n hx hb dX2_viewPoll_2 rfl (lv_at hl 0 rfl) ?_
  refine va_get (ci := 2) (v := .int (bI fl)) (C := RX2) (T := TX2) (N := 4) hx hb hts hin_X2 hown hK hP 0 rfl rfl 3 (by decide) kf_32 (fun _ h9 => h9) rfl dX2_viewPoll_3 ?_
  refine lv_xne (tgt := 13) (J := 14) hx hb dX2_viewPoll_6 (by decide) dX2_viewPoll_9 dX2_viewPoll_10 (by decide) dX2_viewPoll_13 rfl ?_
  refine lv_aload_n hx hb dX2_viewPoll_14 rfl (lv_at hl 0 rfl) ?_
  refine go_R (va_runV (As := []) (rest := [.int (bI (g != fl)), .ref aD]) ⟨hx, hb, hml, hown, hts⟩ (c_X2_viewBegin l D cy aD aE aK aV aW aR k v c (by omega) lo li hi hn fl) (cwV 0 hts gX2_viewPoll_X2_viewBegin rfl rfl rfl (by decide +kernel) ⟨(Nat.le_of_ble_eq_true rfl), (Nat.le_of_ble_eq_true rfl)⟩) (preV_W hK (hP.sub [0, 1, 2, 3, 4] rfl) 0 2 rfl rfl) rfl rfl hl.1 rfl (lv_room (Nat.le_of_ble_eq_true rfl)) dX2_viewPoll_15 ⟨(Nat.le_of_ble_eq_true rfl), (Nat.le_of_ble_eq_true rfl)⟩) ?_
  refine lv_aload_n hx hb dX2_viewPoll_18 rfl (lv_at hl 0 rfl) ?_
  refine go_R (va_runV (As := []) (rest := [.int (nI (vB k c lo li)), .int (bI (g != fl)), .ref aD]) ⟨hx, hb, hml, hown, hts⟩ (c_X2_viewEnd l D cy aD aE aK aV aW aR k v c (by omega) lo li hi hn fl) (cwV 0 hts gX2_viewPoll_X2_viewEnd rfl rfl rfl (by decide +kernel) ⟨(Nat.le_of_ble_eq_true rfl), (Nat.le_of_ble_eq_true rfl)⟩) (preV_W hK (hP.sub [0, 1, 2, 3, 4] rfl) 0 2 rfl rfl) rfl rfl hl.1 rfl (lv_room (Nat.le_of_ble_eq_true rfl)) dX2_viewPoll_19 ⟨(Nat.le_of_ble_eq_true rfl), (Nat.le_of_ble_eq_true rfl)⟩) ?_
  refine go_M (va_runV (As := [.int (bI (g != fl)), .int (nI (vB k c lo li)), .int (nI (vE k c lo li hi hn))]) (rest := []) ⟨hx, hb, hml, hown, hts⟩ (c_X2_pollWithin l D cy aD aE aK aV aW aR k v c (by omega) lo li hi hn fl (by simp; omega) (by simp; omega) _ ((g != fl)) (vB k c lo li) (vE k c lo li hi hn) (by omega) (by omega)) (cwV 3 hts gX2_viewPoll_X2_pollWithin rfl rfl rfl (by decide +kernel) ⟨(Nat.le_of_ble_eq_true rfl), (Nat.le_of_ble_eq_true rfl)⟩) (preV_Z hK (hP.sub [0, 1, 2, 3, 4] rfl) 0 2 rfl rfl) rfl rfl hl.1 rfl (lv_room (Nat.le_of_ble_eq_true rfl)) dX2_viewPoll_22 ⟨(Nat.le_of_ble_eq_true rfl), (Nat.le_of_ble_eq_true rfl)⟩) hS (fun q h => mA_sub [0, 1, 2] rfl hS.1 h) (fun H1 locs1 hB hzz hk hS => ?_)
  have hP : va_P D vwCl [(aD, .inr (2, [.ref aE, .ref aW, .ref aR, .int (bI fl)])), (aE, .inr (0, [.ref aK, .ref aV, .int (nI ((plP k v c ((g != fl)) (vB k c lo li) (vE k c lo li hi hn)).1))])), (aK, .inl (cy, 512, .inl ((plP k v c ((g != fl)) (vB k c lo li) (vE k c lo li hi hn)).2.1))), (aV, .inl (cy, 512, .inl ((plP k v c ((g != fl)) (vB k c lo li) (vE k c lo li hi hn)).2.2))), (aR, .inr (1, [.long lo, .int (bI li), .long hi, .int (bI hn)]))] H1 := va_P.sub hB [0, 1, 2, 3, 4] rfl
  clear hB
  generalize H1 = H at hP hS ⊢
  generalize locs1 = locs at hS ⊢
  exact ret_lM hx hb hr hlocks dX2_viewPoll_25 hS (rfl) (hP)

set_option maxHeartbeats 4000000 in
set_option maxRecDepth 100000 in
/-- sweep(step, rest) -/
theorem c_X2_sweep (l : Launch) (D : va_G) (cy : ClassId) (aD aE aK aV aW aR : Nat) (k v : Nat → Int32) (c : Nat) (hc : c ≤ 512) (lo : Int64) (li : Bool) (hi : Int64) (hn : Bool) (fl : Bool) (nd : ([aD, aE, aK, aV] : List Nat).Nodup) (nr : ¬ aR ∈ ([aD, aE, aK, aV] : List Nat)) (sz : Nat) (step rest : Int32) : Met l yX2_sweep wsX2_sweep ({ frames := 3, cells := 0, slots := 0, locals := 63 } : Room) (pcZ D [(cy, .int)] [.ref aD, .int step, .int rest] [(aD, .inr (2, [.ref aE, .ref aW, .ref aR, .int (bI fl)])), (aE, .inr (0, [.ref aK, .ref aV, .int (nI c)])), (aK, .inl (cy, 512, .inl k)), (aV, .inl (cy, 512, .inl v)), (aR, .inr (1, [.long lo, .int (bI li), .long hi, .int (bI hn)]))] sz) (qM (some (.int (if step < 1 then (-1) else nI (c - (dlK step rest (vB k c lo li) (vE k c lo li hi hn) c k v).1)))) (fun H => va_P D vwCl (dW cy aD aE aK aV aW aR ((dlS step rest (vB k c lo li) (vE k c lo li hi hn) c k v).2.1) ((dlS step rest (vB k c lo li) (vE k c lo li hi hn) c k v).2.2) ((dlS step rest (vB k c lo li) (vE k c lo li hi hn) c k v).1) lo li hi hn fl) H) (mA [aE, aK, aV] sz)) 0 0 (mA [aE, aK, aV] sz) := by
  refine met_Z (cc := cX2_sweep) (maxL := 3) (ret := (some .int)) (by decide +kernel) rfl (Nat.le_of_ble_eq_true rfl) ?_
  intro pM eM s mM below meth cM ls hx hb hr hts hown hlocks hml hnm hsz hK hP hl
  have hown : s.vm.findClass RX2 = some mM.cls := hown
  have hl : lv_has ls 3 [(0, .ref aD), (1, .int step), (2, .int rest)] := hl
  have hin_X2 : ∀ w ∈ wsX20, w ∈ wsX2_sweep := by decide +kernel
  have kf_12 := hts (.fieldLink RX2 12 "OrderedDesk" "entries" "LOrderedDesk$Entries;") (by decide +kernel)
  have hP : va_P D vwCl [(aD, .inr (2, [.ref aE, .ref aW, .ref aR, .int (bI fl)])), (aE, .inr (0, [.ref aK, .ref aV, .int (nI c)])), (aK, .inl (cy, 512, .inl k)), (aV, .inl (cy, 512, .inl v)), (aR, .inr (1, [.long lo, .int (bI li), .long hi, .int (bI hn)]))] s.heap := hP
  subst hsz
  have hS : va_S (mA [aE, aK, aV] s.heap.size) s.heap s.heap [] := va_S.rf
  simp only [List.nodup_cons, List.mem_cons, List.not_mem_nil, or_false, not_or, not_false_eq_true, List.nodup_nil, and_true] at nd nr
  have q1 := vB_le k c lo li
  have q2 := vE_le k c lo li hi hn
  have q3 := vBE k c lo li hi hn
  refine lv_aload_n hx hb dX2_sweep_0 rfl (lv_at hl 0 rfl) ?_
  refine va_get (ci := 2) (v := .ref aE) (C := RX2) (T := TX2) (N := 4) hx hb hts hin_X2 hown hK hP 0 rfl rfl 0 (by decide) kf_12 (fun _ h9 => h9) rfl dX2_sweep_1 ?_
  refine lv_iload_n hx hb dX2_sweep_4 rfl (lv_at hl 1 rfl) ?_
  refine lv_iload_n hx hb dX2_sweep_5 rfl (lv_at hl 2 rfl) ?_
  refine lv_aload_n hx hb dX2_sweep_6 rfl (lv_at hl 0 rfl) ?_
  refine go_R (va_runV (As := []) (rest := [.int rest, .int step, .ref aE]) ⟨hx, hb, hml, hown, hts⟩ (c_X2_viewBegin l D cy aD aE aK aV aW aR k v c (by omega) lo li hi hn fl) (cwV 0 hts gX2_sweep_X2_viewBegin rfl rfl rfl (by decide +kernel) ⟨(Nat.le_of_ble_eq_true rfl), (Nat.le_of_ble_eq_true rfl)⟩) (preV_W hK (hP.sub [0, 1, 2, 3, 4] rfl) 0 2 rfl rfl) rfl rfl hl.1 rfl (lv_room (Nat.le_of_ble_eq_true rfl)) dX2_sweep_7 ⟨(Nat.le_of_ble_eq_true rfl), (Nat.le_of_ble_eq_true rfl)⟩) ?_
  refine lv_aload_n hx hb dX2_sweep_10 rfl (lv_at hl 0 rfl) ?_
  refine go_R (va_runV (As := []) (rest := [.int (nI (vB k c lo li)), .int rest, .int step, .ref aE]) ⟨hx, hb, hml, hown, hts⟩ (c_X2_viewEnd l D cy aD aE aK aV aW aR k v c (by omega) lo li hi hn fl) (cwV 0 hts gX2_sweep_X2_viewEnd rfl rfl rfl (by decide +kernel) ⟨(Nat.le_of_ble_eq_true rfl), (Nat.le_of_ble_eq_true rfl)⟩) (preV_W hK (hP.sub [0, 1, 2, 3, 4] rfl) 0 2 rfl rfl) rfl rfl hl.1 rfl (lv_room (Nat.le_of_ble_eq_true rfl)) dX2_sweep_11 ⟨(Nat.le_of_ble_eq_true rfl), (Nat.le_of_ble_eq_true rfl)⟩) ?_
  refine go_M (va_runV (As := [.int step, .int rest, .int (nI (vB k c lo li)), .int (nI (vE k c lo li hi hn))]) (rest := []) ⟨hx, hb, hml, hown, hts⟩ (c_X0_dropLeaving l D cy aE aK aV k v c (by omega) (by simp; omega) _ step rest (vB k c lo li) (vE k c lo li hi hn) (by omega) (by omega)) (cwV 4 hts gX2_sweep_X0_dropLeaving rfl rfl rfl (by decide +kernel) ⟨(Nat.le_of_ble_eq_true rfl), (Nat.le_of_ble_eq_true rfl)⟩) (preV_Z hK (hP.sub [1, 2, 3] rfl) 0 0 rfl rfl) rfl rfl hl.1 rfl (lv_room (Nat.le_of_ble_eq_true rfl)) dX2_sweep_14 ⟨(Nat.le_of_ble_eq_true rfl), (Nat.le_of_ble_eq_true rfl)⟩) hS (fun q h => mA_sub [0, 1, 2] rfl hS.1 h) (fun H1 locs1 hB hzz hk hS => ?_)
  have hP : va_P D vwCl [(aD, .inr (2, [.ref aE, .ref aW, .ref aR, .int (bI fl)])), (aE, .inr (0, [.ref aK, .ref aV, .int (nI ((dlS step rest (vB k c lo li) (vE k c lo li hi hn) c k v).1))])), (aK, .inl (cy, 512, .inl ((dlS step rest (vB k c lo li) (vE k c lo li hi hn) c k v).2.1))), (aV, .inl (cy, 512, .inl ((dlS step rest (vB k c lo li) (vE k c lo li hi hn) c k v).2.2))), (aR, .inr (1, [.long lo, .int (bI li), .long hi, .int (bI hn)]))] H1 := ((P_keepM (ws := [(aD, .inr (2, [.ref aE, .ref aW, .ref aR, .int (bI fl)])), (aR, .inr (1, [.long lo, .int (bI li), .long hi, .int (bI hn)]))]) (hP.sub [0, 4] rfl) (by intro q hq; simp only [List.map_cons, List.map_nil, List.mem_cons, List.not_mem_nil, or_false, not_or] at hq ⊢; omega) hk).app hB).sub [0, 2, 3, 4, 1] rfl
  clear hB
  generalize H1 = H at hP hS ⊢
  generalize locs1 = locs at hS ⊢
  exact ret_iM hx hb hr hlocks dX2_sweep_17 hS (rfl) (hP)

set_option maxHeartbeats 4000000 in
set_option maxRecDepth 100000 in
/-- viewClear() -/
theorem c_X2_viewClear (l : Launch) (D : va_G) (cy : ClassId) (aD aE aK aV aW aR : Nat) (k v : Nat → Int32) (c : Nat) (hc : c ≤ 512) (lo : Int64) (li : Bool) (hi : Int64) (hn : Bool) (fl : Bool) (nd : ([aD, aE, aK, aV] : List Nat).Nodup) (nr : ¬ aR ∈ ([aD, aE, aK, aV] : List Nat)) (sz : Nat) : Met l yX2_viewClear wsX2_viewClear ({ frames := 3, cells := 0, slots := 0, locals := 71 } : Room) (pcZ D [(cy, .int)] [.ref aD] [(aD, .inr (2, [.ref aE, .ref aW, .ref aR, .int (bI fl)])), (aE, .inr (0, [.ref aK, .ref aV, .int (nI c)])), (aK, .inl (cy, 512, .inl k)), (aV, .inl (cy, 512, .inl v)), (aR, .inr (1, [.long lo, .int (bI li), .long hi, .int (bI hn)]))] sz) (qM (some (.int (nI (c - (dlK 1 0 (vB k c lo li) (vE k c lo li hi hn) c k v).1)))) (fun H => va_P D vwCl (dW cy aD aE aK aV aW aR ((dlK 1 0 (vB k c lo li) (vE k c lo li hi hn) c k v).2.1) ((dlK 1 0 (vB k c lo li) (vE k c lo li hi hn) c k v).2.2) ((dlK 1 0 (vB k c lo li) (vE k c lo li hi hn) c k v).1) lo li hi hn fl) H) (mA [aE, aK, aV] sz)) 0 0 (mA [aE, aK, aV] sz) := by
  refine met_Z (cc := cX2_viewClear) (maxL := 1) (ret := (some .int)) (by decide +kernel) rfl (Nat.le_of_ble_eq_true rfl) ?_
  intro pM eM s mM below meth cM ls hx hb hr hts hown hlocks hml hnm hsz hK hP hl
  have hown : s.vm.findClass RX2 = some mM.cls := hown
  have hl : lv_has ls 1 [(0, .ref aD)] := hl
  have hin_X2 : ∀ w ∈ wsX20, w ∈ wsX2_viewClear := by decide +kernel
  have kf_12 := hts (.fieldLink RX2 12 "OrderedDesk" "entries" "LOrderedDesk$Entries;") (by decide +kernel)
  have hP : va_P D vwCl [(aD, .inr (2, [.ref aE, .ref aW, .ref aR, .int (bI fl)])), (aE, .inr (0, [.ref aK, .ref aV, .int (nI c)])), (aK, .inl (cy, 512, .inl k)), (aV, .inl (cy, 512, .inl v)), (aR, .inr (1, [.long lo, .int (bI li), .long hi, .int (bI hn)]))] s.heap := hP
  subst hsz
  have hS : va_S (mA [aE, aK, aV] s.heap.size) s.heap s.heap [] := va_S.rf
  simp only [List.nodup_cons, List.mem_cons, List.not_mem_nil, or_false, not_or, not_false_eq_true, List.nodup_nil, and_true] at nd nr
  have q1 := vB_le k c lo li
  have q2 := vE_le k c lo li hi hn
  have q3 := vBE k c lo li hi hn
  refine lv_aload_n hx hb dX2_viewClear_0 rfl (lv_at hl 0 rfl) ?_
  refine va_get (ci := 2) (v := .ref aE) (C := RX2) (T := TX2) (N := 4) hx hb hts hin_X2 hown hK hP 0 rfl rfl 0 (by decide) kf_12 (fun _ h9 => h9) rfl dX2_viewClear_1 ?_
  refine lv_aload_n hx hb dX2_viewClear_4 rfl (lv_at hl 0 rfl) ?_
  refine go_R (va_runV (As := []) (rest := [.ref aE]) ⟨hx, hb, hml, hown, hts⟩ (c_X2_viewBegin l D cy aD aE aK aV aW aR k v c (by omega) lo li hi hn fl) (cwV 0 hts gX2_viewClear_X2_viewBegin rfl rfl rfl (by decide +kernel) ⟨(Nat.le_of_ble_eq_true rfl), (Nat.le_of_ble_eq_true rfl)⟩) (preV_W hK (hP.sub [0, 1, 2, 3, 4] rfl) 0 2 rfl rfl) rfl rfl hl.1 rfl (lv_room (Nat.le_of_ble_eq_true rfl)) dX2_viewClear_5 ⟨(Nat.le_of_ble_eq_true rfl), (Nat.le_of_ble_eq_true rfl)⟩) ?_
  refine lv_aload_n hx hb dX2_viewClear_8 rfl (lv_at hl 0 rfl) ?_
  refine go_R (va_runV (As := []) (rest := [.int (nI (vB k c lo li)), .ref aE]) ⟨hx, hb, hml, hown, hts⟩ (c_X2_viewEnd l D cy aD aE aK aV aW aR k v c (by omega) lo li hi hn fl) (cwV 0 hts gX2_viewClear_X2_viewEnd rfl rfl rfl (by decide +kernel) ⟨(Nat.le_of_ble_eq_true rfl), (Nat.le_of_ble_eq_true rfl)⟩) (preV_W hK (hP.sub [0, 1, 2, 3, 4] rfl) 0 2 rfl rfl) rfl rfl hl.1 rfl (lv_room (Nat.le_of_ble_eq_true rfl)) dX2_viewClear_9 ⟨(Nat.le_of_ble_eq_true rfl), (Nat.le_of_ble_eq_true rfl)⟩) ?_
  refine go_M (va_runV (As := [.int (nI (vB k c lo li)), .int (nI (vE k c lo li hi hn))]) (rest := []) ⟨hx, hb, hml, hown, hts⟩ (c_X0_dropPlaces l D cy aE aK aV k v c (by omega) (by simp; omega) _ (vB k c lo li) (vE k c lo li hi hn) (by omega) (by omega)) (cwV 2 hts gX2_viewClear_X0_dropPlaces rfl rfl rfl (by decide +kernel) ⟨(Nat.le_of_ble_eq_true rfl), (Nat.le_of_ble_eq_true rfl)⟩) (preV_Z hK (hP.sub [1, 2, 3] rfl) 0 0 rfl rfl) rfl rfl hl.1 rfl (lv_room (Nat.le_of_ble_eq_true rfl)) dX2_viewClear_12 ⟨(Nat.le_of_ble_eq_true rfl), (Nat.le_of_ble_eq_true rfl)⟩) hS (fun q h => mA_sub [0, 1, 2] rfl hS.1 h) (fun H1 locs1 hB hzz hk hS => ?_)
  have hP : va_P D vwCl [(aD, .inr (2, [.ref aE, .ref aW, .ref aR, .int (bI fl)])), (aE, .inr (0, [.ref aK, .ref aV, .int (nI ((dlK 1 0 (vB k c lo li) (vE k c lo li hi hn) c k v).1))])), (aK, .inl (cy, 512, .inl ((dlK 1 0 (vB k c lo li) (vE k c lo li hi hn) c k v).2.1))), (aV, .inl (cy, 512, .inl ((dlK 1 0 (vB k c lo li) (vE k c lo li hi hn) c k v).2.2))), (aR, .inr (1, [.long lo, .int (bI li), .long hi, .int (bI hn)]))] H1 := ((P_keepM (ws := [(aD, .inr (2, [.ref aE, .ref aW, .ref aR, .int (bI fl)])), (aR, .inr (1, [.long lo, .int (bI li), .long hi, .int (bI hn)]))]) (hP.sub [0, 4] rfl) (by intro q hq; simp only [List.map_cons, List.map_nil, List.mem_cons, List.not_mem_nil, or_false, not_or] at hq ⊢; omega) hk).app hB).sub [0, 2, 3, 4, 1] rfl
  clear hB
  generalize H1 = H at hP hS ⊢
  generalize locs1 = locs at hS ⊢
  exact ret_iM hx hb hr hlocks dX2_viewClear_15 hS (rfl) (hP)
