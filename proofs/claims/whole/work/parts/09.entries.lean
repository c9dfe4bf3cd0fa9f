/-! the contracts of Entries' methods (written by wip/gen/x0.py) -/
abbrev eW (cy : ClassId) (aE aK aV : Nat) (k v : Nat → Int32) (c : Nat) : va_W := [(aE, .inr (0, [.ref aK, .ref aV, .int (nI c)])), (aK, .inl (cy, 512, .inl k)), (aV, .inl (cy, 512, .inl v))]
theorem atK_lt {k : Nat → Int32} {c j : Nat} {x : Int32} (h : atK k c j x = true) : j < c := by
  simp [atK] at h
  exact h.1
theorem kW_no {k : Nat → Int32} {z : Int} {b e : Nat} (h : ¬ ((b : Int) ≤ z ∧ z < (e : Int))) : kW k z b e = NO := if_neg h
theorem kW_yes {k : Nat → Int32} {j b e : Nat} (h : b ≤ j) (h2 : j < e) : kW k (j : Int) b e = (k j).toInt64 := by
  unfold kW
  rw [if_pos ⟨by omega, by omega⟩, Int.toNat_natCast]
def shA (k : Nat → Int32) (i c : Nat) : Nat → Int32 := fun q => if i < q ∧ q ≤ c then k (q - 1) else k q
theorem shA_c (k : Nat → Int32) (c : Nat) : shA k c c = k := by
  funext q
  exact if_neg (by omega)
theorem shA_s (k : Nat → Int32) {i c : Nat} (h : 0 < i) (hc : i ≤ c) : upd (shA k i c) i (shA k i c (i - 1)) = shA k (i - 1) c := by
  funext q
  unfold upd shA
  by_cases e : q = i
  · rw [if_pos e, if_neg (by omega), if_pos (by omega), e]
  · rw [if_neg e]
    by_cases w : i < q ∧ q ≤ c
    · rw [if_pos w, if_pos (by omega)]
    · rw [if_neg w, if_neg (by omega)]
theorem upd_sh (k : Nat → Int32) (i c : Nat) (x : Int32) : upd (shA k i c) i x = insA k i c x := rfl
def stK (k : Nat → Int32) (c : Nat) (x : Int32) : Nat → Int32 := if atK k c (plc k c x.toInt64) x = true then k else insA k (plc k c x.toInt64) c x
def stV (k v : Nat → Int32) (c : Nat) (x y : Int32) : Nat → Int32 := if atK k c (plc k c x.toInt64) x = true then upd v (plc k c x.toInt64) y else insA v (plc k c x.toInt64) c y
def stC (k : Nat → Int32) (c : Nat) (x : Int32) : Nat := if atK k c (plc k c x.toInt64) x = true then c else c + 1
def dlS (step rest : Int32) (b f c : Nat) (k v : Nat → Int32) : Nat × (Nat → Int32) × (Nat → Int32) := if step < 1 then (c, k, v) else dlK step rest b f c k v
def drp (k v : Nat → Int32) (c : Nat) (x : Int32) : Nat × (Nat → Int32) × (Nat → Int32) := if atK k c (plc k c x.toInt64) x = true then dlK 1 0 (plc k c x.toInt64) (plc k c x.toInt64 + 1) c k v else (c, k, v)
theorem clp_step {G : Int32 → Bool} {e c i t : Nat} {k v : Nat → Int32} (h : i < c) : clp G e (c - i) i t k v = if (decide (i < e) && G (k i)) = true then clp G e (c - (i + 1)) (i + 1) t k v else clp G e (c - (i + 1)) (i + 1) (t + 1) (upd k t (k i)) (upd v t (v i)) := by
  obtain ⟨n, hn⟩ : ∃ n, c - i = n + 1 := ⟨c - i - 1, by omega⟩
  rw [hn, show c - (i + 1) = n by omega, clp]
set_option maxHeartbeats 4000000 in
set_option maxRecDepth 100000 in
/-- count() -/
theorem c_X0_count (l : Launch) (D : va_G) (cy : ClassId) (aE aK aV : Nat) (k v : Nat → Int32) (c : Nat) (hc : c ≤ 512) : Met l yX0_count wsX0_count ({ frames := 0, cells := 0, slots := 0, locals := 0 } : Room) (pcW D [(cy, .int)] [.ref aE] [(aE, .inr (0, [.ref aK, .ref aV, .int (nI c)])), (aK, .inl (cy, 512, .inl k)), (aV, .inl (cy, 512, .inl v))]) (qR (.int (nI c))) 0 0 (fun _ => False) := by
  refine met_W (cc := cX0_count) (maxL := 1) (ret := (some .int)) (by decide +kernel) rfl (Nat.le_of_ble_eq_true rfl) ?_
  intro pM eM s mM below meth cM ls hx hb hr hts hown hlocks hml hnm hK hP hl
  have hown : s.vm.findClass RX0 = some mM.cls := hown
  have hl : lv_has ls 1 [(0, .ref aE)] := hl
  have hin_X0 : ∀ w ∈ wsX00, w ∈ wsX0_count := by decide +kernel
  have kf_18 := hts (.fieldLink RX0 18 "OrderedDesk$Entries" "count" "I") (by decide +kernel)
  have hP : va_P D vwCl [(aE, .inr (0, [.ref aK, .ref aV, .int (nI c)])), (aK, .inl (cy, 512, .inl k)), (aV, .inl (cy, 512, .inl v))] s.heap := hP
  refine lv_aload_n hx hb dX0_count_0 rfl (lv_at hl 0 rfl) ?_
  refine va_get (ci := 0) (v := .int (nI c)) (C := RX0) (T := TX0) (N := 3) hx hb hts hin_X0 hown hK hP 0 rfl rfl 2 (by decide) kf_18 (fun _ h9 => h9) rfl dX0_count_1 ?_
  exact ret_i hx hb hr hlocks dX0_count_4 rfl

set_option maxHeartbeats 4000000 in
set_option maxRecDepth 100000 in
/-- placeOf(key) -/
theorem c_X0_placeOf (l : Launch) (D : va_G) (cy : ClassId) (aE aK aV : Nat) (k v : Nat → Int32) (c : Nat) (hc : c ≤ 512) (key : Int64) : Met l yX0_placeOf wsX0_placeOf ({ frames := 0, cells := 0, slots := 0, locals := 0 } : Room) (pcW D [(cy, .int)] [.ref aE, .long key] [(aE, .inr (0, [.ref aK, .ref aV, .int (nI c)])), (aK, .inl (cy, 512, .inl k)), (aV, .inl (cy, 512, .inl v))]) (qR (.int (nI (plc k c key)))) 0 0 (fun _ => False) := by
  refine met_W (cc := cX0_placeOf) (maxL := 4) (ret := (some .int)) (by decide +kernel) rfl (Nat.le_of_ble_eq_true rfl) ?_
  intro pM eM s mM below meth cM ls hx hb hr hts hown hlocks hml hnm hK hP hl
  have hown : s.vm.findClass RX0 = some mM.cls := hown
  have hl : lv_has ls 4 [(0, .ref aE), (1, .long key)] := hl
  have hin_X0 : ∀ w ∈ wsX00, w ∈ wsX0_placeOf := by decide +kernel
  have kf_18 := hts (.fieldLink RX0 18 "OrderedDesk$Entries" "count" "I") (by decide +kernel)
  have kf_9 := hts (.fieldLink RX0 9 "OrderedDesk$Entries" "keys" "[I") (by decide +kernel)
  have hP : va_P D vwCl [(aE, .inr (0, [.ref aK, .ref aV, .int (nI c)])), (aK, .inl (cy, 512, .inl k)), (aV, .inl (cy, 512, .inl v))] s.heap := hP
  refine lv_iconst (v := nI 0) hx hb dX0_placeOf_0 (by decide) ?_
  refine lv_istore_n (lv' := [(3, .int (nI 0)), (0, .ref aE), (1, .long key)]) hx hb dX0_placeOf_1 rfl hl (by decide) rfl (fun ls hl => ?_)
  refine W_loopR (I := fun (i : Nat) (ls : Array Slot) => lv_has ls 4 [(0, .ref aE), (1, .long key), (3, .int (nI i))] ∧ i ≤ c ∧ plc k c key = pf (fun j => decide ((k j).toInt64 < key)) (c - i) i) (μ := fun i => c - i) (fun i ls h ih => ?_) 0 ⟨lv_sub hl [1, 2, 0] rfl, Nat.zero_le _, rfl⟩
  obtain ⟨hl, hi, hv⟩ := h
  refine lv_iload_n hx hb dX0_placeOf_2 rfl (lv_at hl 2 rfl) ?_
  refine lv_aload_n hx hb dX0_placeOf_3 rfl (lv_at hl 0 rfl) ?_
  refine va_get (ci := 0) (v := .int (nI c)) (C := RX0) (T := TX0) (N := 3) hx hb hts hin_X0 hown hK hP 0 rfl rfl 2 (by decide) kf_18 (fun _ h9 => h9) rfl dX0_placeOf_4 ?_
  refine n_ge (tgt := 28) (by omega) (by omega) hx hb dX0_placeOf_7 (by decide) (fun h7 => ?_) (fun h7 => ?_)
  · have hv2 : plc k c key = i := by rw [hv, pf_e h7]
    refine lv_iload_n hx hb dX0_placeOf_28 rfl (lv_at hl 2 rfl) ?_
    exact ret_i hx hb hr hlocks dX0_placeOf_29 (by rw [hv2])
  · refine lv_aload_n hx hb dX0_placeOf_10 rfl (lv_at hl 0 rfl) ?_
    refine va_get (ci := 0) (v := .ref aK) (C := RX0) (T := TX0) (N := 3) hx hb hts hin_X0 hown hK hP 0 rfl rfl 0 (by decide) kf_9 (fun _ h9 => h9) rfl dX0_placeOf_11 ?_
    refine lv_iload_n hx hb dX0_placeOf_14 rfl (lv_at hl 2 rfl) ?_
    refine a_ld hx hb hK hP 1 0 rfl rfl (by omega) (by decide) dX0_placeOf_15 ?_
    refine lv_i2l hx hb dX0_placeOf_16 rfl ?_
    refine lv_lload_n hx hb dX0_placeOf_17 rfl (lv_at hl 1 rfl) ?_
    refine l_ge (tgt := 28) hx hb dX0_placeOf_18 dX0_placeOf_19 (by decide) (fun h18 => ?_) (fun h18 => ?_)
    · have hv2 : plc k c key = i := by rw [hv, pf_f (by simpa using h18)]
      refine lv_iload_n hx hb dX0_placeOf_28 rfl (lv_at hl 2 rfl) ?_
      exact ret_i hx hb hr hlocks dX0_placeOf_29 (by rw [hv2])
    · refine lv_iinc (v := nI (i + 1)) (lv' := [(3, .int (nI (i + 1))), (0, .ref aE), (1, .long key)]) hx hb dX0_placeOf_22 hl (k := 2) rfl (by first | exact nI_1 _ | exact nI_add _ _) (by decide) rfl (fun ls hl => ?_)
      refine lv_goto (tgt := 2) hx hb dX0_placeOf_25 (by decide) ?_
      exact ih (i + 1) _ (by omega) ⟨lv_sub hl [1, 2, 0] rfl, by omega, by rw [hv, pf_t h7 (by simpa using h18)]⟩

set_option maxHeartbeats 4000000 in
set_option maxRecDepth 100000 in
/-- keyAt(place) -/
theorem c_X0_keyAt (l : Launch) (D : va_G) (cy : ClassId) (aE aK aV : Nat) (k v : Nat → Int32) (c : Nat) (hc : c ≤ 512) (x : Int32) : Met l yX0_keyAt wsX0_keyAt ({ frames := 0, cells := 0, slots := 0, locals := 0 } : Room) (pcW D [(cy, .int)] [.ref aE, .int x] [(aE, .inr (0, [.ref aK, .ref aV, .int (nI c)])), (aK, .inl (cy, 512, .inl k)), (aV, .inl (cy, 512, .inl v))]) (qR (.long (kW k x.toInt 0 c))) 0 0 (fun _ => False) := by
  refine met_W (cc := cX0_keyAt) (maxL := 2) (ret := (some .long)) (by decide +kernel) rfl (Nat.le_of_ble_eq_true rfl) ?_
  intro pM eM s mM below meth cM ls hx hb hr hts hown hlocks hml hnm hK hP hl
  have hown : s.vm.findClass RX0 = some mM.cls := hown
  have hl : lv_has ls 2 [(0, .ref aE), (1, .int x)] := hl
  have hin_X0 : ∀ w ∈ wsX00, w ∈ wsX0_keyAt := by decide +kernel
  have kf_18 := hts (.fieldLink RX0 18 "OrderedDesk$Entries" "count" "I") (by decide +kernel)
  have kf_9 := hts (.fieldLink RX0 9 "OrderedDesk$Entries" "keys" "[I") (by decide +kernel)
  have kc_22 := hts (.constantLong RX0 22 (1099511627776)) (by decide +kernel)
  have hP : va_P D vwCl [(aE, .inr (0, [.ref aK, .ref aV, .int (nI c)])), (aK, .inl (cy, 512, .inl k)), (aV, .inl (cy, 512, .inl v))] s.heap := hP
  refine lv_iload_n hx hb dX0_keyAt_0 rfl (lv_at hl 1 rfl) ?_
  refine lv_if_lt (tgt := 22) hx hb dX0_keyAt_1 (by decide) (fun h1 => ?_) (fun h1 => ?_)
  · have hz : kW k x.toInt 0 c = NO := kW_no (by rw [Int32.lt_iff_toInt_lt, Int32.toInt_zero] at h1; omega)
    refine lv_ldc2 hx hb hown kc_22 dX0_keyAt_22 ?_
    exact ret_l hx hb hr hlocks dX0_keyAt_25 (by rw [hz])
  · refine lv_iload_n hx hb dX0_keyAt_4 rfl (lv_at hl 1 rfl) ?_
    refine lv_aload_n hx hb dX0_keyAt_5 rfl (lv_at hl 0 rfl) ?_
    refine va_get (ci := 0) (v := .int (nI c)) (C := RX0) (T := TX0) (N := 3) hx hb hts hin_X0 hown hK hP 0 rfl rfl 2 (by decide) kf_18 (fun _ h9 => h9) rfl dX0_keyAt_6 ?_
    refine lv_icmp_ge (tgt := 22) hx hb dX0_keyAt_9 (by decide) (fun h9 => ?_) (fun h9 => ?_)
    · have hz : kW k x.toInt 0 c = NO := kW_no (by rw [Int32.le_iff_toInt_le, nI_toInt (by omega)] at h9; omega)
      refine lv_ldc2 hx hb hown kc_22 dX0_keyAt_22 ?_
      exact ret_l hx hb hr hlocks dX0_keyAt_25 (by rw [hz])
    · obtain ⟨j, hj, rfl⟩ : ∃ j : Nat, j < c ∧ x = nI j := by obtain ⟨j, h1, h2, -⟩ := pk_mu h1 h9 (by omega); exact ⟨j, h1, h2⟩
      have hz : kW k (nI j).toInt 0 c = (k j).toInt64 := by rw [nI_toInt (by omega)]; exact kW_yes (by omega) hj
      refine lv_aload_n hx hb dX0_keyAt_12 rfl (lv_at hl 0 rfl) ?_
      refine va_get (ci := 0) (v := .ref aK) (C := RX0) (T := TX0) (N := 3) hx hb hts hin_X0 hown hK hP 0 rfl rfl 0 (by decide) kf_9 (fun _ h9 => h9) rfl dX0_keyAt_13 ?_
      refine lv_iload_n hx hb dX0_keyAt_16 rfl (lv_at hl 1 rfl) ?_
      refine a_ld hx hb hK hP 1 0 rfl rfl (by omega) (by decide) dX0_keyAt_17 ?_
      refine lv_i2l hx hb dX0_keyAt_18 rfl ?_
      refine lv_goto (tgt := 25) hx hb dX0_keyAt_19 (by decide) ?_
      exact ret_l hx hb hr hlocks dX0_keyAt_25 (by rw [hz])

set_option maxHeartbeats 4000000 in
set_option maxRecDepth 100000 in
/-- isAt(place, key) -/
theorem c_X0_isAt (l : Launch) (D : va_G) (cy : ClassId) (aE aK aV : Nat) (k v : Nat → Int32) (c : Nat) (hc : c ≤ 512) (j : Nat) (hj : j ≤ 512) (x : Int32) : Met l yX0_isAt wsX0_isAt ({ frames := 0, cells := 0, slots := 0, locals := 0 } : Room) (pcW D [(cy, .int)] [.ref aE, .int (nI j), .int x] [(aE, .inr (0, [.ref aK, .ref aV, .int (nI c)])), (aK, .inl (cy, 512, .inl k)), (aV, .inl (cy, 512, .inl v))]) (qR (.int (bI (atK k c j x)))) 0 0 (fun _ => False) := by
  refine met_W (cc := cX0_isAt) (maxL := 3) (ret := (some .boolean)) (by decide +kernel) rfl (Nat.le_of_ble_eq_true rfl) ?_
  intro pM eM s mM below meth cM ls hx hb hr hts hown hlocks hml hnm hK hP hl
  have hown : s.vm.findClass RX0 = some mM.cls := hown
  have hl : lv_has ls 3 [(0, .ref aE), (1, .int (nI j)), (2, .int x)] := hl
  have hin_X0 : ∀ w ∈ wsX00, w ∈ wsX0_isAt := by decide +kernel
  have kf_18 := hts (.fieldLink RX0 18 "OrderedDesk$Entries" "count" "I") (by decide +kernel)
  have kf_9 := hts (.fieldLink RX0 9 "OrderedDesk$Entries" "keys" "[I") (by decide +kernel)
  have hP : va_P D vwCl [(aE, .inr (0, [.ref aK, .ref aV, .int (nI c)])), (aK, .inl (cy, 512, .inl k)), (aV, .inl (cy, 512, .inl v))] s.heap := hP
  refine lv_iload_n hx hb dX0_isAt_0 rfl (lv_at hl 1 rfl) ?_
  refine lv_aload_n hx hb dX0_isAt_1 rfl (lv_at hl 0 rfl) ?_
  refine va_get (ci := 0) (v := .int (nI c)) (C := RX0) (T := TX0) (N := 3) hx hb hts hin_X0 hown hK hP 0 rfl rfl 2 (by decide) kf_18 (fun _ h9 => h9) rfl dX0_isAt_2 ?_
  refine n_ge (tgt := 22) (by omega) (by omega) hx hb dX0_isAt_5 (by decide) (fun h5 => ?_) (fun h5 => ?_)
  · have hz : atK k c j x = false := by simp [atK, Nat.not_lt.mpr h5]
    refine lv_iconst (v := bI false) hx hb dX0_isAt_22 (by decide) ?_
    exact ret_z hx hb hr hlocks dX0_isAt_23 (by rw [hz])
  · refine lv_aload_n hx hb dX0_isAt_8 rfl (lv_at hl 0 rfl) ?_
    refine va_get (ci := 0) (v := .ref aK) (C := RX0) (T := TX0) (N := 3) hx hb hts hin_X0 hown hK hP 0 rfl rfl 0 (by decide) kf_9 (fun _ h9 => h9) rfl dX0_isAt_9 ?_
    refine lv_iload_n hx hb dX0_isAt_12 rfl (lv_at hl 1 rfl) ?_
    refine a_ld hx hb hK hP 1 0 rfl rfl (by omega) (by decide) dX0_isAt_13 ?_
    refine lv_iload_n hx hb dX0_isAt_14 rfl (lv_at hl 2 rfl) ?_
    refine lv_icmp_ne (tgt := 22) hx hb dX0_isAt_15 (by decide) (fun h15 => ?_) (fun h15 => ?_)
    · have hz : atK k c j x = false := by simp [atK, h15]
      refine lv_iconst (v := bI false) hx hb dX0_isAt_22 (by decide) ?_
      exact ret_z hx hb hr hlocks dX0_isAt_23 (by rw [hz])
    · have hz : atK k c j x = true := by simp [atK, h5, h15]
      refine lv_iconst (v := bI true) hx hb dX0_isAt_18 (by decide) ?_
      refine lv_goto (tgt := 23) hx hb dX0_isAt_19 (by decide) ?_
      exact ret_z hx hb hr hlocks dX0_isAt_23 (by rw [hz])

set_option maxHeartbeats 4000000 in
set_option maxRecDepth 100000 in
/-- valueOf(key) -/
theorem c_X0_valueOf (l : Launch) (D : va_G) (cy : ClassId) (aE aK aV : Nat) (k v : Nat → Int32) (c : Nat) (hc : c ≤ 512) (x : Int32) : Met l yX0_valueOf wsX0_valueOf ({ frames := 1, cells := 0, slots := 0, locals := 23 } : Room) (pcW D [(cy, .int)] [.ref aE, .int x] [(aE, .inr (0, [.ref aK, .ref aV, .int (nI c)])), (aK, .inl (cy, 512, .inl k)), (aV, .inl (cy, 512, .inl v))]) (qR (.long (vOf k v c x))) 0 0 (fun _ => False) := by
  refine met_W (cc := cX0_valueOf) (maxL := 3) (ret := (some .long)) (by decide +kernel) rfl (Nat.le_of_ble_eq_true rfl) ?_
  intro pM eM s mM below meth cM ls hx hb hr hts hown hlocks hml hnm hK hP hl
  have hown : s.vm.findClass RX0 = some mM.cls := hown
  have hl : lv_has ls 3 [(0, .ref aE), (1, .int x)] := hl
  have hin_X0 : ∀ w ∈ wsX00, w ∈ wsX0_valueOf := by decide +kernel
  have kf_15 := hts (.fieldLink RX0 15 "OrderedDesk$Entries" "values" "[I") (by decide +kernel)
  have kc_22 := hts (.constantLong RX0 22 (1099511627776)) (by decide +kernel)
  have hP : va_P D vwCl [(aE, .inr (0, [.ref aK, .ref aV, .int (nI c)])), (aK, .inl (cy, 512, .inl k)), (aV, .inl (cy, 512, .inl v))] s.heap := hP
  have hpl := plc_le k c x.toInt64
  refine lv_aload_n hx hb dX0_valueOf_0 rfl (lv_at hl 0 rfl) ?_
  refine lv_iload_n hx hb dX0_valueOf_1 rfl (lv_at hl 1 rfl) ?_
  refine lv_i2l hx hb dX0_valueOf_2 rfl ?_
  refine go_R (va_runV (As := [.long x.toInt64]) (rest := []) ⟨hx, hb, hml, hown, hts⟩ (c_X0_placeOf l D cy aE aK aV k v c (by omega) x.toInt64) (cwV 1 hts gX0_valueOf_X0_placeOf rfl rfl rfl (by decide +kernel) ⟨(Nat.le_of_ble_eq_true rfl), (Nat.le_of_ble_eq_true rfl)⟩) (preV_W hK (hP.sub [0, 1, 2] rfl) 0 0 rfl rfl) rfl rfl hl.1 rfl (lv_room (by decide)) dX0_valueOf_3 ⟨(Nat.le_of_ble_eq_true rfl), (Nat.le_of_ble_eq_true rfl)⟩) ?_
  refine lv_istore_n (lv' := [(2, .int (nI (plc k c x.toInt64))), (0, .ref aE), (1, .int x)]) hx hb dX0_valueOf_6 rfl hl (by decide) rfl (fun ls hl => ?_)
  refine lv_aload_n hx hb dX0_valueOf_7 rfl (lv_at hl 1 rfl) ?_
  refine lv_iload_n hx hb dX0_valueOf_8 rfl (lv_at hl 0 rfl) ?_
  refine lv_iload_n hx hb dX0_valueOf_9 rfl (lv_at hl 2 rfl) ?_
  refine go_R (va_runV (As := [.int (nI (plc k c x.toInt64)), .int x]) (rest := []) ⟨hx, hb, hml, hown, hts⟩ (c_X0_isAt l D cy aE aK aV k v c (by omega) (plc k c x.toInt64) (by omega) x) (cwV 2 hts gX0_valueOf_X0_isAt rfl rfl rfl (by decide +kernel) ⟨(Nat.le_of_ble_eq_true rfl), (Nat.le_of_ble_eq_true rfl)⟩) (preV_W hK (hP.sub [0, 1, 2] rfl) 0 0 rfl rfl) rfl rfl hl.1 rfl (lv_room (by decide)) dX0_valueOf_10 ⟨(Nat.le_of_ble_eq_true rfl), (Nat.le_of_ble_eq_true rfl)⟩) ?_
  refine b_eq (tgt := 26) hx hb dX0_valueOf_13 (by decide) (fun h13 => ?_) (fun h13 => ?_)
  · have hz : vOf k v c x = NO := by unfold vOf; rw [if_neg (by rw [h13]; decide)]
    refine lv_ldc2 hx hb hown kc_22 dX0_valueOf_26 ?_
    exact ret_l hx hb hr hlocks dX0_valueOf_29 (by rw [hz])
  · have hz : vOf k v c x = (v (plc k c x.toInt64)).toInt64 := by unfold vOf; rw [if_pos h13]
    refine lv_aload_n hx hb dX0_valueOf_16 rfl (lv_at hl 1 rfl) ?_
    refine va_get (ci := 0) (v := .ref aV) (C := RX0) (T := TX0) (N := 3) hx hb hts hin_X0 hown hK hP 0 rfl rfl 1 (by decide) kf_15 (fun _ h9 => h9) rfl dX0_valueOf_17 ?_
    refine lv_iload_n hx hb dX0_valueOf_20 rfl (lv_at hl 0 rfl) ?_
    refine a_ld hx hb hK hP 2 0 rfl rfl (by have := atK_lt h13; omega) (by decide) dX0_valueOf_21 ?_
    refine lv_i2l hx hb dX0_valueOf_22 rfl ?_
    refine lv_goto (tgt := 29) hx hb dX0_valueOf_23 (by decide) ?_
    exact ret_l hx hb hr hlocks dX0_valueOf_29 (by rw [hz])

set_option maxHeartbeats 4000000 in
set_option maxRecDepth 100000 in
/-- holdsValue(value) -/
theorem c_X0_holdsValue (l : Launch) (D : va_G) (cy : ClassId) (aE aK aV : Nat) (k v : Nat → Int32) (c : Nat) (hc : c ≤ 512) (x : Int32) : Met l yX0_holdsValue wsX0_holdsValue ({ frames := 0, cells := 0, slots := 0, locals := 0 } : Room) (pcW D [(cy, .int)] [.ref aE, .int x] [(aE, .inr (0, [.ref aK, .ref aV, .int (nI c)])), (aK, .inl (cy, 512, .inl k)), (aV, .inl (cy, 512, .inl v))]) (qR (.int (bI (hasV v c x)))) 0 0 (fun _ => False) := by
  refine met_W (cc := cX0_holdsValue) (maxL := 3) (ret := (some .boolean)) (by decide +kernel) rfl (Nat.le_of_ble_eq_true rfl) ?_
  intro pM eM s mM below meth cM ls hx hb hr hts hown hlocks hml hnm hK hP hl
  have hown : s.vm.findClass RX0 = some mM.cls := hown
  have hl : lv_has ls 3 [(0, .ref aE), (1, .int x)] := hl
  have hin_X0 : ∀ w ∈ wsX00, w ∈ wsX0_holdsValue := by decide +kernel
  have kf_15 := hts (.fieldLink RX0 15 "OrderedDesk$Entries" "values" "[I") (by decide +kernel)
  have kf_18 := hts (.fieldLink RX0 18 "OrderedDesk$Entries" "count" "I") (by decide +kernel)
  have hP : va_P D vwCl [(aE, .inr (0, [.ref aK, .ref aV, .int (nI c)])), (aK, .inl (cy, 512, .inl k)), (aV, .inl (cy, 512, .inl v))] s.heap := hP
  refine lv_iconst (v := nI 0) hx hb dX0_holdsValue_0 (by decide) ?_
  refine lv_istore_n (lv' := [(2, .int (nI 0)), (0, .ref aE), (1, .int x)]) hx hb dX0_holdsValue_1 rfl hl (by decide) rfl (fun ls hl => ?_)
  refine W_loopR (I := fun (i : Nat) (ls : Array Slot) => lv_has ls 3 [(0, .ref aE), (1, .int x), (2, .int (nI i))] ∧ i ≤ c ∧ pf (fun j => !decide (v j = x)) c 0 = pf (fun j => !decide (v j = x)) (c - i) i) (μ := fun i => c - i) (fun i ls h ih => ?_) 0 ⟨lv_sub hl [1, 2, 0] rfl, Nat.zero_le _, rfl⟩
  obtain ⟨hl, hi, hv⟩ := h
  refine lv_iload_n hx hb dX0_holdsValue_2 rfl (lv_at hl 2 rfl) ?_
  refine lv_aload_n hx hb dX0_holdsValue_3 rfl (lv_at hl 0 rfl) ?_
  refine va_get (ci := 0) (v := .int (nI c)) (C := RX0) (T := TX0) (N := 3) hx hb hts hin_X0 hown hK hP 0 rfl rfl 2 (by decide) kf_18 (fun _ h9 => h9) rfl dX0_holdsValue_4 ?_
  refine n_ge (tgt := 28) (by omega) (by omega) hx hb dX0_holdsValue_7 (by decide) (fun h7 => ?_) (fun h7 => ?_)
  · have hz : hasV v c x = false := by unfold hasV; rw [hv, pf_e h7]; simp; omega
    refine lv_iconst (v := bI false) hx hb dX0_holdsValue_28 (by decide) ?_
    exact ret_z hx hb hr hlocks dX0_holdsValue_29 (by rw [hz])
  · refine lv_aload_n hx hb dX0_holdsValue_10 rfl (lv_at hl 0 rfl) ?_
    refine va_get (ci := 0) (v := .ref aV) (C := RX0) (T := TX0) (N := 3) hx hb hts hin_X0 hown hK hP 0 rfl rfl 1 (by decide) kf_15 (fun _ h9 => h9) rfl dX0_holdsValue_11 ?_
    refine lv_iload_n hx hb dX0_holdsValue_14 rfl (lv_at hl 2 rfl) ?_
    refine a_ld hx hb hK hP 2 0 rfl rfl (by omega) (by decide) dX0_holdsValue_15 ?_
    refine lv_iload_n hx hb dX0_holdsValue_16 rfl (lv_at hl 1 rfl) ?_
    refine lv_icmp_ne (tgt := 22) hx hb dX0_holdsValue_17 (by decide) (fun h17 => ?_) (fun h17 => ?_)
    · refine lv_iinc (v := nI (i + 1)) (lv' := [(2, .int (nI (i + 1))), (0, .ref aE), (1, .int x)]) hx hb dX0_holdsValue_22 hl (k := 2) rfl (by first | exact nI_1 _ | exact nI_add _ _) (by decide) rfl (fun ls hl => ?_)
      refine lv_goto (tgt := 2) hx hb dX0_holdsValue_25 (by decide) ?_
      exact ih (i + 1) _ (by omega) ⟨lv_sub hl [1, 2, 0] rfl, by omega, by rw [hv, pf_t h7 (by simpa using h17)]⟩
    · have hz : hasV v c x = true := by unfold hasV; rw [hv, pf_f (by simpa using h17)]; simp; omega
      refine lv_iconst (v := bI true) hx hb dX0_holdsValue_20 (by decide) ?_
      exact ret_z hx hb hr hlocks dX0_holdsValue_21 (by rw [hz])

set_option maxHeartbeats 4000000 in
set_option maxRecDepth 100000 in
/-- insert(place, key, value) -/
theorem c_X0_insert (l : Launch) (D : va_G) (cy : ClassId) (aE aK aV : Nat) (k v : Nat → Int32) (c : Nat) (hc : c ≤ 512) (nd : ([aE, aK, aV] : List Nat).Nodup) (sz : Nat) (j : Nat) (hj : j ≤ c) (hc2 : c < 512) (x y : Int32) : Met l yX0_insert wsX0_insert ({ frames := 0, cells := 0, slots := 0, locals := 0 } : Room) (pcZ D [(cy, .int)] [.ref aE, .int (nI j), .int x, .int y] [(aE, .inr (0, [.ref aK, .ref aV, .int (nI c)])), (aK, .inl (cy, 512, .inl k)), (aV, .inl (cy, 512, .inl v))] sz) (qM none (fun H => va_P D vwCl (eW cy aE aK aV (insA k j c x) (insA v j c y) (c + 1)) H) (mA [aE, aK, aV] sz)) 0 0 (mA [aE, aK, aV] sz) := by
  refine met_Z (cc := cX0_insert) (maxL := 5) (ret := none) (by decide +kernel) rfl (Nat.le_of_ble_eq_true rfl) ?_
  intro pM eM s mM below meth cM ls hx hb hr hts hown hlocks hml hnm hsz hK hP hl
  have hown : s.vm.findClass RX0 = some mM.cls := hown
  have hl : lv_has ls 5 [(0, .ref aE), (1, .int (nI j)), (2, .int x), (3, .int y)] := hl
  have hin_X0 : ∀ w ∈ wsX00, w ∈ wsX0_insert := by decide +kernel
  have kf_15 := hts (.fieldLink RX0 15 "OrderedDesk$Entries" "values" "[I") (by decide +kernel)
  have kf_18 := hts (.fieldLink RX0 18 "OrderedDesk$Entries" "count" "I") (by decide +kernel)
  have kf_9 := hts (.fieldLink RX0 9 "OrderedDesk$Entries" "keys" "[I") (by decide +kernel)
  have hP : va_P D vwCl [(aE, .inr (0, [.ref aK, .ref aV, .int (nI c)])), (aK, .inl (cy, 512, .inl k)), (aV, .inl (cy, 512, .inl v))] s.heap := hP
  subst hsz
  have ndw := nd
  have hA : ∀ q : Nat, s.heap.size ≤ q → mA [aE, aK, aV] s.heap.size q := fun q h => Or.inr h
  have hAw : ∀ q ∈ ([aE, aK, aV] : List Nat), mA [aE, aK, aV] s.heap.size q := fun q h => Or.inl h
  have hS : va_S (mA [aE, aK, aV] s.heap.size) s.heap s.heap [] := va_S.rf
  have hD : va_D (mA [aE, aK, aV] s.heap.size) [(aE, .inr (0, [.ref aK, .ref aV, .int (nI c)])), (aK, .inl (cy, 512, .inl k)), (aV, .inl (cy, 512, .inl v))] := D_of ndw hAw
  simp only [List.nodup_cons, List.mem_cons, List.not_mem_nil, or_false, not_or, not_false_eq_true, List.nodup_nil, and_true] at nd
  refine lv_aload_n hx hb dX0_insert_0 rfl (lv_at hl 0 rfl) ?_
  refine va_get (ci := 0) (v := .int (nI c)) (C := RX0) (T := TX0) (N := 3) hx hb hts hin_X0 hown hK hP 0 rfl rfl 2 (by decide) kf_18 (fun _ h9 => h9) rfl dX0_insert_1 ?_
  refine lv_sipush (v := nI 512) hx hb dX0_insert_4 (by decide) ?_
  refine n_lt (tgt := 11) (by omega) (by omega) hx hb dX0_insert_7 (by decide) (fun h7 => ?_) (fun h7 => ?_)
  · refine lv_aload_n hx hb dX0_insert_11 rfl (lv_at hl 0 rfl) ?_
    refine va_get (ci := 0) (v := .int (nI c)) (C := RX0) (T := TX0) (N := 3) hx hb hts hin_X0 hown hK hP 0 rfl rfl 2 (by decide) kf_18 (fun _ h9 => h9) rfl dX0_insert_12 ?_
    refine lv_istore (lv' := [(4, .int (nI c)), (0, .ref aE), (1, .int (nI j)), (2, .int x), (3, .int y)]) hx hb dX0_insert_15 hl (by decide) rfl (fun ls hl => ?_)
    refine W_loop (I := fun (i : Nat) (H : Heap) (locs : List Loc) (ls : Array Slot) => lv_has ls 5 [(0, .ref aE), (1, .int (nI j)), (2, .int x), (3, .int y), (4, .int (nI i))] ∧ va_P D vwCl [(aE, .inr (0, [.ref aK, .ref aV, .int (nI c)])), (aK, .inl (cy, 512, .inl (shA k i c))), (aV, .inl (cy, 512, .inl (shA v i c)))] H ∧ va_S (mA [aE, aK, aV] s.heap.size) s.heap H locs ∧ i ≤ c ∧ j ≤ i) (μ := fun i => i) (fun i H locs ls h ih => ?_) c ⟨lv_sub hl [1, 2, 3, 4, 0] rfl, by rw [shA_c, shA_c]; exact hP, hS, Nat.le_refl _, hj⟩
    obtain ⟨hl, hP, hS, hi, hji⟩ := h
    have hD : va_D (mA [aE, aK, aV] s.heap.size) [(aE, .inr (0, [.ref aK, .ref aV, .int (nI c)])), (aK, .inl (cy, 512, .inl (shA k i c))), (aV, .inl (cy, 512, .inl (shA v i c)))] := D_of ndw hAw
    refine lv_iload hx hb dX0_insert_17 (lv_at hl 4 rfl) ?_
    refine lv_iload_n hx hb dX0_insert_19 rfl (lv_at hl 1 rfl) ?_
    refine n_le (tgt := 61) (by omega) (by omega) hx hb dX0_insert_20 (by decide) (fun h20 => ?_) (fun h20 => ?_)
    · have hij : i = j := by omega
      refine lv_aload_n hx hb dX0_insert_61 rfl (lv_at hl 0 rfl) ?_
      refine va_get (ci := 0) (v := .ref aK) (C := RX0) (T := TX0) (N := 3) hx hb hts hin_X0 hown hK hP 0 rfl rfl 0 (by decide) kf_9 (fun _ h9 => h9) rfl dX0_insert_62 ?_
      refine lv_iload_n hx hb dX0_insert_65 rfl (lv_at hl 1 rfl) ?_
      refine lv_iload_n hx hb dX0_insert_66 rfl (lv_at hl 2 rfl) ?_
      refine a_st hx hb hK hP hD hS 1 0 rfl rfl (by omega) (by decide) dX0_insert_67 (fun H locs hP hD hS => ?_)
      have hP : va_P D vwCl [(aE, .inr (0, [.ref aK, .ref aV, .int (nI c)])), (aK, .inl (cy, 512, .inl (upd (shA k i c) j x))), (aV, .inl (cy, 512, .inl (shA v i c)))] H := hP
      have hD : va_D _ [(aE, .inr (0, [.ref aK, .ref aV, .int (nI c)])), (aK, .inl (cy, 512, .inl (upd (shA k i c) j x))), (aV, .inl (cy, 512, .inl (shA v i c)))] := hD
      refine lv_aload_n hx hb dX0_insert_68 rfl (lv_at hl 0 rfl) ?_
      refine va_get (ci := 0) (v := .ref aV) (C := RX0) (T := TX0) (N := 3) hx hb hts hin_X0 hown hK hP 0 rfl rfl 1 (by decide) kf_15 (fun _ h9 => h9) rfl dX0_insert_69 ?_
      refine lv_iload_n hx hb dX0_insert_72 rfl (lv_at hl 1 rfl) ?_
      refine lv_iload_n hx hb dX0_insert_73 rfl (lv_at hl 3 rfl) ?_
      refine a_st hx hb hK hP hD hS 2 0 rfl rfl (by omega) (by decide) dX0_insert_74 (fun H locs hP hD hS => ?_)
      have hP : va_P D vwCl [(aE, .inr (0, [.ref aK, .ref aV, .int (nI c)])), (aK, .inl (cy, 512, .inl (upd (shA k i c) j x))), (aV, .inl (cy, 512, .inl (upd (shA v i c) j y)))] H := hP
      have hD : va_D _ [(aE, .inr (0, [.ref aK, .ref aV, .int (nI c)])), (aK, .inl (cy, 512, .inl (upd (shA k i c) j x))), (aV, .inl (cy, 512, .inl (upd (shA v i c) j y)))] := hD
      refine lv_aload_n hx hb dX0_insert_75 rfl (lv_at hl 0 rfl) ?_
      refine lv_dup hx hb dX0_insert_76 rfl ?_
      refine va_get (ci := 0) (v := .int (nI c)) (C := RX0) (T := TX0) (N := 3) hx hb hts hin_X0 hown hK hP 0 rfl rfl 2 (by decide) kf_18 (fun _ h9 => h9) rfl dX0_insert_77 ?_
      refine lv_iconst (v := nI 1) hx hb dX0_insert_80 (by decide) ?_
      refine lv_iadd hx hb dX0_insert_81 ?_
      refine top_i (y := nI (c + 1)) (nI_add _ _) ?_
      refine va_put (ci := 0) (v := .int (nI (c + 1))) (ty := .int) (C := RX0) (T := TX0) (N := 3) hx hb hts hin_X0 tyX0 tyX0_ok nmX0 hown hK hP hD hS 0 rfl rfl 2 (by decide) kf_18 (fun _ h9 => h9) rfl (by decide +kernel) rfl rfl (Nat.le_of_ble_eq_true rfl) dX0_insert_82 (fun H locs hP hD hS => ?_)
      have hP : va_P D vwCl [(aE, .inr (0, [.ref aK, .ref aV, .int (nI (c + 1))])), (aK, .inl (cy, 512, .inl (upd (shA k i c) j x))), (aV, .inl (cy, 512, .inl (upd (shA v i c) j y)))] H := hP
      have hD : va_D _ [(aE, .inr (0, [.ref aK, .ref aV, .int (nI (c + 1))])), (aK, .inl (cy, 512, .inl (upd (shA k i c) j x))), (aV, .inl (cy, 512, .inl (upd (shA v i c) j y)))] := hD
      exact ret_vM hx hb hr hlocks dX0_insert_85 hS (by rw [hij, upd_sh, upd_sh] at hP; exact hP)
    · refine lv_aload_n hx hb dX0_insert_23 rfl (lv_at hl 0 rfl) ?_
      refine va_get (ci := 0) (v := .ref aK) (C := RX0) (T := TX0) (N := 3) hx hb hts hin_X0 hown hK hP 0 rfl rfl 0 (by decide) kf_9 (fun _ h9 => h9) rfl dX0_insert_24 ?_
      refine lv_iload hx hb dX0_insert_27 (lv_at hl 4 rfl) ?_
      refine lv_aload_n hx hb dX0_insert_29 rfl (lv_at hl 0 rfl) ?_
      refine va_get (ci := 0) (v := .ref aK) (C := RX0) (T := TX0) (N := 3) hx hb hts hin_X0 hown hK hP 0 rfl rfl 0 (by decide) kf_9 (fun _ h9 => h9) rfl dX0_insert_30 ?_
      refine lv_iload hx hb dX0_insert_33 (lv_at hl 4 rfl) ?_
      refine lv_iconst (v := nI 1) hx hb dX0_insert_35 (by decide) ?_
      refine lv_isub hx hb dX0_insert_36 ?_
      refine top_i (y := nI (i - 1)) (pk_sub (by omega)) ?_
      refine a_ld hx hb hK hP 1 0 rfl rfl (by omega) (by decide) dX0_insert_37 ?_
      refine a_st hx hb hK hP hD hS 1 0 rfl rfl (by omega) (by decide) dX0_insert_38 (fun H locs hP hD hS => ?_)
      have hP : va_P D vwCl [(aE, .inr (0, [.ref aK, .ref aV, .int (nI c)])), (aK, .inl (cy, 512, .inl (upd (shA k i c) i ((shA k i c) (i - 1))))), (aV, .inl (cy, 512, .inl (shA v i c)))] H := hP
      have hD : va_D _ [(aE, .inr (0, [.ref aK, .ref aV, .int (nI c)])), (aK, .inl (cy, 512, .inl (upd (shA k i c) i ((shA k i c) (i - 1))))), (aV, .inl (cy, 512, .inl (shA v i c)))] := hD
      refine lv_aload_n hx hb dX0_insert_39 rfl (lv_at hl 0 rfl) ?_
      refine va_get (ci := 0) (v := .ref aV) (C := RX0) (T := TX0) (N := 3) hx hb hts hin_X0 hown hK hP 0 rfl rfl 1 (by decide) kf_15 (fun _ h9 => h9) rfl dX0_insert_40 ?_
      refine lv_iload hx hb dX0_insert_43 (lv_at hl 4 rfl) ?_
      refine lv_aload_n hx hb dX0_insert_45 rfl (lv_at hl 0 rfl) ?_
      refine va_get (ci := 0) (v := .ref aV) (C := RX0) (T := TX0) (N := 3) hx hb hts hin_X0 hown hK hP 0 rfl rfl 1 (by decide) kf_15 (fun _ h9 => h9) rfl dX0_insert_46 ?_
      refine lv_iload hx hb dX0_insert_49 (lv_at hl 4 rfl) ?_
      refine lv_iconst (v := nI 1) hx hb dX0_insert_51 (by decide) ?_
      refine lv_isub hx hb dX0_insert_52 ?_
      refine top_i (y := nI (i - 1)) (pk_sub (by omega)) ?_
      refine a_ld hx hb hK hP 2 0 rfl rfl (by omega) (by decide) dX0_insert_53 ?_
      refine a_st hx hb hK hP hD hS 2 0 rfl rfl (by omega) (by decide) dX0_insert_54 (fun H locs hP hD hS => ?_)
      have hP : va_P D vwCl [(aE, .inr (0, [.ref aK, .ref aV, .int (nI c)])), (aK, .inl (cy, 512, .inl (upd (shA k i c) i ((shA k i c) (i - 1))))), (aV, .inl (cy, 512, .inl (upd (shA v i c) i ((shA v i c) (i - 1)))))] H := hP
      have hD : va_D _ [(aE, .inr (0, [.ref aK, .ref aV, .int (nI c)])), (aK, .inl (cy, 512, .inl (upd (shA k i c) i ((shA k i c) (i - 1))))), (aV, .inl (cy, 512, .inl (upd (shA v i c) i ((shA v i c) (i - 1)))))] := hD
      refine lv_iinc (v := nI (i - 1)) (lv' := [(4, .int (nI (i - 1))), (0, .ref aE), (1, .int (nI j)), (2, .int x), (3, .int y)]) hx hb dX0_insert_55 hl (k := 4) rfl (sb_m1 (by omega)) (by decide) rfl (fun ls hl => ?_)
      refine lv_goto (tgt := 17) hx hb dX0_insert_58 (by decide) ?_
      exact ih (i - 1) _ _ _ (by omega) ⟨lv_sub hl [1, 2, 3, 4, 0] rfl, by rw [← shA_s k (by omega) hi, ← shA_s v (by omega) hi]; exact hP, hS, by omega, by omega⟩
  · exact absurd h7 (by omega)

set_option maxHeartbeats 4000000 in
set_option maxRecDepth 100000 in
/-- store(key, value) -/
theorem c_X0_store (l : Launch) (D : va_G) (cy : ClassId) (aE aK aV : Nat) (k v : Nat → Int32) (c : Nat) (hc : c ≤ 512) (nd : ([aE, aK, aV] : List Nat).Nodup) (sz : Nat) (hc2 : c < 512) (x y : Int32) : Met l yX0_store wsX0_store ({ frames := 1, cells := 0, slots := 0, locals := 24 } : Room) (pcZ D [(cy, .int)] [.ref aE, .int x, .int y] [(aE, .inr (0, [.ref aK, .ref aV, .int (nI c)])), (aK, .inl (cy, 512, .inl k)), (aV, .inl (cy, 512, .inl v))] sz) (qM (some (.long (vOf k v c x))) (fun H => va_P D vwCl (eW cy aE aK aV (stK k c x) (stV k v c x y) (stC k c x)) H) (mA [aE, aK, aV] sz)) 0 0 (mA [aE, aK, aV] sz) := by
  refine met_Z (cc := cX0_store) (maxL := 6) (ret := (some .long)) (by decide +kernel) rfl (Nat.le_of_ble_eq_true rfl) ?_
  intro pM eM s mM below meth cM ls hx hb hr hts hown hlocks hml hnm hsz hK hP hl
  have hown : s.vm.findClass RX0 = some mM.cls := hown
  have hl : lv_has ls 6 [(0, .ref aE), (1, .int x), (2, .int y)] := hl
  have hin_X0 : ∀ w ∈ wsX00, w ∈ wsX0_store := by decide +kernel
  have kf_15 := hts (.fieldLink RX0 15 "OrderedDesk$Entries" "values" "[I") (by decide +kernel)
  have kc_22 := hts (.constantLong RX0 22 (1099511627776)) (by decide +kernel)
  have hP : va_P D vwCl [(aE, .inr (0, [.ref aK, .ref aV, .int (nI c)])), (aK, .inl (cy, 512, .inl k)), (aV, .inl (cy, 512, .inl v))] s.heap := hP
  subst hsz
  have ndw := nd
  have hA : ∀ q : Nat, s.heap.size ≤ q → mA [aE, aK, aV] s.heap.size q := fun q h => Or.inr h
  have hAw : ∀ q ∈ ([aE, aK, aV] : List Nat), mA [aE, aK, aV] s.heap.size q := fun q h => Or.inl h
  have hS : va_S (mA [aE, aK, aV] s.heap.size) s.heap s.heap [] := va_S.rf
  have hD : va_D (mA [aE, aK, aV] s.heap.size) [(aE, .inr (0, [.ref aK, .ref aV, .int (nI c)])), (aK, .inl (cy, 512, .inl k)), (aV, .inl (cy, 512, .inl v))] := D_of ndw hAw
  simp only [List.nodup_cons, List.mem_cons, List.not_mem_nil, or_false, not_or, not_false_eq_true, List.nodup_nil, and_true] at nd
  have hpl := plc_le k c x.toInt64
  refine lv_aload_n hx hb dX0_store_0 rfl (lv_at hl 0 rfl) ?_
  refine lv_iload_n hx hb dX0_store_1 rfl (lv_at hl 1 rfl) ?_
  refine lv_i2l hx hb dX0_store_2 rfl ?_
  refine go_R (va_runV (As := [.long x.toInt64]) (rest := []) ⟨hx, hb, hml, hown, hts⟩ (c_X0_placeOf l D cy aE aK aV k v c (by omega) x.toInt64) (cwV 1 hts gX0_store_X0_placeOf rfl rfl rfl (by decide +kernel) ⟨(Nat.le_of_ble_eq_true rfl), (Nat.le_of_ble_eq_true rfl)⟩) (preV_W hK (hP.sub [0, 1, 2] rfl) 0 0 rfl rfl) rfl rfl hl.1 rfl (lv_room (by decide)) dX0_store_3 ⟨(Nat.le_of_ble_eq_true rfl), (Nat.le_of_ble_eq_true rfl)⟩) ?_
  refine lv_istore_n (lv' := [(3, .int (nI (plc k c x.toInt64))), (0, .ref aE), (1, .int x), (2, .int y)]) hx hb dX0_store_6 rfl hl (by decide) rfl (fun ls hl => ?_)
  refine lv_aload_n hx hb dX0_store_7 rfl (lv_at hl 1 rfl) ?_
  refine lv_iload_n hx hb dX0_store_8 rfl (lv_at hl 0 rfl) ?_
  refine lv_iload_n hx hb dX0_store_9 rfl (lv_at hl 2 rfl) ?_
  refine go_R (va_runV (As := [.int (nI (plc k c x.toInt64)), .int x]) (rest := []) ⟨hx, hb, hml, hown, hts⟩ (c_X0_isAt l D cy aE aK aV k v c (by omega) (plc k c x.toInt64) (by omega) x) (cwV 2 hts gX0_store_X0_isAt rfl rfl rfl (by decide +kernel) ⟨(Nat.le_of_ble_eq_true rfl), (Nat.le_of_ble_eq_true rfl)⟩) (preV_W hK (hP.sub [0, 1, 2] rfl) 0 0 rfl rfl) rfl rfl hl.1 rfl (lv_room (by decide)) dX0_store_10 ⟨(Nat.le_of_ble_eq_true rfl), (Nat.le_of_ble_eq_true rfl)⟩) ?_
  refine b_ne (tgt := 27) hx hb dX0_store_13 (by decide) (fun h13 => ?_) (fun h13 => ?_)
  · have hz : vOf k v c x = (v (plc k c x.toInt64)).toInt64 := by unfold vOf; rw [if_pos h13]
    have e1 : stK k c x = k := if_pos h13
    have e2 : stV k v c x y = upd v (plc k c x.toInt64) y := if_pos h13
    have e3 : stC k c x = c := if_pos h13
    refine lv_aload_n hx hb dX0_store_27 rfl (lv_at hl 1 rfl) ?_
    refine va_get (ci := 0) (v := .ref aV) (C := RX0) (T := TX0) (N := 3) hx hb hts hin_X0 hown hK hP 0 rfl rfl 1 (by decide) kf_15 (fun _ h9 => h9) rfl dX0_store_28 ?_
    refine lv_iload_n hx hb dX0_store_31 rfl (lv_at hl 0 rfl) ?_
    refine a_ld hx hb hK hP 2 0 rfl rfl (by have := atK_lt h13; omega) (by decide) dX0_store_32 ?_
    refine lv_i2l hx hb dX0_store_33 rfl ?_
    refine lv_lstore (lv' := [(4, .long ((v (plc k c x.toInt64)).toInt64)), (3, .int (nI (plc k c x.toInt64))), (0, .ref aE), (1, .int x), (2, .int y)]) hx hb dX0_store_34 hl (by decide) rfl (fun ls hl => ?_)
    refine lv_aload_n hx hb dX0_store_36 rfl (lv_at hl 2 rfl) ?_
    refine va_get (ci := 0) (v := .ref aV) (C := RX0) (T := TX0) (N := 3) hx hb hts hin_X0 hown hK hP 0 rfl rfl 1 (by decide) kf_15 (fun _ h9 => h9) rfl dX0_store_37 ?_
    refine lv_iload_n hx hb dX0_store_40 rfl (lv_at hl 1 rfl) ?_
    refine lv_iload_n hx hb dX0_store_41 rfl (lv_at hl 4 rfl) ?_
    refine a_st hx hb hK hP hD hS 2 0 rfl rfl (by have := atK_lt h13; omega) (by decide) dX0_store_42 (fun H locs hP hD hS => ?_)
    have hP : va_P D vwCl [(aE, .inr (0, [.ref aK, .ref aV, .int (nI c)])), (aK, .inl (cy, 512, .inl k)), (aV, .inl (cy, 512, .inl (upd v (plc k c x.toInt64) y)))] H := hP
    have hD : va_D _ [(aE, .inr (0, [.ref aK, .ref aV, .int (nI c)])), (aK, .inl (cy, 512, .inl k)), (aV, .inl (cy, 512, .inl (upd v (plc k c x.toInt64) y)))] := hD
    refine lv_lload hx hb dX0_store_43 (lv_at hl 0 rfl) ?_
    exact ret_lM hx hb hr hlocks dX0_store_45 hS (by rw [hz]) (by rw [e1, e2, e3]; exact hP)
  · have h13n : ¬ atK k c (plc k c x.toInt64) x = true := by rw [h13]; decide
    have hz : vOf k v c x = NO := if_neg h13n
    have e1 : stK k c x = insA k (plc k c x.toInt64) c x := if_neg h13n
    have e2 : stV k v c x y = insA v (plc k c x.toInt64) c y := if_neg h13n
    have e3 : stC k c x = c + 1 := if_neg h13n
    refine lv_aload_n hx hb dX0_store_16 rfl (lv_at hl 1 rfl) ?_
    refine lv_iload_n hx hb dX0_store_17 rfl (lv_at hl 0 rfl) ?_
    refine lv_iload_n hx hb dX0_store_18 rfl (lv_at hl 2 rfl) ?_
    refine lv_iload_n hx hb dX0_store_19 rfl (lv_at hl 3 rfl) ?_
    refine go_V (va_runV (As := [.int (nI (plc k c x.toInt64)), .int x, .int y]) (rest := []) ⟨hx, hb, hml, hown, hts⟩ (c_X0_insert l D cy aE aK aV k v c (by omega) (by simp; omega) _ (plc k c x.toInt64) (by omega) (by omega) x y) (cwV 3 hts gX0_store_X0_insert rfl rfl rfl (by decide +kernel) ⟨(Nat.le_of_ble_eq_true rfl), (Nat.le_of_ble_eq_true rfl)⟩) (preV_Z hK (hP.sub [0, 1, 2] rfl) 0 0 rfl rfl) rfl rfl hl.1 rfl (lv_room (by decide)) dX0_store_20 ⟨(Nat.le_of_ble_eq_true rfl), (Nat.le_of_ble_eq_true rfl)⟩) hS (fun q h => mA_sub [0, 1, 2] rfl hS.1 h) (fun H1 locs1 hB hzz hk hS => ?_)
    have hP : va_P D vwCl [(aE, .inr (0, [.ref aK, .ref aV, .int (nI (c + 1))])), (aK, .inl (cy, 512, .inl (insA k (plc k c x.toInt64) c x))), (aV, .inl (cy, 512, .inl (insA v (plc k c x.toInt64) c y)))] H1 := va_P.sub hB [0, 1, 2] rfl
    have hD : va_D (mA [aE, aK, aV] s.heap.size) [(aE, .inr (0, [.ref aK, .ref aV, .int (nI (c + 1))])), (aK, .inl (cy, 512, .inl (insA k (plc k c x.toInt64) c x))), (aV, .inl (cy, 512, .inl (insA v (plc k c x.toInt64) c y)))] := D_of ndw hAw
    clear hB
    generalize H1 = H at hP hS ⊢
    generalize locs1 = locs at hS ⊢
    refine lv_ldc2 hx hb hown kc_22 dX0_store_23 ?_
    exact ret_lM hx hb hr hlocks dX0_store_26 hS (by rw [hz]) (by rw [e1, e2, e3]; exact hP)

set_option maxHeartbeats 4000000 in
set_option maxRecDepth 100000 in
/-- Math.floorMod -/
theorem c_J9_floorMod_7cf53 (l : Launch) (D : va_G) (x y : Int32) (hy : ¬ y = 0) : Met l yJ9_floorMod_7cf53 wsJ9_floorMod_7cf53 ({ frames := 0, cells := 0, slots := 0, locals := 0 } : Room) (pcW D [] [.int x, .int y] []) (qR (.int (fMod x y))) 0 0 (fun _ => False) := by
  refine met_F (cc := cJ9_floorMod_7cf53) (maxL := 3) (ret := (some .int)) (by decide +kernel) rfl (Nat.le_of_ble_eq_true rfl) ?_
  intro pM eM s mM below meth cM ls hx hb hr hts hown hlocks hml hnm hK hP hl
  have hown : s.vm.findClass RJ9 = some mM.cls := hown
  have hl : lv_has ls 3 [(0, .int x), (1, .int y)] := hl
  have hP : va_P D vwCl [] s.heap := hP
  refine lv_iload_n hx hb dJ9_floorMod_7cf53_0 rfl (lv_at hl 0 rfl) ?_
  refine lv_iload_n hx hb dJ9_floorMod_7cf53_1 rfl (lv_at hl 1 rfl) ?_
  refine lv_irem hx hb dJ9_floorMod_7cf53_2 hy ?_
  refine lv_istore_n (lv' := [(2, .int (x - x / y * y)), (0, .int x), (1, .int y)]) hx hb dJ9_floorMod_7cf53_3 rfl hl (by decide) rfl (fun ls hl => ?_)
  refine lv_iload_n hx hb dJ9_floorMod_7cf53_4 rfl (lv_at hl 1 rfl) ?_
  refine lv_iload_n hx hb dJ9_floorMod_7cf53_5 rfl (lv_at hl 2 rfl) ?_
  refine lv_ixor hx hb dJ9_floorMod_7cf53_6 ?_
  refine lv_if_ge (tgt := 18) hx hb dJ9_floorMod_7cf53_7 (by decide) (fun h7 => ?_) (fun h7 => ?_)
  · have hz : fMod x y = x - x / y * y := by unfold fMod; exact if_neg (fun q => Int32.not_lt.mpr h7 q.1)
    refine lv_iload_n hx hb dJ9_floorMod_7cf53_18 rfl (lv_at hl 0 rfl) ?_
    exact ret_i hx hb hr hlocks dJ9_floorMod_7cf53_19 (by rw [hz])
  · refine lv_iload_n hx hb dJ9_floorMod_7cf53_10 rfl (lv_at hl 0 rfl) ?_
    refine lv_if_eq (tgt := 18) hx hb dJ9_floorMod_7cf53_11 (by decide) (fun h11 => ?_) (fun h11 => ?_)
    · have hz : fMod x y = x - x / y * y := by unfold fMod; exact if_neg (fun q => q.2 h11)
      refine lv_iload_n hx hb dJ9_floorMod_7cf53_18 rfl (lv_at hl 0 rfl) ?_
      exact ret_i hx hb hr hlocks dJ9_floorMod_7cf53_19 (by rw [hz])
    · have hz : fMod x y = (x - x / y * y) + y := by unfold fMod; exact if_pos ⟨Int32.not_le.mp h7, h11⟩
      refine lv_iload_n hx hb dJ9_floorMod_7cf53_14 rfl (lv_at hl 0 rfl) ?_
      refine lv_iload_n hx hb dJ9_floorMod_7cf53_15 rfl (lv_at hl 2 rfl) ?_
      refine lv_iadd hx hb dJ9_floorMod_7cf53_16 ?_
      exact ret_i hx hb hr hlocks dJ9_floorMod_7cf53_17 (by rw [hz])

set_option maxHeartbeats 4000000 in
set_option maxRecDepth 100000 in
/-- dropLeaving(step, rest, begin, end) -/
theorem c_X0_dropLeaving (l : Launch) (D : va_G) (cy : ClassId) (aE aK aV : Nat) (k v : Nat → Int32) (c : Nat) (hc : c ≤ 512) (nd : ([aE, aK, aV] : List Nat).Nodup) (sz : Nat) (step rest : Int32) (b f : Nat) (hb2 : b ≤ c) (hf2 : f ≤ 512) : Met l yX0_dropLeaving wsX0_dropLeaving ({ frames := 1, cells := 0, slots := 0, locals := 22 } : Room) (pcZ D [(cy, .int)] [.ref aE, .int step, .int rest, .int (nI b), .int (nI f)] [(aE, .inr (0, [.ref aK, .ref aV, .int (nI c)])), (aK, .inl (cy, 512, .inl k)), (aV, .inl (cy, 512, .inl v))] sz) (qM (some (.int (if step < 1 then (-1) else nI (c - (dlK step rest b f c k v).1)))) (fun H => va_P D vwCl (eW cy aE aK aV ((dlS step rest b f c k v).2.1) ((dlS step rest b f c k v).2.2) ((dlS step rest b f c k v).1)) H) (mA [aE, aK, aV] sz)) 0 0 (mA [aE, aK, aV] sz) := by
  refine met_Z (cc := cX0_dropLeaving) (maxL := 8) (ret := (some .int)) (by decide +kernel) rfl (Nat.le_of_ble_eq_true rfl) ?_
  intro pM eM s mM below meth cM ls hx hb hr hts hown hlocks hml hnm hsz hK hP hl
  have hown : s.vm.findClass RX0 = some mM.cls := hown
  have hl : lv_has ls 8 [(0, .ref aE), (1, .int step), (2, .int rest), (3, .int (nI b)), (4, .int (nI f))] := hl
  have hin_X0 : ∀ w ∈ wsX00, w ∈ wsX0_dropLeaving := by decide +kernel
  have kf_15 := hts (.fieldLink RX0 15 "OrderedDesk$Entries" "values" "[I") (by decide +kernel)
  have kf_18 := hts (.fieldLink RX0 18 "OrderedDesk$Entries" "count" "I") (by decide +kernel)
  have kf_9 := hts (.fieldLink RX0 9 "OrderedDesk$Entries" "keys" "[I") (by decide +kernel)
  have hP : va_P D vwCl [(aE, .inr (0, [.ref aK, .ref aV, .int (nI c)])), (aK, .inl (cy, 512, .inl k)), (aV, .inl (cy, 512, .inl v))] s.heap := hP
  subst hsz
  have ndw := nd
  have hA : ∀ q : Nat, s.heap.size ≤ q → mA [aE, aK, aV] s.heap.size q := fun q h => Or.inr h
  have hAw : ∀ q ∈ ([aE, aK, aV] : List Nat), mA [aE, aK, aV] s.heap.size q := fun q h => Or.inl h
  have hS : va_S (mA [aE, aK, aV] s.heap.size) s.heap s.heap [] := va_S.rf
  have hD : va_D (mA [aE, aK, aV] s.heap.size) [(aE, .inr (0, [.ref aK, .ref aV, .int (nI c)])), (aK, .inl (cy, 512, .inl k)), (aV, .inl (cy, 512, .inl v))] := D_of ndw hAw
  simp only [List.nodup_cons, List.mem_cons, List.not_mem_nil, or_false, not_or, not_false_eq_true, List.nodup_nil, and_true] at nd
  refine lv_iload_n hx hb dX0_dropLeaving_0 rfl (lv_at hl 1 rfl) ?_
  refine lv_iconst (v := 1) hx hb dX0_dropLeaving_1 (by decide) ?_
  refine lv_icmp_ge (tgt := 7) hx hb dX0_dropLeaving_2 (by decide) (fun h2 => ?_) (fun h2 => ?_)
  · have e0 : dlS step rest b f c k v = dlK step rest b f c k v := if_neg (Int32.not_lt.mpr h2)
    have hz : (if step < 1 then (-1) else nI (c - (dlK step rest b f c k v).1)) = nI (c - (dlK step rest b f c k v).1) := if_neg (Int32.not_lt.mpr h2)
    refine lv_iload_n hx hb dX0_dropLeaving_7 rfl (lv_at hl 3 rfl) ?_
    refine lv_istore (lv' := [(5, .int (nI b)), (0, .ref aE), (1, .int step), (2, .int rest), (3, .int (nI b)), (4, .int (nI f))]) hx hb dX0_dropLeaving_8 hl (by decide) rfl (fun ls hl => ?_)
    refine lv_iload_n hx hb dX0_dropLeaving_10 rfl (lv_at hl 4 rfl) ?_
    refine lv_istore (lv' := [(6, .int (nI b)), (5, .int (nI b)), (0, .ref aE), (1, .int step), (2, .int rest), (3, .int (nI b)), (4, .int (nI f))]) hx hb dX0_dropLeaving_11 hl (by decide) rfl (fun ls hl => ?_)
    refine W_loop (I := fun (i : Nat) (H : Heap) (locs : List Loc) (ls : Array Slot) => ∃ (t : Nat) (k2 : Nat → Int32) (v2 : Nat → Int32), lv_has ls 8 [(0, .ref aE), (1, .int step), (2, .int rest), (3, .int (nI b)), (4, .int (nI f)), (5, .int (nI t)), (6, .int (nI i))] ∧ va_P D vwCl [(aE, .inr (0, [.ref aK, .ref aV, .int (nI c)])), (aK, .inl (cy, 512, .inl k2)), (aV, .inl (cy, 512, .inl v2))] H ∧ va_S (mA [aE, aK, aV] s.heap.size) s.heap H locs ∧ i ≤ c ∧ b ≤ t ∧ t ≤ i ∧ dlK step rest b f c k v = clp (gLeav step rest) f (c - i) i t k2 v2) (μ := fun i => c - i) (fun i H locs ls h ih => ?_) b ⟨b, k, v, lv_sub hl [2, 3, 4, 5, 6, 1, 0] rfl, hP, hS, hb2, Nat.le_refl _, Nat.le_refl _, rfl⟩
    obtain ⟨t, k2, v2, hl, hP, hS, hi, hbi, hti, hv⟩ := h
    have hD : va_D (mA [aE, aK, aV] s.heap.size) [(aE, .inr (0, [.ref aK, .ref aV, .int (nI c)])), (aK, .inl (cy, 512, .inl k2)), (aV, .inl (cy, 512, .inl v2))] := D_of ndw hAw
    refine lv_iload hx hb dX0_dropLeaving_13 (lv_at hl 6 rfl) ?_
    refine lv_aload_n hx hb dX0_dropLeaving_15 rfl (lv_at hl 0 rfl) ?_
    refine va_get (ci := 0) (v := .int (nI c)) (C := RX0) (T := TX0) (N := 3) hx hb hts hin_X0 hown hK hP 0 rfl rfl 2 (by decide) kf_18 (fun _ h9 => h9) rfl dX0_dropLeaving_16 ?_
    refine n_ge (tgt := 93) (by omega) (by omega) hx hb dX0_dropLeaving_19 (by decide) (fun h19 => ?_) (fun h19 => ?_)
    · have hic : i = c := by omega
      rw [hic, Nat.sub_self] at hv
      have e1 : (dlK step rest b f c k v) = (t, k2, v2) := hv
      refine lv_aload_n hx hb dX0_dropLeaving_93 rfl (lv_at hl 0 rfl) ?_
      refine va_get (ci := 0) (v := .int (nI c)) (C := RX0) (T := TX0) (N := 3) hx hb hts hin_X0 hown hK hP 0 rfl rfl 2 (by decide) kf_18 (fun _ h9 => h9) rfl dX0_dropLeaving_94 ?_
      refine lv_iload hx hb dX0_dropLeaving_97 (lv_at hl 5 rfl) ?_
      refine lv_isub hx hb dX0_dropLeaving_99 ?_
      refine top_i (y := nI (c - t)) (pk_sub (by omega)) ?_
      refine lv_istore (lv' := [(6, .int (nI (c - t))), (0, .ref aE), (1, .int step), (2, .int rest), (3, .int (nI b)), (4, .int (nI f)), (5, .int (nI t))]) hx hb dX0_dropLeaving_100 hl (by decide) rfl (fun ls hl => ?_)
      refine lv_aload_n hx hb dX0_dropLeaving_102 rfl (lv_at hl 1 rfl) ?_
      refine lv_iload hx hb dX0_dropLeaving_103 (lv_at hl 6 rfl) ?_
      refine va_put (ci := 0) (v := .int (nI t)) (ty := .int) (C := RX0) (T := TX0) (N := 3) hx hb hts hin_X0 tyX0 tyX0_ok nmX0 hown hK hP hD hS 0 rfl rfl 2 (by decide) kf_18 (fun _ h9 => h9) rfl (by decide +kernel) rfl rfl (Nat.le_of_ble_eq_true rfl) dX0_dropLeaving_105 (fun H locs hP hD hS => ?_)
      have hP : va_P D vwCl [(aE, .inr (0, [.ref aK, .ref aV, .int (nI t)])), (aK, .inl (cy, 512, .inl k2)), (aV, .inl (cy, 512, .inl v2))] H := hP
      have hD : va_D _ [(aE, .inr (0, [.ref aK, .ref aV, .int (nI t)])), (aK, .inl (cy, 512, .inl k2)), (aV, .inl (cy, 512, .inl v2))] := hD
      refine lv_iload hx hb dX0_dropLeaving_108 (lv_at hl 0 rfl) ?_
      exact ret_iM hx hb hr hlocks dX0_dropLeaving_110 hS (by rw [hz, e1]) (by rw [e0, e1]; exact hP)
    · refine lv_iload hx hb dX0_dropLeaving_22 (lv_at hl 6 rfl) ?_
      refine lv_iload hx hb dX0_dropLeaving_24 (lv_at hl 4 rfl) ?_
      refine n_ge (tgt := 48) (by omega) (by omega) hx hb dX0_dropLeaving_26 (by decide) (fun h26 => ?_) (fun h26 => ?_)
      · have hg : (decide (i < f) && gLeav step rest (k2 i)) = false := by simp [Nat.not_lt.mpr h26]
        refine lv_iconst (v := bI false) hx hb dX0_dropLeaving_48 (by decide) ?_
        refine lv_istore (lv' := [(7, .int (bI false)), (0, .ref aE), (1, .int step), (2, .int rest), (3, .int (nI b)), (4, .int (nI f)), (5, .int (nI t)), (6, .int (nI i))]) hx hb dX0_dropLeaving_49 hl (by decide) rfl (fun ls hl => ?_)
        refine lv_iload hx hb dX0_dropLeaving_51 (lv_at hl 0 rfl) ?_
        refine b_ne (tgt := 87) hx hb dX0_dropLeaving_53 (by decide) (fun c_4 => ?_) (fun c_4 => ?_)
        · exact absurd c_4 (by decide)
        · refine lv_aload_n hx hb dX0_dropLeaving_56 rfl (lv_at hl 1 rfl) ?_
          refine va_get (ci := 0) (v := .ref aK) (C := RX0) (T := TX0) (N := 3) hx hb hts hin_X0 hown hK hP 0 rfl rfl 0 (by decide) kf_9 (fun _ h9 => h9) rfl dX0_dropLeaving_57 ?_
          refine lv_iload hx hb dX0_dropLeaving_60 (lv_at hl 6 rfl) ?_
          refine lv_aload_n hx hb dX0_dropLeaving_62 rfl (lv_at hl 1 rfl) ?_
          refine va_get (ci := 0) (v := .ref aK) (C := RX0) (T := TX0) (N := 3) hx hb hts hin_X0 hown hK hP 0 rfl rfl 0 (by decide) kf_9 (fun _ h9 => h9) rfl dX0_dropLeaving_63 ?_
          refine lv_iload hx hb dX0_dropLeaving_66 (lv_at hl 7 rfl) ?_
          refine a_ld hx hb hK hP 1 0 rfl rfl (by omega) (by decide) dX0_dropLeaving_68 ?_
          refine a_st hx hb hK hP hD hS 1 0 rfl rfl (by omega) (by decide) dX0_dropLeaving_69 (fun H locs hP hD hS => ?_)
          have hP : va_P D vwCl [(aE, .inr (0, [.ref aK, .ref aV, .int (nI c)])), (aK, .inl (cy, 512, .inl (upd k2 t (k2 i)))), (aV, .inl (cy, 512, .inl v2))] H := hP
          have hD : va_D _ [(aE, .inr (0, [.ref aK, .ref aV, .int (nI c)])), (aK, .inl (cy, 512, .inl (upd k2 t (k2 i)))), (aV, .inl (cy, 512, .inl v2))] := hD
          refine lv_aload_n hx hb dX0_dropLeaving_70 rfl (lv_at hl 1 rfl) ?_
          refine va_get (ci := 0) (v := .ref aV) (C := RX0) (T := TX0) (N := 3) hx hb hts hin_X0 hown hK hP 0 rfl rfl 1 (by decide) kf_15 (fun _ h9 => h9) rfl dX0_dropLeaving_71 ?_
          refine lv_iload hx hb dX0_dropLeaving_74 (lv_at hl 6 rfl) ?_
          refine lv_aload_n hx hb dX0_dropLeaving_76 rfl (lv_at hl 1 rfl) ?_
          refine va_get (ci := 0) (v := .ref aV) (C := RX0) (T := TX0) (N := 3) hx hb hts hin_X0 hown hK hP 0 rfl rfl 1 (by decide) kf_15 (fun _ h9 => h9) rfl dX0_dropLeaving_77 ?_
          refine lv_iload hx hb dX0_dropLeaving_80 (lv_at hl 7 rfl) ?_
          refine a_ld hx hb hK hP 2 0 rfl rfl (by omega) (by decide) dX0_dropLeaving_82 ?_
          refine a_st hx hb hK hP hD hS 2 0 rfl rfl (by omega) (by decide) dX0_dropLeaving_83 (fun H locs hP hD hS => ?_)
          have hP : va_P D vwCl [(aE, .inr (0, [.ref aK, .ref aV, .int (nI c)])), (aK, .inl (cy, 512, .inl (upd k2 t (k2 i)))), (aV, .inl (cy, 512, .inl (upd v2 t (v2 i))))] H := hP
          have hD : va_D _ [(aE, .inr (0, [.ref aK, .ref aV, .int (nI c)])), (aK, .inl (cy, 512, .inl (upd k2 t (k2 i)))), (aV, .inl (cy, 512, .inl (upd v2 t (v2 i))))] := hD
          refine lv_iinc (v := nI (t + 1)) (lv' := [(5, .int (nI (t + 1))), (7, .int (bI false)), (0, .ref aE), (1, .int step), (2, .int rest), (3, .int (nI b)), (4, .int (nI f)), (6, .int (nI i))]) hx hb dX0_dropLeaving_84 hl (k := 6) rfl (by first | exact nI_1 _ | exact nI_add _ _) (by decide) rfl (fun ls hl => ?_)
          refine lv_iinc (v := nI (i + 1)) (lv' := [(6, .int (nI (i + 1))), (5, .int (nI (t + 1))), (7, .int (bI false)), (0, .ref aE), (1, .int step), (2, .int rest), (3, .int (nI b)), (4, .int (nI f))]) hx hb dX0_dropLeaving_87 hl (k := 7) rfl (by first | exact nI_1 _ | exact nI_add _ _) (by decide) rfl (fun ls hl => ?_)
          refine lv_goto (tgt := 13) hx hb dX0_dropLeaving_90 (by decide) ?_
          exact ih (i + 1) _ _ _ (by omega) ⟨_, _, _, lv_sub hl [3, 4, 5, 6, 7, 1, 0] rfl, by exact hP, hS, by omega, by omega, by omega, by rw [hv, clp_step h19, hg]; rfl⟩
      · refine lv_aload_n hx hb dX0_dropLeaving_29 rfl (lv_at hl 0 rfl) ?_
        refine va_get (ci := 0) (v := .ref aK) (C := RX0) (T := TX0) (N := 3) hx hb hts hin_X0 hown hK hP 0 rfl rfl 0 (by decide) kf_9 (fun _ h9 => h9) rfl dX0_dropLeaving_30 ?_
        refine lv_iload hx hb dX0_dropLeaving_33 (lv_at hl 6 rfl) ?_
        refine a_ld hx hb hK hP 1 0 rfl rfl (by omega) (by decide) dX0_dropLeaving_35 ?_
        refine lv_iload_n hx hb dX0_dropLeaving_36 rfl (lv_at hl 1 rfl) ?_
        refine go_R (va_runS (As := [.int (k2 i), .int step]) (rest := []) ⟨hx, hb, hml, hown, hts⟩ (c_J9_floorMod_7cf53 l D (k2 i) step (by intro q; rw [q] at h2; exact absurd h2 (by decide))) (va_cwS 2 hts gX0_dropLeaving_J9_floorMod_7cf53 rfl rfl rfl (by decide +kernel) ⟨(Nat.le_of_ble_eq_true rfl), (Nat.le_of_ble_eq_true rfl)⟩) (preS_W (hK.sub [] rfl) (hP.sub [] rfl)) rfl rfl hl.1 rfl (lv_room (by decide)) dX0_dropLeaving_37 ⟨(Nat.le_of_ble_eq_true rfl), (Nat.le_of_ble_eq_true rfl)⟩) ?_
        refine lv_iload_n hx hb dX0_dropLeaving_40 rfl (lv_at hl 2 rfl) ?_
        refine lv_icmp_ne (tgt := 48) hx hb dX0_dropLeaving_41 (by decide) (fun h41 => ?_) (fun h41 => ?_)
        · have hg : (decide (i < f) && gLeav step rest (k2 i)) = false := by simp [gLeav, h41]
          refine lv_iconst (v := bI false) hx hb dX0_dropLeaving_48 (by decide) ?_
          refine lv_istore (lv' := [(7, .int (bI false)), (0, .ref aE), (1, .int step), (2, .int rest), (3, .int (nI b)), (4, .int (nI f)), (5, .int (nI t)), (6, .int (nI i))]) hx hb dX0_dropLeaving_49 hl (by decide) rfl (fun ls hl => ?_)
          refine lv_iload hx hb dX0_dropLeaving_51 (lv_at hl 0 rfl) ?_
          refine b_ne (tgt := 87) hx hb dX0_dropLeaving_53 (by decide) (fun c_6 => ?_) (fun c_6 => ?_)
          · exact absurd c_6 (by decide)
          · refine lv_aload_n hx hb dX0_dropLeaving_56 rfl (lv_at hl 1 rfl) ?_
            refine va_get (ci := 0) (v := .ref aK) (C := RX0) (T := TX0) (N := 3) hx hb hts hin_X0 hown hK hP 0 rfl rfl 0 (by decide) kf_9 (fun _ h9 => h9) rfl dX0_dropLeaving_57 ?_
            refine lv_iload hx hb dX0_dropLeaving_60 (lv_at hl 6 rfl) ?_
            refine lv_aload_n hx hb dX0_dropLeaving_62 rfl (lv_at hl 1 rfl) ?_
            refine va_get (ci := 0) (v := .ref aK) (C := RX0) (T := TX0) (N := 3) hx hb hts hin_X0 hown hK hP 0 rfl rfl 0 (by decide) kf_9 (fun _ h9 => h9) rfl dX0_dropLeaving_63 ?_
            refine lv_iload hx hb dX0_dropLeaving_66 (lv_at hl 7 rfl) ?_
            refine a_ld hx hb hK hP 1 0 rfl rfl (by omega) (by decide) dX0_dropLeaving_68 ?_
            refine a_st hx hb hK hP hD hS 1 0 rfl rfl (by omega) (by decide) dX0_dropLeaving_69 (fun H locs hP hD hS => ?_)
            have hP : va_P D vwCl [(aE, .inr (0, [.ref aK, .ref aV, .int (nI c)])), (aK, .inl (cy, 512, .inl (upd k2 t (k2 i)))), (aV, .inl (cy, 512, .inl v2))] H := hP
            have hD : va_D _ [(aE, .inr (0, [.ref aK, .ref aV, .int (nI c)])), (aK, .inl (cy, 512, .inl (upd k2 t (k2 i)))), (aV, .inl (cy, 512, .inl v2))] := hD
            refine lv_aload_n hx hb dX0_dropLeaving_70 rfl (lv_at hl 1 rfl) ?_
            refine va_get (ci := 0) (v := .ref aV) (C := RX0) (T := TX0) (N := 3) hx hb hts hin_X0 hown hK hP 0 rfl rfl 1 (by decide) kf_15 (fun _ h9 => h9) rfl dX0_dropLeaving_71 ?_
            refine lv_iload hx hb dX0_dropLeaving_74 (lv_at hl 6 rfl) ?_
            refine lv_aload_n hx hb dX0_dropLeaving_76 rfl (lv_at hl 1 rfl) ?_
            refine va_get (ci := 0) (v := .ref aV) (C := RX0) (T := TX0) (N := 3) hx hb hts hin_X0 hown hK hP 0 rfl rfl 1 (by decide) kf_15 (fun _ h9 => h9) rfl dX0_dropLeaving_77 ?_
            refine lv_iload hx hb dX0_dropLeaving_80 (lv_at hl 7 rfl) ?_
            refine a_ld hx hb hK hP 2 0 rfl rfl (by omega) (by decide) dX0_dropLeaving_82 ?_
            refine a_st hx hb hK hP hD hS 2 0 rfl rfl (by omega) (by decide) dX0_dropLeaving_83 (fun H locs hP hD hS => ?_)
            have hP : va_P D vwCl [(aE, .inr (0, [.ref aK, .ref aV, .int (nI c)])), (aK, .inl (cy, 512, .inl (upd k2 t (k2 i)))), (aV, .inl (cy, 512, .inl (upd v2 t (v2 i))))] H := hP
            have hD : va_D _ [(aE, .inr (0, [.ref aK, .ref aV, .int (nI c)])), (aK, .inl (cy, 512, .inl (upd k2 t (k2 i)))), (aV, .inl (cy, 512, .inl (upd v2 t (v2 i))))] := hD
            refine lv_iinc (v := nI (t + 1)) (lv' := [(5, .int (nI (t + 1))), (7, .int (bI false)), (0, .ref aE), (1, .int step), (2, .int rest), (3, .int (nI b)), (4, .int (nI f)), (6, .int (nI i))]) hx hb dX0_dropLeaving_84 hl (k := 6) rfl (by first | exact nI_1 _ | exact nI_add _ _) (by decide) rfl (fun ls hl => ?_)
            refine lv_iinc (v := nI (i + 1)) (lv' := [(6, .int (nI (i + 1))), (5, .int (nI (t + 1))), (7, .int (bI false)), (0, .ref aE), (1, .int step), (2, .int rest), (3, .int (nI b)), (4, .int (nI f))]) hx hb dX0_dropLeaving_87 hl (k := 7) rfl (by first | exact nI_1 _ | exact nI_add _ _) (by decide) rfl (fun ls hl => ?_)
            refine lv_goto (tgt := 13) hx hb dX0_dropLeaving_90 (by decide) ?_
            exact ih (i + 1) _ _ _ (by omega) ⟨_, _, _, lv_sub hl [3, 4, 5, 6, 7, 1, 0] rfl, by exact hP, hS, by omega, by omega, by omega, by rw [hv, clp_step h19, hg]; rfl⟩
        · have hg : (decide (i < f) && gLeav step rest (k2 i)) = true := by simp [gLeav, h26, h41]
          refine lv_iconst (v := bI true) hx hb dX0_dropLeaving_44 (by decide) ?_
          refine lv_goto (tgt := 49) hx hb dX0_dropLeaving_45 (by decide) ?_
          refine lv_istore (lv' := [(7, .int (bI true)), (0, .ref aE), (1, .int step), (2, .int rest), (3, .int (nI b)), (4, .int (nI f)), (5, .int (nI t)), (6, .int (nI i))]) hx hb dX0_dropLeaving_49 hl (by decide) rfl (fun ls hl => ?_)
          refine lv_iload hx hb dX0_dropLeaving_51 (lv_at hl 0 rfl) ?_
          refine b_ne (tgt := 87) hx hb dX0_dropLeaving_53 (by decide) (fun c_7 => ?_) (fun c_7 => ?_)
          · refine lv_iinc (v := nI (i + 1)) (lv' := [(6, .int (nI (i + 1))), (7, .int (bI true)), (0, .ref aE), (1, .int step), (2, .int rest), (3, .int (nI b)), (4, .int (nI f)), (5, .int (nI t))]) hx hb dX0_dropLeaving_87 hl (k := 7) rfl (by first | exact nI_1 _ | exact nI_add _ _) (by decide) rfl (fun ls hl => ?_)
            refine lv_goto (tgt := 13) hx hb dX0_dropLeaving_90 (by decide) ?_
            exact ih (i + 1) _ _ _ (by omega) ⟨_, _, _, lv_sub hl [2, 3, 4, 5, 6, 7, 0] rfl, by exact hP, hS, by omega, by omega, by omega, by rw [hv, clp_step h19, hg]; rfl⟩
          · exact absurd c_7 (by decide)
  · have h2n : step < 1 := Int32.not_le.mp h2
    have hz : (if step < 1 then (-1) else nI (c - (dlK step rest b f c k v).1)) = (-1) := if_pos h2n
    have e0 : dlS step rest b f c k v = (c, k, v) := if_pos h2n
    refine lv_iconst (v := (-1)) hx hb dX0_dropLeaving_5 (by decide) ?_
    exact ret_iM hx hb hr hlocks dX0_dropLeaving_6 hS (by rw [hz]) (by rw [e0]; exact hP)

set_option maxHeartbeats 4000000 in
set_option maxRecDepth 100000 in
/-- dropPlaces(begin, end) -/
theorem c_X0_dropPlaces (l : Launch) (D : va_G) (cy : ClassId) (aE aK aV : Nat) (k v : Nat → Int32) (c : Nat) (hc : c ≤ 512) (nd : ([aE, aK, aV] : List Nat).Nodup) (sz : Nat) (b f : Nat) (hb2 : b ≤ c) (hf2 : f ≤ 512) : Met l yX0_dropPlaces wsX0_dropPlaces ({ frames := 2, cells := 0, slots := 0, locals := 49 } : Room) (pcZ D [(cy, .int)] [.ref aE, .int (nI b), .int (nI f)] [(aE, .inr (0, [.ref aK, .ref aV, .int (nI c)])), (aK, .inl (cy, 512, .inl k)), (aV, .inl (cy, 512, .inl v))] sz) (qM (some (.int (nI (c - (dlK 1 0 b f c k v).1)))) (fun H => va_P D vwCl (eW cy aE aK aV ((dlK 1 0 b f c k v).2.1) ((dlK 1 0 b f c k v).2.2) ((dlK 1 0 b f c k v).1)) H) (mA [aE, aK, aV] sz)) 0 0 (mA [aE, aK, aV] sz) := by
  refine met_Z (cc := cX0_dropPlaces) (maxL := 3) (ret := (some .int)) (by decide +kernel) rfl (Nat.le_of_ble_eq_true rfl) ?_
  intro pM eM s mM below meth cM ls hx hb hr hts hown hlocks hml hnm hsz hK hP hl
  have hown : s.vm.findClass RX0 = some mM.cls := hown
  have hl : lv_has ls 3 [(0, .ref aE), (1, .int (nI b)), (2, .int (nI f))] := hl
  have hP : va_P D vwCl [(aE, .inr (0, [.ref aK, .ref aV, .int (nI c)])), (aK, .inl (cy, 512, .inl k)), (aV, .inl (cy, 512, .inl v))] s.heap := hP
  subst hsz
  have ndw := nd
  have hA : ∀ q : Nat, s.heap.size ≤ q → mA [aE, aK, aV] s.heap.size q := fun q h => Or.inr h
  have hAw : ∀ q ∈ ([aE, aK, aV] : List Nat), mA [aE, aK, aV] s.heap.size q := fun q h => Or.inl h
  have hS : va_S (mA [aE, aK, aV] s.heap.size) s.heap s.heap [] := va_S.rf
  have hD : va_D (mA [aE, aK, aV] s.heap.size) [(aE, .inr (0, [.ref aK, .ref aV, .int (nI c)])), (aK, .inl (cy, 512, .inl k)), (aV, .inl (cy, 512, .inl v))] := D_of ndw hAw
  simp only [List.nodup_cons, List.mem_cons, List.not_mem_nil, or_false, not_or, not_false_eq_true, List.nodup_nil, and_true] at nd
  refine lv_aload_n hx hb dX0_dropPlaces_0 rfl (lv_at hl 0 rfl) ?_
  refine lv_iconst (v := 1) hx hb dX0_dropPlaces_1 (by decide) ?_
  refine lv_iconst (v := 0) hx hb dX0_dropPlaces_2 (by decide) ?_
  refine lv_iload_n hx hb dX0_dropPlaces_3 rfl (lv_at hl 1 rfl) ?_
  refine lv_iload_n hx hb dX0_dropPlaces_4 rfl (lv_at hl 2 rfl) ?_
  refine go_M (va_runV (As := [.int 1, .int 0, .int (nI b), .int (nI f)]) (rest := []) ⟨hx, hb, hml, hown, hts⟩ (c_X0_dropLeaving l D cy aE aK aV k v c (by omega) (by simp; omega) _ 1 0 b f (by omega) (by omega)) (cwV 4 hts gX0_dropPlaces_X0_dropLeaving rfl rfl rfl (by decide +kernel) ⟨(Nat.le_of_ble_eq_true rfl), (Nat.le_of_ble_eq_true rfl)⟩) (preV_Z hK (hP.sub [0, 1, 2] rfl) 0 0 rfl rfl) rfl rfl hl.1 rfl (lv_room (by decide)) dX0_dropPlaces_5 ⟨(Nat.le_of_ble_eq_true rfl), (Nat.le_of_ble_eq_true rfl)⟩) hS (fun q h => mA_sub [0, 1, 2] rfl hS.1 h) (fun H1 locs1 hB hzz hk hS => ?_)
  have hP : va_P D vwCl [(aE, .inr (0, [.ref aK, .ref aV, .int (nI ((dlS 1 0 b f c k v).1))])), (aK, .inl (cy, 512, .inl ((dlS 1 0 b f c k v).2.1))), (aV, .inl (cy, 512, .inl ((dlS 1 0 b f c k v).2.2)))] H1 := va_P.sub hB [0, 1, 2] rfl
  have hD : va_D (mA [aE, aK, aV] s.heap.size) [(aE, .inr (0, [.ref aK, .ref aV, .int (nI ((dlS 1 0 b f c k v).1))])), (aK, .inl (cy, 512, .inl ((dlS 1 0 b f c k v).2.1))), (aV, .inl (cy, 512, .inl ((dlS 1 0 b f c k v).2.2)))] := D_of ndw hAw
  clear hB
  generalize H1 = H at hP hS ⊢
  generalize locs1 = locs at hS ⊢
  exact ret_iM hx hb hr hlocks dX0_dropPlaces_8 hS (if_neg (by decide)) hP

set_option maxHeartbeats 4000000 in
set_option maxRecDepth 100000 in
/-- drop(key) -/
theorem c_X0_drop (l : Launch) (D : va_G) (cy : ClassId) (aE aK aV : Nat) (k v : Nat → Int32) (c : Nat) (hc : c ≤ 512) (nd : ([aE, aK, aV] : List Nat).Nodup) (sz : Nat) (x : Int32) : Met l yX0_drop wsX0_drop ({ frames := 3, cells := 0, slots := 0, locals := 71 } : Room) (pcZ D [(cy, .int)] [.ref aE, .int x] [(aE, .inr (0, [.ref aK, .ref aV, .int (nI c)])), (aK, .inl (cy, 512, .inl k)), (aV, .inl (cy, 512, .inl v))] sz) (qM (some (.long (vOf k v c x))) (fun H => va_P D vwCl (eW cy aE aK aV ((drp k v c x).2.1) ((drp k v c x).2.2) ((drp k v c x).1)) H) (mA [aE, aK, aV] sz)) 0 0 (mA [aE, aK, aV] sz) := by
  refine met_Z (cc := cX0_drop) (maxL := 5) (ret := (some .long)) (by decide +kernel) rfl (Nat.le_of_ble_eq_true rfl) ?_
  intro pM eM s mM below meth cM ls hx hb hr hts hown hlocks hml hnm hsz hK hP hl
  have hown : s.vm.findClass RX0 = some mM.cls := hown
  have hl : lv_has ls 5 [(0, .ref aE), (1, .int x)] := hl
  have hin_X0 : ∀ w ∈ wsX00, w ∈ wsX0_drop := by decide +kernel
  have kf_15 := hts (.fieldLink RX0 15 "OrderedDesk$Entries" "values" "[I") (by decide +kernel)
  have kc_22 := hts (.constantLong RX0 22 (1099511627776)) (by decide +kernel)
  have hP : va_P D vwCl [(aE, .inr (0, [.ref aK, .ref aV, .int (nI c)])), (aK, .inl (cy, 512, .inl k)), (aV, .inl (cy, 512, .inl v))] s.heap := hP
  subst hsz
  have ndw := nd
  have hA : ∀ q : Nat, s.heap.size ≤ q → mA [aE, aK, aV] s.heap.size q := fun q h => Or.inr h
  have hAw : ∀ q ∈ ([aE, aK, aV] : List Nat), mA [aE, aK, aV] s.heap.size q := fun q h => Or.inl h
  have hS : va_S (mA [aE, aK, aV] s.heap.size) s.heap s.heap [] := va_S.rf
  have hD : va_D (mA [aE, aK, aV] s.heap.size) [(aE, .inr (0, [.ref aK, .ref aV, .int (nI c)])), (aK, .inl (cy, 512, .inl k)), (aV, .inl (cy, 512, .inl v))] := D_of ndw hAw
  simp only [List.nodup_cons, List.mem_cons, List.not_mem_nil, or_false, not_or, not_false_eq_true, List.nodup_nil, and_true] at nd
  have hpl := plc_le k c x.toInt64
  refine lv_aload_n hx hb dX0_drop_0 rfl (lv_at hl 0 rfl) ?_
  refine lv_iload_n hx hb dX0_drop_1 rfl (lv_at hl 1 rfl) ?_
  refine lv_i2l hx hb dX0_drop_2 rfl ?_
  refine go_R (va_runV (As := [.long x.toInt64]) (rest := []) ⟨hx, hb, hml, hown, hts⟩ (c_X0_placeOf l D cy aE aK aV k v c (by omega) x.toInt64) (cwV 1 hts gX0_drop_X0_placeOf rfl rfl rfl (by decide +kernel) ⟨(Nat.le_of_ble_eq_true rfl), (Nat.le_of_ble_eq_true rfl)⟩) (preV_W hK (hP.sub [0, 1, 2] rfl) 0 0 rfl rfl) rfl rfl hl.1 rfl (lv_room (by decide)) dX0_drop_3 ⟨(Nat.le_of_ble_eq_true rfl), (Nat.le_of_ble_eq_true rfl)⟩) ?_
  refine lv_istore_n (lv' := [(2, .int (nI (plc k c x.toInt64))), (0, .ref aE), (1, .int x)]) hx hb dX0_drop_6 rfl hl (by decide) rfl (fun ls hl => ?_)
  refine lv_aload_n hx hb dX0_drop_7 rfl (lv_at hl 1 rfl) ?_
  refine lv_iload_n hx hb dX0_drop_8 rfl (lv_at hl 0 rfl) ?_
  refine lv_iload_n hx hb dX0_drop_9 rfl (lv_at hl 2 rfl) ?_
  refine go_R (va_runV (As := [.int (nI (plc k c x.toInt64)), .int x]) (rest := []) ⟨hx, hb, hml, hown, hts⟩ (c_X0_isAt l D cy aE aK aV k v c (by omega) (plc k c x.toInt64) (by omega) x) (cwV 2 hts gX0_drop_X0_isAt rfl rfl rfl (by decide +kernel) ⟨(Nat.le_of_ble_eq_true rfl), (Nat.le_of_ble_eq_true rfl)⟩) (preV_W hK (hP.sub [0, 1, 2] rfl) 0 0 rfl rfl) rfl rfl hl.1 rfl (lv_room (by decide)) dX0_drop_10 ⟨(Nat.le_of_ble_eq_true rfl), (Nat.le_of_ble_eq_true rfl)⟩) ?_
  refine b_ne (tgt := 20) hx hb dX0_drop_13 (by decide) (fun h13 => ?_) (fun h13 => ?_)
  · have hlt := atK_lt h13
    have hz : vOf k v c x = (v (plc k c x.toInt64)).toInt64 := if_pos h13
    have e1 : drp k v c x = dlK 1 0 (plc k c x.toInt64) ((plc k c x.toInt64) + 1) c k v := if_pos h13
    refine lv_aload_n hx hb dX0_drop_20 rfl (lv_at hl 1 rfl) ?_
    refine va_get (ci := 0) (v := .ref aV) (C := RX0) (T := TX0) (N := 3) hx hb hts hin_X0 hown hK hP 0 rfl rfl 1 (by decide) kf_15 (fun _ h9 => h9) rfl dX0_drop_21 ?_
    refine lv_iload_n hx hb dX0_drop_24 rfl (lv_at hl 0 rfl) ?_
    refine a_ld hx hb hK hP 2 0 rfl rfl (by have := atK_lt h13; omega) (by decide) dX0_drop_25 ?_
    refine lv_i2l hx hb dX0_drop_26 rfl ?_
    refine lv_lstore_n (lv' := [(3, .long ((v (plc k c x.toInt64)).toInt64)), (2, .int (nI (plc k c x.toInt64))), (0, .ref aE), (1, .int x)]) hx hb dX0_drop_27 rfl hl (by decide) rfl (fun ls hl => ?_)
    refine lv_aload_n hx hb dX0_drop_28 rfl (lv_at hl 2 rfl) ?_
    refine lv_iload_n hx hb dX0_drop_29 rfl (lv_at hl 1 rfl) ?_
    refine lv_iload_n hx hb dX0_drop_30 rfl (lv_at hl 1 rfl) ?_
    refine lv_iconst (v := nI 1) hx hb dX0_drop_31 (by decide) ?_
    refine lv_iadd hx hb dX0_drop_32 ?_
    refine top_i (y := nI ((plc k c x.toInt64) + 1)) (nI_add _ _) ?_
    refine go_M (va_runV (As := [.int (nI (plc k c x.toInt64)), .int (nI ((plc k c x.toInt64) + 1))]) (rest := []) ⟨hx, hb, hml, hown, hts⟩ (c_X0_dropPlaces l D cy aE aK aV k v c (by omega) (by simp; omega) _ (plc k c x.toInt64) ((plc k c x.toInt64) + 1) (by omega) (by omega)) (cwV 2 hts gX0_drop_X0_dropPlaces rfl rfl rfl (by decide +kernel) ⟨(Nat.le_of_ble_eq_true rfl), (Nat.le_of_ble_eq_true rfl)⟩) (preV_Z hK (hP.sub [0, 1, 2] rfl) 0 0 rfl rfl) rfl rfl hl.1 rfl (lv_room (by decide)) dX0_drop_33 ⟨(Nat.le_of_ble_eq_true rfl), (Nat.le_of_ble_eq_true rfl)⟩) hS (fun q h => mA_sub [0, 1, 2] rfl hS.1 h) (fun H1 locs1 hB hzz hk hS => ?_)
    have hP : va_P D vwCl [(aE, .inr (0, [.ref aK, .ref aV, .int (nI ((dlK 1 0 (plc k c x.toInt64) ((plc k c x.toInt64) + 1) c k v).1))])), (aK, .inl (cy, 512, .inl ((dlK 1 0 (plc k c x.toInt64) ((plc k c x.toInt64) + 1) c k v).2.1))), (aV, .inl (cy, 512, .inl ((dlK 1 0 (plc k c x.toInt64) ((plc k c x.toInt64) + 1) c k v).2.2)))] H1 := va_P.sub hB [0, 1, 2] rfl
    have hD : va_D (mA [aE, aK, aV] s.heap.size) [(aE, .inr (0, [.ref aK, .ref aV, .int (nI ((dlK 1 0 (plc k c x.toInt64) ((plc k c x.toInt64) + 1) c k v).1))])), (aK, .inl (cy, 512, .inl ((dlK 1 0 (plc k c x.toInt64) ((plc k c x.toInt64) + 1) c k v).2.1))), (aV, .inl (cy, 512, .inl ((dlK 1 0 (plc k c x.toInt64) ((plc k c x.toInt64) + 1) c k v).2.2)))] := D_of ndw hAw
    clear hB
    generalize H1 = H at hP hS ⊢
    generalize locs1 = locs at hS ⊢
    refine lv_pop hx hb dX0_drop_36 rfl ?_
    refine lv_lload_n hx hb dX0_drop_37 rfl (lv_at hl 0 rfl) ?_
    exact ret_lM hx hb hr hlocks dX0_drop_38 hS (by rw [hz]) (by rw [e1]; exact hP)
  · have h13n : ¬ atK k c (plc k c x.toInt64) x = true := by rw [h13]; decide
    have hz : vOf k v c x = NO := if_neg h13n
    have e1 : drp k v c x = (c, k, v) := if_neg h13n
    refine lv_ldc2 hx hb hown kc_22 dX0_drop_16 ?_
    exact ret_lM hx hb hr hlocks dX0_drop_19 hS (by rw [hz]) (by rw [e1]; exact hP)
