/-! the contracts of OrderedDeskModel's methods (written by wip/gen/x3.py) -/
abbrev mW (cy : ClassId) (aM aA aB : Nat) (k v : Nat → Int32) (c : Nat) (gl gh li hn fl : Bool) (lo hi : Int32) : va_W := [(aM, .inr (3, [.ref aA, .ref aB, .int (nI c), .int (bI gl), .int (bI gh), .int (bI li), .int (bI hn), .int (bI fl), .int lo, .int hi])), (aA, .inl (cy, 64, .inl k)), (aB, .inl (cy, 64, .inl v))]
theorem i64_lt {a b : Int32} : a.toInt64 < b.toInt64 ↔ a < b := by
  rw [Int64.lt_iff_toInt_lt, Int32.lt_iff_toInt_lt, Int32.toInt_toInt64, Int32.toInt_toInt64]
theorem i64_le {a b : Int32} : a.toInt64 ≤ b.toInt64 ↔ a ≤ b := by
  rw [Int64.le_iff_toInt_le, Int32.le_iff_toInt_le, Int32.toInt_toInt64, Int32.toInt_toInt64]
/-- a row with what stands at p taken out, of c in use -/
def delA (k : Nat → Int32) (p c : Nat) : Nat → Int32 := fun j => if p ≤ j ∧ j < c - 1 then k (j + 1) else k j
def dshA (k : Nat → Int32) (p i : Nat) : Nat → Int32 := fun j => if p ≤ j ∧ j < i then k (j + 1) else k j
theorem dshA_0 (k : Nat → Int32) (p : Nat) : dshA k p p = k := by
  funext j
  exact if_neg (by omega)
theorem dshA_s (k : Nat → Int32) {p i : Nat} (h : p ≤ i) : upd (dshA k p i) i (dshA k p i (i + 1)) = dshA k p (i + 1) := by
  funext j
  unfold upd dshA
  by_cases e : j = i
  · rw [if_pos e, if_neg (by omega), if_pos (by omega), e]
  · rw [if_neg e]
    by_cases w : p ≤ j ∧ j < i
    · rw [if_pos w, if_pos (by omega)]
    · rw [if_neg w, if_neg (by omega)]
def mdT (k v : Nat → Int32) (c : Nat) (x : Int32) : Nat × (Nat → Int32) × (Nat → Int32) := if atK k c (plc k c x.toInt64) x = true then (c - 1, delA k (plc k c x.toInt64) c, delA v (plc k c x.toInt64) c) else (c, k, v)
def maT (k v : Nat → Int32) (c : Nat) (x y : Int32) : Nat × (Nat → Int32) × (Nat → Int32) := if atK k c (plc k c x.toInt64) x = true then (c, k, v) else (c + 1, insA k (plc k c x.toInt64) c x, insA v (plc k c x.toInt64) c y)
def hsM (k v : Nat → Int32) (c : Nat) (w x : Int32) : Bool := if w = 0 then hasV k c x else if w = 1 then hasV v c x else false
/-- the loop of near -/
def nlp (k : Nat → Int32) (x : Int32) : Nat → Nat → Nat → Nat → Nat × Nat
  | 0, _, a, b => (a, b)
  | n + 1, i, a, b => nlp k x n (i + 1) (if k i < x then i + 1 else a) (if k i ≤ x then i + 1 else b)
theorem nlp_s {k : Nat → Int32} {x : Int32} {f i a b : Nat} (h : i < f) : nlp k x (f - i) i a b = nlp k x (f - (i + 1)) (i + 1) (if k i < x then i + 1 else a) (if k i ≤ x then i + 1 else b) := by
  obtain ⟨n, hn⟩ : ∃ n, f - i = n + 1 := ⟨f - i - 1, by omega⟩
  rw [hn, show f - (i + 1) = n by omega, nlp]
def kNM (k : Nat → Int32) (w x : Int32) (b f : Nat) : Int64 :=
  if w = 0 then kW k (((nlp k x (f - b) b b b).2 : Int) - 1) b f
  else if w = 1 then kW k ((nlp k x (f - b) b b b).1 : Int) b f
  else if w = 2 then kW k (((nlp k x (f - b) b b b).1 : Int) - 1) b f
  else if w = 3 then kW k ((nlp k x (f - b) b b b).2 : Int) b f
  else if w = 4 then kW k (b : Int) b f
  else if w = 5 then kW k ((f : Int) - 1) b f
  else NO
def iM (gl : Bool) (lo : Int32) (li : Bool) (gh : Bool) (hi : Int32) (hn : Bool) (x : Int32) : Bool := (!gl || decide (lo < x) || (decide (x = lo) && li)) && (!gh || decide (x < hi) || (decide (x = hi) && hn))
def mayM (gl : Bool) (lo : Int32) (li : Bool) (gh : Bool) (hi : Int32) (hn : Bool) (x : Int32) (i : Bool) : Bool := if i = true then iM gl lo li gh hi hn x else (!gl || decide (lo ≤ x)) && (!gh || decide (x ≤ hi))
def mF (k : Nat → Int32) (c : Nat) (gl : Bool) (lo : Int32) (li : Bool) (gh : Bool) (hi : Int32) (hn : Bool) : Nat := pf (fun j => !iM gl lo li gh hi hn (k j) && !(gh && decide (hi < k j))) c 0
def mE (k : Nat → Int32) (c : Nat) (gl : Bool) (lo : Int32) (li : Bool) (gh : Bool) (hi : Int32) (hn : Bool) : Nat := pf (fun j => iM gl lo li gh hi hn (k j)) (c - mF k c gl lo li gh hi hn) (mF k c gl lo li gh hi hn)
theorem mF_le (k : Nat → Int32) (c : Nat) (gl : Bool) (lo : Int32) (li : Bool) (gh : Bool) (hi : Int32) (hn : Bool) : mF k c gl lo li gh hi hn ≤ c := by
  have := pf_le (P := fun j => !iM gl lo li gh hi hn (k j) && !(gh && decide (hi < k j))) c 0
  unfold mF
  omega
theorem mFE (k : Nat → Int32) (c : Nat) (gl : Bool) (lo : Int32) (li : Bool) (gh : Bool) (hi : Int32) (hn : Bool) : mF k c gl lo li gh hi hn ≤ mE k c gl lo li gh hi hn := pf_ge _ _
theorem mE_le (k : Nat → Int32) (c : Nat) (gl : Bool) (lo : Int32) (li : Bool) (gh : Bool) (hi : Int32) (hn : Bool) : mE k c gl lo li gh hi hn ≤ c := by
  have h1 := pf_le (P := fun j => iM gl lo li gh hi hn (k j)) (c - mF k c gl lo li gh hi hn) (mF k c gl lo li gh hi hn)
  have h2 := mF_le k c gl lo li gh hi hn
  unfold mE
  omega
/-- the loop of sweep -/
def swp (G : Int32 → Bool) (f : Nat) : Nat → Nat → Nat → (Nat → Int32) → (Nat → Int32) → Nat × Nat × (Nat → Int32) × (Nat → Int32)
  | 0, m, c, k, v => (m, c, k, v)
  | n + 1, m, c, k, v => if G (k (f + n)) = true then swp G f n (m + 1) (c - 1) (delA k (f + n) c) (delA v (f + n) c) else swp G f n m c k v
/-- the loop of viewClear -/
def vcl (f : Nat) : Nat → Nat → (Nat → Int32) → (Nat → Int32) → Nat × (Nat → Int32) × (Nat → Int32)
  | 0, c, k, v => (c, k, v)
  | n + 1, c, k, v => vcl f n (c - 1) (delA k f c) (delA v f c)
def xw (w : Int32) : Int32 := w ^^^ 1
def msT (step rest : Int32) (f g c : Nat) (k v : Nat → Int32) : Nat × Nat × (Nat → Int32) × (Nat → Int32) := if step < 1 then (0, c, k, v) else swp (gLeav step rest) f (g - f) 0 c k v
def mpP (k v : Nat → Int32) (c : Nat) (g : Bool) (b f : Nat) : Nat × (Nat → Int32) × (Nat → Int32) := if b = f then (c, k, v) else (c - 1, delA k (if g = true then f - 1 else b) c, delA v (if g = true then f - 1 else b) c)
def mpA (k : Nat → Int32) (g : Bool) (b f : Nat) : Int64 := if b = f then NO else (k (if g = true then f - 1 else b)).toInt64
theorem nI_dm {n : Nat} (h : 0 < n) : nI n - 1 = nI (n - 1) := by
  rw [show (1 : Int32) = nI 1 from rfl, pk_sub (by omega)]
set_option maxHeartbeats 4000000 in
set_option maxRecDepth 100000 in
/-- placeOf(k) -/
theorem c_X3_placeOf (l : Launch) (D : va_G) (cy : ClassId) (aM aA aB : Nat) (k v : Nat → Int32) (c : Nat) (hc : c ≤ 64) (gl gh li hn fl : Bool) (lo hi : Int32) (x : Int32) : Met l yX3_placeOf wsX3_placeOf ({ frames := 0, cells := 0, slots := 0, locals := 0 } : Room) (pcW D [(cy, .int)] [.ref aM, .int x] [(aM, .inr (3, [.ref aA, .ref aB, .int (nI c), .int (bI gl), .int (bI gh), .int (bI li), .int (bI hn), .int (bI fl), .int lo, .int hi])), (aA, .inl (cy, 64, .inl k)), (aB, .inl (cy, 64, .inl v))]) (qR (.int (nI (plc k c x.toInt64)))) 0 0 (fun _ => False) := by
  refine met_W (cc := cX3_placeOf) (maxL := 3) (ret := (some .int)) (by decide +kernel) rfl (Nat.le_of_ble_eq_true rfl) ?_
  intro pM eM s mM below meth cM ls hx hb hr hts hown hlocks hml hnm hK hP hl
  have hown : s.vm.findClass RX3 = some mM.cls := hown
  have hl : lv_has ls 3 [(0, .ref aM), (1, .int x)] := hl
  have hin_X3 : ∀ w ∈ wsX30, w ∈ wsX3_placeOf := by decide +kernel
  have kf_16 := hts (.fieldLink RX3 16 "OrderedDeskModel" "many" "I") (by decide +kernel)
  have kf_9 := hts (.fieldLink RX3 9 "OrderedDeskModel" "key" "[I") (by decide +kernel)
  have hP : va_P D vwCl [(aM, .inr (3, [.ref aA, .ref aB, .int (nI c), .int (bI gl), .int (bI gh), .int (bI li), .int (bI hn), .int (bI fl), .int lo, .int hi])), (aA, .inl (cy, 64, .inl k)), (aB, .inl (cy, 64, .inl v))] s.heap := hP
  refine lv_iconst (v := nI 0) hx hb dX3_placeOf_0 (by decide) ?_
  refine lv_istore_n (lv' := [(2, .int (nI 0)), (0, .ref aM), (1, .int x)]) hx hb dX3_placeOf_1 rfl hl (by decide) rfl (fun ls hl => ?_)
  refine W_loopR (I := fun (i : Nat) (ls : Array Slot) => lv_has ls 3 [(0, .ref aM), (1, .int x), (2, .int (nI i))] ∧ i ≤ c ∧ plc k c x.toInt64 = pf (fun j => decide ((k j).toInt64 < x.toInt64)) (c - i) i) (μ := fun i => c - i) (fun i ls h ih => ?_) 0 ⟨lv_sub hl [1, 2, 0] rfl, Nat.zero_le _, rfl⟩
  obtain ⟨hl, hi1, hv⟩ := h
  refine lv_iload_n hx hb dX3_placeOf_2 rfl (lv_at hl 2 rfl) ?_
  refine lv_aload_n hx hb dX3_placeOf_3 rfl (lv_at hl 0 rfl) ?_
  refine va_get (ci := 3) (v := .int (nI c)) (C := RX3) (T := TX3) (N := 10) hx hb hts hin_X3 hown hK hP 0 rfl rfl 2 (by decide) kf_16 (fun _ h9 => h9) rfl dX3_placeOf_4 ?_
  refine n_ge (tgt := 26) (by omega) (by omega) hx hb dX3_placeOf_7 (by decide) (fun h7 => ?_) (fun h7 => ?_)
  · have hv2 : plc k c x.toInt64 = i := by rw [hv, pf_e h7]
    refine lv_iload_n hx hb dX3_placeOf_26 rfl (lv_at hl 2 rfl) ?_
    exact ret_i hx hb hr hlocks dX3_placeOf_27 (by rw [hv2])
  · refine lv_aload_n hx hb dX3_placeOf_10 rfl (lv_at hl 0 rfl) ?_
    refine va_get (ci := 3) (v := .ref aA) (C := RX3) (T := TX3) (N := 10) hx hb hts hin_X3 hown hK hP 0 rfl rfl 0 (by decide) kf_9 (fun _ h9 => h9) rfl dX3_placeOf_11 ?_
    refine lv_iload_n hx hb dX3_placeOf_14 rfl (lv_at hl 2 rfl) ?_
    refine a_ld hx hb hK hP 1 0 rfl rfl (by omega) (by decide) dX3_placeOf_15 ?_
    refine lv_iload_n hx hb dX3_placeOf_16 rfl (lv_at hl 1 rfl) ?_
    refine lv_icmp_ge (tgt := 26) hx hb dX3_placeOf_17 (by decide) (fun h17 => ?_) (fun h17 => ?_)
    · have hv2 : plc k c x.toInt64 = i := by rw [hv, pf_f (decide_eq_false (fun q => Int32.not_lt.mpr h17 (i64_lt.mp q)))]
      refine lv_iload_n hx hb dX3_placeOf_26 rfl (lv_at hl 2 rfl) ?_
      exact ret_i hx hb hr hlocks dX3_placeOf_27 (by rw [hv2])
    · refine lv_iinc (v := nI (i + 1)) (lv' := [(2, .int (nI (i + 1))), (0, .ref aM), (1, .int x)]) hx hb dX3_placeOf_20 hl (k := 2) rfl (by first | exact nI_1 _ | exact nI_add _ _) (by decide) rfl (fun ls hl => ?_)
      refine lv_goto (tgt := 2) hx hb dX3_placeOf_23 (by decide) ?_
      exact ih (i + 1) _ (by omega) ⟨lv_sub hl [1, 2, 0] rfl, by omega, by rw [hv, pf_t h7 (decide_eq_true (i64_lt.mpr (Int32.not_le.mp h17)))]⟩

set_option maxHeartbeats 4000000 in
set_option maxRecDepth 100000 in
/-- isAt(at, k) -/
theorem c_X3_isAt (l : Launch) (D : va_G) (cy : ClassId) (aM aA aB : Nat) (k v : Nat → Int32) (c : Nat) (hc : c ≤ 64) (gl gh li hn fl : Bool) (lo hi : Int32) (j : Nat) (hj : j ≤ 64) (x : Int32) : Met l yX3_isAt wsX3_isAt ({ frames := 0, cells := 0, slots := 0, locals := 0 } : Room) (pcW D [(cy, .int)] [.ref aM, .int (nI j), .int x] [(aM, .inr (3, [.ref aA, .ref aB, .int (nI c), .int (bI gl), .int (bI gh), .int (bI li), .int (bI hn), .int (bI fl), .int lo, .int hi])), (aA, .inl (cy, 64, .inl k)), (aB, .inl (cy, 64, .inl v))]) (qR (.int (bI (atK k c j x)))) 0 0 (fun _ => False) := by
  refine met_W (cc := cX3_isAt) (maxL := 3) (ret := (some .boolean)) (by decide +kernel) rfl (Nat.le_of_ble_eq_true rfl) ?_
  intro pM eM s mM below meth cM ls hx hb hr hts hown hlocks hml hnm hK hP hl
  have hown : s.vm.findClass RX3 = some mM.cls := hown
  have hl : lv_has ls 3 [(0, .ref aM), (1, .int (nI j)), (2, .int x)] := hl
  have hin_X3 : ∀ w ∈ wsX30, w ∈ wsX3_isAt := by decide +kernel
  have kf_16 := hts (.fieldLink RX3 16 "OrderedDeskModel" "many" "I") (by decide +kernel)
  have kf_9 := hts (.fieldLink RX3 9 "OrderedDeskModel" "key" "[I") (by decide +kernel)
  have hP : va_P D vwCl [(aM, .inr (3, [.ref aA, .ref aB, .int (nI c), .int (bI gl), .int (bI gh), .int (bI li), .int (bI hn), .int (bI fl), .int lo, .int hi])), (aA, .inl (cy, 64, .inl k)), (aB, .inl (cy, 64, .inl v))] s.heap := hP
  refine lv_iload_n hx hb dX3_isAt_0 rfl (lv_at hl 1 rfl) ?_
  refine lv_aload_n hx hb dX3_isAt_1 rfl (lv_at hl 0 rfl) ?_
  refine va_get (ci := 3) (v := .int (nI c)) (C := RX3) (T := TX3) (N := 10) hx hb hts hin_X3 hown hK hP 0 rfl rfl 2 (by decide) kf_16 (fun _ h9 => h9) rfl dX3_isAt_2 ?_
  refine n_ge (tgt := 22) (by omega) (by omega) hx hb dX3_isAt_5 (by decide) (fun h5 => ?_) (fun h5 => ?_)
  · have hz : atK k c j x = false := by simp [atK, Nat.not_lt.mpr h5]
    refine lv_iconst (v := bI false) hx hb dX3_isAt_22 (by decide) ?_
    exact ret_z hx hb hr hlocks dX3_isAt_23 (by rw [hz])
  · refine lv_aload_n hx hb dX3_isAt_8 rfl (lv_at hl 0 rfl) ?_
    refine va_get (ci := 3) (v := .ref aA) (C := RX3) (T := TX3) (N := 10) hx hb hts hin_X3 hown hK hP 0 rfl rfl 0 (by decide) kf_9 (fun _ h9 => h9) rfl dX3_isAt_9 ?_
    refine lv_iload_n hx hb dX3_isAt_12 rfl (lv_at hl 1 rfl) ?_
    refine a_ld hx hb hK hP 1 0 rfl rfl (by omega) (by decide) dX3_isAt_13 ?_
    refine lv_iload_n hx hb dX3_isAt_14 rfl (lv_at hl 2 rfl) ?_
    refine lv_icmp_ne (tgt := 22) hx hb dX3_isAt_15 (by decide) (fun h15 => ?_) (fun h15 => ?_)
    · have hz : atK k c j x = false := by simp [atK, h15]
      refine lv_iconst (v := bI false) hx hb dX3_isAt_22 (by decide) ?_
      exact ret_z hx hb hr hlocks dX3_isAt_23 (by rw [hz])
    · have hz : atK k c j x = true := by simp [atK, h5, h15]
      refine lv_iconst (v := bI true) hx hb dX3_isAt_18 (by decide) ?_
      refine lv_goto (tgt := 23) hx hb dX3_isAt_19 (by decide) ?_
      exact ret_z hx hb hr hlocks dX3_isAt_23 (by rw [hz])

set_option maxHeartbeats 4000000 in
set_option maxRecDepth 100000 in
/-- insert(at, k, v) -/
theorem c_X3_insert (l : Launch) (D : va_G) (cy : ClassId) (aM aA aB : Nat) (k v : Nat → Int32) (c : Nat) (hc : c ≤ 64) (gl gh li hn fl : Bool) (lo hi : Int32) (nd : ([aM, aA, aB] : List Nat).Nodup) (sz : Nat) (j : Nat) (hj : j ≤ c) (hc2 : c < 64) (x y : Int32) : Met l yX3_insert wsX3_insert ({ frames := 0, cells := 0, slots := 0, locals := 0 } : Room) (pcZ D [(cy, .int)] [.ref aM, .int (nI j), .int x, .int y] [(aM, .inr (3, [.ref aA, .ref aB, .int (nI c), .int (bI gl), .int (bI gh), .int (bI li), .int (bI hn), .int (bI fl), .int lo, .int hi])), (aA, .inl (cy, 64, .inl k)), (aB, .inl (cy, 64, .inl v))] sz) (qM none (fun H => va_P D vwCl (mW cy aM aA aB (insA k j c x) (insA v j c y) (c + 1) gl gh li hn fl lo hi) H) (mA [aM, aA, aB] sz)) 0 0 (mA [aM, aA, aB] sz) := by
  refine met_Z (cc := cX3_insert) (maxL := 5) (ret := none) (by decide +kernel) rfl (Nat.le_of_ble_eq_true rfl) ?_
  intro pM eM s mM below meth cM ls hx hb hr hts hown hlocks hml hnm hsz hK hP hl
  have hown : s.vm.findClass RX3 = some mM.cls := hown
  have hl : lv_has ls 5 [(0, .ref aM), (1, .int (nI j)), (2, .int x), (3, .int y)] := hl
  have hin_X3 : ∀ w ∈ wsX30, w ∈ wsX3_insert := by decide +kernel
  have kf_13 := hts (.fieldLink RX3 13 "OrderedDeskModel" "value" "[I") (by decide +kernel)
  have kf_16 := hts (.fieldLink RX3 16 "OrderedDeskModel" "many" "I") (by decide +kernel)
  have kf_9 := hts (.fieldLink RX3 9 "OrderedDeskModel" "key" "[I") (by decide +kernel)
  have hP : va_P D vwCl [(aM, .inr (3, [.ref aA, .ref aB, .int (nI c), .int (bI gl), .int (bI gh), .int (bI li), .int (bI hn), .int (bI fl), .int lo, .int hi])), (aA, .inl (cy, 64, .inl k)), (aB, .inl (cy, 64, .inl v))] s.heap := hP
  subst hsz
  have ndw := nd
  have hA : ∀ q : Nat, s.heap.size ≤ q → mA [aM, aA, aB] s.heap.size q := fun q h => Or.inr h
  have hAw : ∀ q ∈ ([aM, aA, aB] : List Nat), mA [aM, aA, aB] s.heap.size q := fun q h => Or.inl h
  have hS : va_S (mA [aM, aA, aB] s.heap.size) s.heap s.heap [] := va_S.rf
  have hD : va_D (mA [aM, aA, aB] s.heap.size) [(aM, .inr (3, [.ref aA, .ref aB, .int (nI c), .int (bI gl), .int (bI gh), .int (bI li), .int (bI hn), .int (bI fl), .int lo, .int hi])), (aA, .inl (cy, 64, .inl k)), (aB, .inl (cy, 64, .inl v))] := D_of ndw hAw
  simp only [List.nodup_cons, List.mem_cons, List.not_mem_nil, or_false, not_or, not_false_eq_true, List.nodup_nil, and_true] at nd
  refine lv_aload_n hx hb dX3_insert_0 rfl (lv_at hl 0 rfl) ?_
  refine va_get (ci := 3) (v := .int (nI c)) (C := RX3) (T := TX3) (N := 10) hx hb hts hin_X3 hown hK hP 0 rfl rfl 2 (by decide) kf_16 (fun _ h9 => h9) rfl dX3_insert_1 ?_
  refine lv_aload_n hx hb dX3_insert_4 rfl (lv_at hl 0 rfl) ?_
  refine va_get (ci := 3) (v := .ref aA) (C := RX3) (T := TX3) (N := 10) hx hb hts hin_X3 hown hK hP 0 rfl rfl 0 (by decide) kf_9 (fun _ h9 => h9) rfl dX3_insert_5 ?_
  refine va_alen (v := nI 64) hx hb hK hP 1 0 rfl rfl rfl dX3_insert_8 ?_
  refine n_ne (tgt := 46) (by omega) (by omega) hx hb dX3_insert_9 (by decide) (fun h9 => ?_) (fun h9 => ?_)
  · refine lv_aload_n hx hb dX3_insert_46 rfl (lv_at hl 0 rfl) ?_
    refine va_get (ci := 3) (v := .int (nI c)) (C := RX3) (T := TX3) (N := 10) hx hb hts hin_X3 hown hK hP 0 rfl rfl 2 (by decide) kf_16 (fun _ h9 => h9) rfl dX3_insert_47 ?_
    refine lv_istore (lv' := [(4, .int (nI c)), (0, .ref aM), (1, .int (nI j)), (2, .int x), (3, .int y)]) hx hb dX3_insert_50 hl (by decide) rfl (fun ls hl => ?_)
    refine W_loop (I := fun (i : Nat) (H : Heap) (locs : List Loc) (ls : Array Slot) => lv_has ls 5 [(0, .ref aM), (1, .int (nI j)), (2, .int x), (3, .int y), (4, .int (nI i))] ∧ va_P D vwCl [(aM, .inr (3, [.ref aA, .ref aB, .int (nI c), .int (bI gl), .int (bI gh), .int (bI li), .int (bI hn), .int (bI fl), .int lo, .int hi])), (aA, .inl (cy, 64, .inl (shA k i c))), (aB, .inl (cy, 64, .inl (shA v i c)))] H ∧ va_S (mA [aM, aA, aB] s.heap.size) s.heap H locs ∧ i ≤ c ∧ j ≤ i) (μ := fun i => i) (fun i H locs ls h ih => ?_) c ⟨lv_sub hl [1, 2, 3, 4, 0] rfl, by rw [shA_c, shA_c]; exact hP, hS, Nat.le_refl _, hj⟩
    obtain ⟨hl, hP, hS, hi1, hji⟩ := h
    have hD : va_D (mA [aM, aA, aB] s.heap.size) [(aM, .inr (3, [.ref aA, .ref aB, .int (nI c), .int (bI gl), .int (bI gh), .int (bI li), .int (bI hn), .int (bI fl), .int lo, .int hi])), (aA, .inl (cy, 64, .inl (shA k i c))), (aB, .inl (cy, 64, .inl (shA v i c)))] := D_of ndw hAw
    refine lv_iload hx hb dX3_insert_52 (lv_at hl 4 rfl) ?_
    refine lv_iload_n hx hb dX3_insert_54 rfl (lv_at hl 1 rfl) ?_
    refine n_le (tgt := 96) (by omega) (by omega) hx hb dX3_insert_55 (by decide) (fun h55 => ?_) (fun h55 => ?_)
    · have hij : i = j := by omega
      refine lv_aload_n hx hb dX3_insert_96 rfl (lv_at hl 0 rfl) ?_
      refine va_get (ci := 3) (v := .ref aA) (C := RX3) (T := TX3) (N := 10) hx hb hts hin_X3 hown hK hP 0 rfl rfl 0 (by decide) kf_9 (fun _ h9 => h9) rfl dX3_insert_97 ?_
      refine lv_iload_n hx hb dX3_insert_100 rfl (lv_at hl 1 rfl) ?_
      refine lv_iload_n hx hb dX3_insert_101 rfl (lv_at hl 2 rfl) ?_
      refine a_st hx hb hK hP hD hS 1 0 rfl rfl (by omega) (by decide) dX3_insert_102 (fun H locs hP hD hS => ?_)
      have hP : va_P D vwCl [(aM, .inr (3, [.ref aA, .ref aB, .int (nI c), .int (bI gl), .int (bI gh), .int (bI li), .int (bI hn), .int (bI fl), .int lo, .int hi])), (aA, .inl (cy, 64, .inl (upd (shA k i c) j x))), (aB, .inl (cy, 64, .inl (shA v i c)))] H := hP
      have hD : va_D _ [(aM, .inr (3, [.ref aA, .ref aB, .int (nI c), .int (bI gl), .int (bI gh), .int (bI li), .int (bI hn), .int (bI fl), .int lo, .int hi])), (aA, .inl (cy, 64, .inl (upd (shA k i c) j x))), (aB, .inl (cy, 64, .inl (shA v i c)))] := hD
      refine lv_aload_n hx hb dX3_insert_103 rfl (lv_at hl 0 rfl) ?_
      refine va_get (ci := 3) (v := .ref aB) (C := RX3) (T := TX3) (N := 10) hx hb hts hin_X3 hown hK hP 0 rfl rfl 1 (by decide) kf_13 (fun _ h9 => h9) rfl dX3_insert_104 ?_
      refine lv_iload_n hx hb dX3_insert_107 rfl (lv_at hl 1 rfl) ?_
      refine lv_iload_n hx hb dX3_insert_108 rfl (lv_at hl 3 rfl) ?_
      refine a_st hx hb hK hP hD hS 2 0 rfl rfl (by omega) (by decide) dX3_insert_109 (fun H locs hP hD hS => ?_)
      have hP : va_P D vwCl [(aM, .inr (3, [.ref aA, .ref aB, .int (nI c), .int (bI gl), .int (bI gh), .int (bI li), .int (bI hn), .int (bI fl), .int lo, .int hi])), (aA, .inl (cy, 64, .inl (upd (shA k i c) j x))), (aB, .inl (cy, 64, .inl (upd (shA v i c) j y)))] H := hP
      have hD : va_D _ [(aM, .inr (3, [.ref aA, .ref aB, .int (nI c), .int (bI gl), .int (bI gh), .int (bI li), .int (bI hn), .int (bI fl), .int lo, .int hi])), (aA, .inl (cy, 64, .inl (upd (shA k i c) j x))), (aB, .inl (cy, 64, .inl (upd (shA v i c) j y)))] := hD
      refine lv_aload_n hx hb dX3_insert_110 rfl (lv_at hl 0 rfl) ?_
      refine lv_dup hx hb dX3_insert_111 rfl ?_
      refine va_get (ci := 3) (v := .int (nI c)) (C := RX3) (T := TX3) (N := 10) hx hb hts hin_X3 hown hK hP 0 rfl rfl 2 (by decide) kf_16 (fun _ h9 => h9) rfl dX3_insert_112 ?_
      refine lv_iconst (v := nI 1) hx hb dX3_insert_115 (by decide) ?_
      refine lv_iadd hx hb dX3_insert_116 ?_
      refine top_i (y := nI (c + 1)) (nI_add _ _) ?_
      refine va_put (ci := 3) (v := .int (nI (c + 1))) (ty := .int) (C := RX3) (T := TX3) (N := 10) hx hb hts hin_X3 tyX3 tyX3_ok nmX3 hown hK hP hD hS 0 rfl rfl 2 (by decide) kf_16 (fun _ h9 => h9) rfl (by decide +kernel) rfl rfl (Nat.le_of_ble_eq_true rfl) dX3_insert_117 (fun H locs hP hD hS => ?_)
      have hP : va_P D vwCl [(aM, .inr (3, [.ref aA, .ref aB, .int (nI (c + 1)), .int (bI gl), .int (bI gh), .int (bI li), .int (bI hn), .int (bI fl), .int lo, .int hi])), (aA, .inl (cy, 64, .inl (upd (shA k i c) j x))), (aB, .inl (cy, 64, .inl (upd (shA v i c) j y)))] H := hP
      have hD : va_D _ [(aM, .inr (3, [.ref aA, .ref aB, .int (nI (c + 1)), .int (bI gl), .int (bI gh), .int (bI li), .int (bI hn), .int (bI fl), .int lo, .int hi])), (aA, .inl (cy, 64, .inl (upd (shA k i c) j x))), (aB, .inl (cy, 64, .inl (upd (shA v i c) j y)))] := hD
      exact ret_vM hx hb hr hlocks dX3_insert_120 hS (by rw [hij, upd_sh, upd_sh] at hP; exact hP)
    · refine lv_aload_n hx hb dX3_insert_58 rfl (lv_at hl 0 rfl) ?_
      refine va_get (ci := 3) (v := .ref aA) (C := RX3) (T := TX3) (N := 10) hx hb hts hin_X3 hown hK hP 0 rfl rfl 0 (by decide) kf_9 (fun _ h9 => h9) rfl dX3_insert_59 ?_
      refine lv_iload hx hb dX3_insert_62 (lv_at hl 4 rfl) ?_
      refine lv_aload_n hx hb dX3_insert_64 rfl (lv_at hl 0 rfl) ?_
      refine va_get (ci := 3) (v := .ref aA) (C := RX3) (T := TX3) (N := 10) hx hb hts hin_X3 hown hK hP 0 rfl rfl 0 (by decide) kf_9 (fun _ h9 => h9) rfl dX3_insert_65 ?_
      refine lv_iload hx hb dX3_insert_68 (lv_at hl 4 rfl) ?_
      refine lv_iconst (v := nI 1) hx hb dX3_insert_70 (by decide) ?_
      refine lv_isub hx hb dX3_insert_71 ?_
      refine top_i (y := nI (i - 1)) (pk_sub (by omega)) ?_
      refine a_ld hx hb hK hP 1 0 rfl rfl (by omega) (by decide) dX3_insert_72 ?_
      refine a_st hx hb hK hP hD hS 1 0 rfl rfl (by omega) (by decide) dX3_insert_73 (fun H locs hP hD hS => ?_)
      have hP : va_P D vwCl [(aM, .inr (3, [.ref aA, .ref aB, .int (nI c), .int (bI gl), .int (bI gh), .int (bI li), .int (bI hn), .int (bI fl), .int lo, .int hi])), (aA, .inl (cy, 64, .inl (upd (shA k i c) i ((shA k i c) (i - 1))))), (aB, .inl (cy, 64, .inl (shA v i c)))] H := hP
      have hD : va_D _ [(aM, .inr (3, [.ref aA, .ref aB, .int (nI c), .int (bI gl), .int (bI gh), .int (bI li), .int (bI hn), .int (bI fl), .int lo, .int hi])), (aA, .inl (cy, 64, .inl (upd (shA k i c) i ((shA k i c) (i - 1))))), (aB, .inl (cy, 64, .inl (shA v i c)))] := hD
      refine lv_aload_n hx hb dX3_insert_74 rfl (lv_at hl 0 rfl) ?_
      refine va_get (ci := 3) (v := .ref aB) (C := RX3) (T := TX3) (N := 10) hx hb hts hin_X3 hown hK hP 0 rfl rfl 1 (by decide) kf_13 (fun _ h9 => h9) rfl dX3_insert_75 ?_
      refine lv_iload hx hb dX3_insert_78 (lv_at hl 4 rfl) ?_
      refine lv_aload_n hx hb dX3_insert_80 rfl (lv_at hl 0 rfl) ?_
      refine va_get (ci := 3) (v := .ref aB) (C := RX3) (T := TX3) (N := 10) hx hb hts hin_X3 hown hK hP 0 rfl rfl 1 (by decide) kf_13 (fun _ h9 => h9) rfl dX3_insert_81 ?_
      refine lv_iload hx hb dX3_insert_84 (lv_at hl 4 rfl) ?_
      refine lv_iconst (v := nI 1) hx hb dX3_insert_86 (by decide) ?_
      refine lv_isub hx hb dX3_insert_87 ?_
      refine top_i (y := nI (i - 1)) (pk_sub (by omega)) ?_
      refine a_ld hx hb hK hP 2 0 rfl rfl (by omega) (by decide) dX3_insert_88 ?_
      refine a_st hx hb hK hP hD hS 2 0 rfl rfl (by omega) (by decide) dX3_insert_89 (fun H locs hP hD hS => ?_)
      have hP : va_P D vwCl [(aM, .inr (3, [.ref aA, .ref aB, .int (nI c), .int (bI gl), .int (bI gh), .int (bI li), .int (bI hn), .int (bI fl), .int lo, .int hi])), (aA, .inl (cy, 64, .inl (upd (shA k i c) i ((shA k i c) (i - 1))))), (aB, .inl (cy, 64, .inl (upd (shA v i c) i ((shA v i c) (i - 1)))))] H := hP
      have hD : va_D _ [(aM, .inr (3, [.ref aA, .ref aB, .int (nI c), .int (bI gl), .int (bI gh), .int (bI li), .int (bI hn), .int (bI fl), .int lo, .int hi])), (aA, .inl (cy, 64, .inl (upd (shA k i c) i ((shA k i c) (i - 1))))), (aB, .inl (cy, 64, .inl (upd (shA v i c) i ((shA v i c) (i - 1)))))] := hD
      refine lv_iinc (v := nI (i - 1)) (lv' := [(4, .int (nI (i - 1))), (0, .ref aM), (1, .int (nI j)), (2, .int x), (3, .int y)]) hx hb dX3_insert_90 hl (k := 4) rfl (sb_m1 (by omega)) (by decide) rfl (fun ls hl => ?_)
      refine lv_goto (tgt := 52) hx hb dX3_insert_93 (by decide) ?_
      exact ih (i - 1) _ _ _ (by omega) ⟨lv_sub hl [1, 2, 3, 4, 0] rfl, by rw [← shA_s k (by omega) hi1, ← shA_s v (by omega) hi1]; exact hP, hS, by omega, by omega⟩
  · exact absurd h9 (by omega)

set_option maxHeartbeats 4000000 in
set_option maxRecDepth 100000 in
/-- delete(at) -/
theorem c_X3_delete (l : Launch) (D : va_G) (cy : ClassId) (aM aA aB : Nat) (k v : Nat → Int32) (c : Nat) (hc : c ≤ 64) (gl gh li hn fl : Bool) (lo hi : Int32) (nd : ([aM, aA, aB] : List Nat).Nodup) (sz : Nat) (j : Nat) (hj : j < c) : Met l yX3_delete wsX3_delete ({ frames := 0, cells := 0, slots := 0, locals := 0 } : Room) (pcZ D [(cy, .int)] [.ref aM, .int (nI j)] [(aM, .inr (3, [.ref aA, .ref aB, .int (nI c), .int (bI gl), .int (bI gh), .int (bI li), .int (bI hn), .int (bI fl), .int lo, .int hi])), (aA, .inl (cy, 64, .inl k)), (aB, .inl (cy, 64, .inl v))] sz) (qM none (fun H => va_P D vwCl (mW cy aM aA aB (delA k j c) (delA v j c) (c - 1) gl gh li hn fl lo hi) H) (mA [aM, aA, aB] sz)) 0 0 (mA [aM, aA, aB] sz) := by
  refine met_Z (cc := cX3_delete) (maxL := 3) (ret := none) (by decide +kernel) rfl (Nat.le_of_ble_eq_true rfl) ?_
  intro pM eM s mM below meth cM ls hx hb hr hts hown hlocks hml hnm hsz hK hP hl
  have hown : s.vm.findClass RX3 = some mM.cls := hown
  have hl : lv_has ls 3 [(0, .ref aM), (1, .int (nI j))] := hl
  have hin_X3 : ∀ w ∈ wsX30, w ∈ wsX3_delete := by decide +kernel
  have kf_13 := hts (.fieldLink RX3 13 "OrderedDeskModel" "value" "[I") (by decide +kernel)
  have kf_16 := hts (.fieldLink RX3 16 "OrderedDeskModel" "many" "I") (by decide +kernel)
  have kf_9 := hts (.fieldLink RX3 9 "OrderedDeskModel" "key" "[I") (by decide +kernel)
  have hP : va_P D vwCl [(aM, .inr (3, [.ref aA, .ref aB, .int (nI c), .int (bI gl), .int (bI gh), .int (bI li), .int (bI hn), .int (bI fl), .int lo, .int hi])), (aA, .inl (cy, 64, .inl k)), (aB, .inl (cy, 64, .inl v))] s.heap := hP
  subst hsz
  have ndw := nd
  have hA : ∀ q : Nat, s.heap.size ≤ q → mA [aM, aA, aB] s.heap.size q := fun q h => Or.inr h
  have hAw : ∀ q ∈ ([aM, aA, aB] : List Nat), mA [aM, aA, aB] s.heap.size q := fun q h => Or.inl h
  have hS : va_S (mA [aM, aA, aB] s.heap.size) s.heap s.heap [] := va_S.rf
  have hD : va_D (mA [aM, aA, aB] s.heap.size) [(aM, .inr (3, [.ref aA, .ref aB, .int (nI c), .int (bI gl), .int (bI gh), .int (bI li), .int (bI hn), .int (bI fl), .int lo, .int hi])), (aA, .inl (cy, 64, .inl k)), (aB, .inl (cy, 64, .inl v))] := D_of ndw hAw
  simp only [List.nodup_cons, List.mem_cons, List.not_mem_nil, or_false, not_or, not_false_eq_true, List.nodup_nil, and_true] at nd
  refine lv_aload_n hx hb dX3_delete_0 rfl (lv_at hl 0 rfl) ?_
  refine lv_dup hx hb dX3_delete_1 rfl ?_
  refine va_get (ci := 3) (v := .int (nI c)) (C := RX3) (T := TX3) (N := 10) hx hb hts hin_X3 hown hK hP 0 rfl rfl 2 (by decide) kf_16 (fun _ h9 => h9) rfl dX3_delete_2 ?_
  refine lv_iconst (v := nI 1) hx hb dX3_delete_5 (by decide) ?_
  refine lv_isub hx hb dX3_delete_6 ?_
  refine top_i (y := nI (c - 1)) (pk_sub (by omega)) ?_
  refine va_put (ci := 3) (v := .int (nI (c - 1))) (ty := .int) (C := RX3) (T := TX3) (N := 10) hx hb hts hin_X3 tyX3 tyX3_ok nmX3 hown hK hP hD hS 0 rfl rfl 2 (by decide) kf_16 (fun _ h9 => h9) rfl (by decide +kernel) rfl rfl (Nat.le_of_ble_eq_true rfl) dX3_delete_7 (fun H locs hP hD hS => ?_)
  have hP : va_P D vwCl [(aM, .inr (3, [.ref aA, .ref aB, .int (nI (c - 1)), .int (bI gl), .int (bI gh), .int (bI li), .int (bI hn), .int (bI fl), .int lo, .int hi])), (aA, .inl (cy, 64, .inl k)), (aB, .inl (cy, 64, .inl v))] H := hP
  have hD : va_D _ [(aM, .inr (3, [.ref aA, .ref aB, .int (nI (c - 1)), .int (bI gl), .int (bI gh), .int (bI li), .int (bI hn), .int (bI fl), .int lo, .int hi])), (aA, .inl (cy, 64, .inl k)), (aB, .inl (cy, 64, .inl v))] := hD
  refine lv_iload_n hx hb dX3_delete_10 rfl (lv_at hl 1 rfl) ?_
  refine lv_istore_n (lv' := [(2, .int (nI j)), (0, .ref aM), (1, .int (nI j))]) hx hb dX3_delete_11 rfl hl (by decide) rfl (fun ls hl => ?_)
  refine W_loop (I := fun (i : Nat) (H : Heap) (locs : List Loc) (ls : Array Slot) => lv_has ls 3 [(0, .ref aM), (1, .int (nI j)), (2, .int (nI i))] ∧ va_P D vwCl [(aM, .inr (3, [.ref aA, .ref aB, .int (nI (c - 1)), .int (bI gl), .int (bI gh), .int (bI li), .int (bI hn), .int (bI fl), .int lo, .int hi])), (aA, .inl (cy, 64, .inl (dshA k j i))), (aB, .inl (cy, 64, .inl (dshA v j i)))] H ∧ va_S (mA [aM, aA, aB] s.heap.size) s.heap H locs ∧ i ≤ c - 1 ∧ j ≤ i) (μ := fun i => c - 1 - i) (fun i H locs ls h ih => ?_) j ⟨lv_sub hl [1, 2, 0] rfl, by rw [dshA_0, dshA_0]; exact hP, hS, by omega, Nat.le_refl _⟩
  obtain ⟨hl, hP, hS, hi1, hji⟩ := h
  have hD : va_D (mA [aM, aA, aB] s.heap.size) [(aM, .inr (3, [.ref aA, .ref aB, .int (nI (c - 1)), .int (bI gl), .int (bI gh), .int (bI li), .int (bI hn), .int (bI fl), .int lo, .int hi])), (aA, .inl (cy, 64, .inl (dshA k j i))), (aB, .inl (cy, 64, .inl (dshA v j i)))] := D_of ndw hAw
  refine lv_iload_n hx hb dX3_delete_12 rfl (lv_at hl 2 rfl) ?_
  refine lv_aload_n hx hb dX3_delete_13 rfl (lv_at hl 0 rfl) ?_
  refine va_get (ci := 3) (v := .int (nI (c - 1))) (C := RX3) (T := TX3) (N := 10) hx hb hts hin_X3 hown hK hP 0 rfl rfl 2 (by decide) kf_16 (fun _ h9 => h9) rfl dX3_delete_14 ?_
  refine n_ge (tgt := 54) (by omega) (by omega) hx hb dX3_delete_17 (by decide) (fun h17 => ?_) (fun h17 => ?_)
  · have hij : i = c - 1 := by omega
    exact ret_vM hx hb hr hlocks dX3_delete_54 hS (by rw [hij] at hP; exact hP)
  · refine lv_aload_n hx hb dX3_delete_20 rfl (lv_at hl 0 rfl) ?_
    refine va_get (ci := 3) (v := .ref aA) (C := RX3) (T := TX3) (N := 10) hx hb hts hin_X3 hown hK hP 0 rfl rfl 0 (by decide) kf_9 (fun _ h9 => h9) rfl dX3_delete_21 ?_
    refine lv_iload_n hx hb dX3_delete_24 rfl (lv_at hl 2 rfl) ?_
    refine lv_aload_n hx hb dX3_delete_25 rfl (lv_at hl 0 rfl) ?_
    refine va_get (ci := 3) (v := .ref aA) (C := RX3) (T := TX3) (N := 10) hx hb hts hin_X3 hown hK hP 0 rfl rfl 0 (by decide) kf_9 (fun _ h9 => h9) rfl dX3_delete_26 ?_
    refine lv_iload_n hx hb dX3_delete_29 rfl (lv_at hl 2 rfl) ?_
    refine lv_iconst (v := nI 1) hx hb dX3_delete_30 (by decide) ?_
    refine lv_iadd hx hb dX3_delete_31 ?_
    refine top_i (y := nI (i + 1)) (nI_add _ _) ?_
    refine a_ld hx hb hK hP 1 0 rfl rfl (by omega) (by decide) dX3_delete_32 ?_
    refine a_st hx hb hK hP hD hS 1 0 rfl rfl (by omega) (by decide) dX3_delete_33 (fun H locs hP hD hS => ?_)
    have hP : va_P D vwCl [(aM, .inr (3, [.ref aA, .ref aB, .int (nI (c - 1)), .int (bI gl), .int (bI gh), .int (bI li), .int (bI hn), .int (bI fl), .int lo, .int hi])), (aA, .inl (cy, 64, .inl (upd (dshA k j i) i ((dshA k j i) (i + 1))))), (aB, .inl (cy, 64, .inl (dshA v j i)))] H := hP
    have hD : va_D _ [(aM, .inr (3, [.ref aA, .ref aB, .int (nI (c - 1)), .int (bI gl), .int (bI gh), .int (bI li), .int (bI hn), .int (bI fl), .int lo, .int hi])), (aA, .inl (cy, 64, .inl (upd (dshA k j i) i ((dshA k j i) (i + 1))))), (aB, .inl (cy, 64, .inl (dshA v j i)))] := hD
    refine lv_aload_n hx hb dX3_delete_34 rfl (lv_at hl 0 rfl) ?_
    refine va_get (ci := 3) (v := .ref aB) (C := RX3) (T := TX3) (N := 10) hx hb hts hin_X3 hown hK hP 0 rfl rfl 1 (by decide) kf_13 (fun _ h9 => h9) rfl dX3_delete_35 ?_
    refine lv_iload_n hx hb dX3_delete_38 rfl (lv_at hl 2 rfl) ?_
    refine lv_aload_n hx hb dX3_delete_39 rfl (lv_at hl 0 rfl) ?_
    refine va_get (ci := 3) (v := .ref aB) (C := RX3) (T := TX3) (N := 10) hx hb hts hin_X3 hown hK hP 0 rfl rfl 1 (by decide) kf_13 (fun _ h9 => h9) rfl dX3_delete_40 ?_
    refine lv_iload_n hx hb dX3_delete_43 rfl (lv_at hl 2 rfl) ?_
    refine lv_iconst (v := nI 1) hx hb dX3_delete_44 (by decide) ?_
    refine lv_iadd hx hb dX3_delete_45 ?_
    refine top_i (y := nI (i + 1)) (nI_add _ _) ?_
    refine a_ld hx hb hK hP 2 0 rfl rfl (by omega) (by decide) dX3_delete_46 ?_
    refine a_st hx hb hK hP hD hS 2 0 rfl rfl (by omega) (by decide) dX3_delete_47 (fun H locs hP hD hS => ?_)
    have hP : va_P D vwCl [(aM, .inr (3, [.ref aA, .ref aB, .int (nI (c - 1)), .int (bI gl), .int (bI gh), .int (bI li), .int (bI hn), .int (bI fl), .int lo, .int hi])), (aA, .inl (cy, 64, .inl (upd (dshA k j i) i ((dshA k j i) (i + 1))))), (aB, .inl (cy, 64, .inl (upd (dshA v j i) i ((dshA v j i) (i + 1)))))] H := hP
    have hD : va_D _ [(aM, .inr (3, [.ref aA, .ref aB, .int (nI (c - 1)), .int (bI gl), .int (bI gh), .int (bI li), .int (bI hn), .int (bI fl), .int lo, .int hi])), (aA, .inl (cy, 64, .inl (upd (dshA k j i) i ((dshA k j i) (i + 1))))), (aB, .inl (cy, 64, .inl (upd (dshA v j i) i ((dshA v j i) (i + 1)))))] := hD
    refine lv_iinc (v := nI (i + 1)) (lv' := [(2, .int (nI (i + 1))), (0, .ref aM), (1, .int (nI j))]) hx hb dX3_delete_48 hl (k := 2) rfl (by first | exact nI_1 _ | exact nI_add _ _) (by decide) rfl (fun ls hl => ?_)
    refine lv_goto (tgt := 12) hx hb dX3_delete_51 (by decide) ?_
    exact ih (i + 1) _ _ _ (by omega) ⟨lv_sub hl [1, 2, 0] rfl, by rw [← dshA_s k hji, ← dshA_s v hji]; exact hP, hS, by omega, by omega⟩

set_option maxHeartbeats 4000000 in
set_option maxRecDepth 100000 in
/-- get(k) -/
theorem c_X3_get (l : Launch) (D : va_G) (cy : ClassId) (aM aA aB : Nat) (k v : Nat → Int32) (c : Nat) (hc : c ≤ 64) (gl gh li hn fl : Bool) (lo hi : Int32) (x : Int32) : Met l yX3_get wsX3_get ({ frames := 1, cells := 0, slots := 0, locals := 22 } : Room) (pcW D [(cy, .int)] [.ref aM, .int x] [(aM, .inr (3, [.ref aA, .ref aB, .int (nI c), .int (bI gl), .int (bI gh), .int (bI li), .int (bI hn), .int (bI fl), .int lo, .int hi])), (aA, .inl (cy, 64, .inl k)), (aB, .inl (cy, 64, .inl v))]) (qR (.long (vOf k v c x))) 0 0 (fun _ => False) := by
  refine met_W (cc := cX3_get) (maxL := 3) (ret := (some .long)) (by decide +kernel) rfl (Nat.le_of_ble_eq_true rfl) ?_
  intro pM eM s mM below meth cM ls hx hb hr hts hown hlocks hml hnm hK hP hl
  have hown : s.vm.findClass RX3 = some mM.cls := hown
  have hl : lv_has ls 3 [(0, .ref aM), (1, .int x)] := hl
  have hin_X3 : ∀ w ∈ wsX30, w ∈ wsX3_get := by decide +kernel
  have kf_13 := hts (.fieldLink RX3 13 "OrderedDeskModel" "value" "[I") (by decide +kernel)
  have kc_38 := hts (.constantLong RX3 38 (1099511627776)) (by decide +kernel)
  have hP : va_P D vwCl [(aM, .inr (3, [.ref aA, .ref aB, .int (nI c), .int (bI gl), .int (bI gh), .int (bI li), .int (bI hn), .int (bI fl), .int lo, .int hi])), (aA, .inl (cy, 64, .inl k)), (aB, .inl (cy, 64, .inl v))] s.heap := hP
  have hpl := plc_le k c x.toInt64
  refine lv_aload_n hx hb dX3_get_0 rfl (lv_at hl 0 rfl) ?_
  refine lv_iload_n hx hb dX3_get_1 rfl (lv_at hl 1 rfl) ?_
  refine go_R (va_runV (As := [.int x]) (rest := []) ⟨hx, hb, hml, hown, hts⟩ (c_X3_placeOf l D cy aM aA aB k v c (by omega) gl gh li hn fl lo hi x) (cwV 1 hts gX3_get_X3_placeOf rfl rfl rfl (by decide +kernel) ⟨(Nat.le_of_ble_eq_true rfl), (Nat.le_of_ble_eq_true rfl)⟩) (preV_W hK (hP.sub [0, 1, 2] rfl) 0 3 rfl rfl) rfl rfl hl.1 rfl (lv_room (Nat.le_of_ble_eq_true rfl)) dX3_get_2 ⟨(Nat.le_of_ble_eq_true rfl), (Nat.le_of_ble_eq_true rfl)⟩) ?_
  refine lv_istore_n (lv' := [(2, .int (nI (plc k c x.toInt64))), (0, .ref aM), (1, .int x)]) hx hb dX3_get_5 rfl hl (by decide) rfl (fun ls hl => ?_)
  refine lv_aload_n hx hb dX3_get_6 rfl (lv_at hl 1 rfl) ?_
  refine lv_iload_n hx hb dX3_get_7 rfl (lv_at hl 0 rfl) ?_
  refine lv_iload_n hx hb dX3_get_8 rfl (lv_at hl 2 rfl) ?_
  refine go_R (va_runV (As := [.int (nI (plc k c x.toInt64)), .int x]) (rest := []) ⟨hx, hb, hml, hown, hts⟩ (c_X3_isAt l D cy aM aA aB k v c (by omega) gl gh li hn fl lo hi (plc k c x.toInt64) (by omega) x) (cwV 2 hts gX3_get_X3_isAt rfl rfl rfl (by decide +kernel) ⟨(Nat.le_of_ble_eq_true rfl), (Nat.le_of_ble_eq_true rfl)⟩) (preV_W hK (hP.sub [0, 1, 2] rfl) 0 3 rfl rfl) rfl rfl hl.1 rfl (lv_room (Nat.le_of_ble_eq_true rfl)) dX3_get_9 ⟨(Nat.le_of_ble_eq_true rfl), (Nat.le_of_ble_eq_true rfl)⟩) ?_
  refine b_eq (tgt := 25) hx hb dX3_get_12 (by decide) (fun h12 => ?_) (fun h12 => ?_)
  · have hz : vOf k v c x = NO := if_neg (by rw [h12]; decide)
    refine lv_ldc2 hx hb hown kc_38 dX3_get_25 ?_
    exact ret_l hx hb hr hlocks dX3_get_28 (by rw [hz])
  · have hz : vOf k v c x = (v (plc k c x.toInt64)).toInt64 := if_pos h12
    refine lv_aload_n hx hb dX3_get_15 rfl (lv_at hl 1 rfl) ?_
    refine va_get (ci := 3) (v := .ref aB) (C := RX3) (T := TX3) (N := 10) hx hb hts hin_X3 hown hK hP 0 rfl rfl 1 (by decide) kf_13 (fun _ h9 => h9) rfl dX3_get_16 ?_
    refine lv_iload_n hx hb dX3_get_19 rfl (lv_at hl 0 rfl) ?_
    refine a_ld hx hb hK hP 2 0 rfl rfl (by have := atK_lt h12; omega) (by decide) dX3_get_20 ?_
    refine lv_i2l hx hb dX3_get_21 rfl ?_
    refine lv_goto (tgt := 28) hx hb dX3_get_22 (by decide) ?_
    exact ret_l hx hb hr hlocks dX3_get_28 (by rw [hz])

set_option maxHeartbeats 4000000 in
set_option maxRecDepth 100000 in
/-- put(k, v) -/
theorem c_X3_put (l : Launch) (D : va_G) (cy : ClassId) (aM aA aB : Nat) (k v : Nat → Int32) (c : Nat) (hc : c ≤ 64) (gl gh li hn fl : Bool) (lo hi : Int32) (nd : ([aM, aA, aB] : List Nat).Nodup) (sz : Nat) (hc2 : c < 64) (x y : Int32) : Met l yX3_put wsX3_put ({ frames := 1, cells := 0, slots := 0, locals := 24 } : Room) (pcZ D [(cy, .int)] [.ref aM, .int x, .int y] [(aM, .inr (3, [.ref aA, .ref aB, .int (nI c), .int (bI gl), .int (bI gh), .int (bI li), .int (bI hn), .int (bI fl), .int lo, .int hi])), (aA, .inl (cy, 64, .inl k)), (aB, .inl (cy, 64, .inl v))] sz) (qM (some (.long (vOf k v c x))) (fun H => va_P D vwCl (mW cy aM aA aB (stK k c x) (stV k v c x y) (stC k c x) gl gh li hn fl lo hi) H) (mA [aM, aA, aB] sz)) 0 0 (mA [aM, aA, aB] sz) := by
  refine met_Z (cc := cX3_put) (maxL := 5) (ret := (some .long)) (by decide +kernel) rfl (Nat.le_of_ble_eq_true rfl) ?_
  intro pM eM s mM below meth cM ls hx hb hr hts hown hlocks hml hnm hsz hK hP hl
  have hown : s.vm.findClass RX3 = some mM.cls := hown
  have hl : lv_has ls 5 [(0, .ref aM), (1, .int x), (2, .int y)] := hl
  have hin_X3 : ∀ w ∈ wsX30, w ∈ wsX3_put := by decide +kernel
  have kf_13 := hts (.fieldLink RX3 13 "OrderedDeskModel" "value" "[I") (by decide +kernel)
  have kc_38 := hts (.constantLong RX3 38 (1099511627776)) (by decide +kernel)
  have hP : va_P D vwCl [(aM, .inr (3, [.ref aA, .ref aB, .int (nI c), .int (bI gl), .int (bI gh), .int (bI li), .int (bI hn), .int (bI fl), .int lo, .int hi])), (aA, .inl (cy, 64, .inl k)), (aB, .inl (cy, 64, .inl v))] s.heap := hP
  subst hsz
  have ndw := nd
  have hA : ∀ q : Nat, s.heap.size ≤ q → mA [aM, aA, aB] s.heap.size q := fun q h => Or.inr h
  have hAw : ∀ q ∈ ([aM, aA, aB] : List Nat), mA [aM, aA, aB] s.heap.size q := fun q h => Or.inl h
  have hS : va_S (mA [aM, aA, aB] s.heap.size) s.heap s.heap [] := va_S.rf
  have hD : va_D (mA [aM, aA, aB] s.heap.size) [(aM, .inr (3, [.ref aA, .ref aB, .int (nI c), .int (bI gl), .int (bI gh), .int (bI li), .int (bI hn), .int (bI fl), .int lo, .int hi])), (aA, .inl (cy, 64, .inl k)), (aB, .inl (cy, 64, .inl v))] := D_of ndw hAw
  simp only [List.nodup_cons, List.mem_cons, List.not_mem_nil, or_false, not_or, not_false_eq_true, List.nodup_nil, and_true] at nd
  have hpl := plc_le k c x.toInt64
  refine lv_aload_n hx hb dX3_put_0 rfl (lv_at hl 0 rfl) ?_
  refine lv_iload_n hx hb dX3_put_1 rfl (lv_at hl 1 rfl) ?_
  refine go_R (va_runV (As := [.int x]) (rest := []) ⟨hx, hb, hml, hown, hts⟩ (c_X3_placeOf l D cy aM aA aB k v c (by omega) gl gh li hn fl lo hi x) (cwV 1 hts gX3_put_X3_placeOf rfl rfl rfl (by decide +kernel) ⟨(Nat.le_of_ble_eq_true rfl), (Nat.le_of_ble_eq_true rfl)⟩) (preV_W hK (hP.sub [0, 1, 2] rfl) 0 3 rfl rfl) rfl rfl hl.1 rfl (lv_room (Nat.le_of_ble_eq_true rfl)) dX3_put_2 ⟨(Nat.le_of_ble_eq_true rfl), (Nat.le_of_ble_eq_true rfl)⟩) ?_
  refine lv_istore_n (lv' := [(3, .int (nI (plc k c x.toInt64))), (0, .ref aM), (1, .int x), (2, .int y)]) hx hb dX3_put_5 rfl hl (by decide) rfl (fun ls hl => ?_)
  refine lv_aload_n hx hb dX3_put_6 rfl (lv_at hl 1 rfl) ?_
  refine lv_iload_n hx hb dX3_put_7 rfl (lv_at hl 0 rfl) ?_
  refine lv_iload_n hx hb dX3_put_8 rfl (lv_at hl 2 rfl) ?_
  refine go_R (va_runV (As := [.int (nI (plc k c x.toInt64)), .int x]) (rest := []) ⟨hx, hb, hml, hown, hts⟩ (c_X3_isAt l D cy aM aA aB k v c (by omega) gl gh li hn fl lo hi (plc k c x.toInt64) (by omega) x) (cwV 2 hts gX3_put_X3_isAt rfl rfl rfl (by decide +kernel) ⟨(Nat.le_of_ble_eq_true rfl), (Nat.le_of_ble_eq_true rfl)⟩) (preV_W hK (hP.sub [0, 1, 2] rfl) 0 3 rfl rfl) rfl rfl hl.1 rfl (lv_room (Nat.le_of_ble_eq_true rfl)) dX3_put_9 ⟨(Nat.le_of_ble_eq_true rfl), (Nat.le_of_ble_eq_true rfl)⟩) ?_
  refine b_ne (tgt := 26) hx hb dX3_put_12 (by decide) (fun h12 => ?_) (fun h12 => ?_)
  · have hz : vOf k v c x = (v (plc k c x.toInt64)).toInt64 := if_pos h12
    have e1 : stK k c x = k := if_pos h12
    have e2 : stV k v c x y = upd v (plc k c x.toInt64) y := if_pos h12
    have e3 : stC k c x = c := if_pos h12
    refine lv_aload_n hx hb dX3_put_26 rfl (lv_at hl 1 rfl) ?_
    refine va_get (ci := 3) (v := .ref aB) (C := RX3) (T := TX3) (N := 10) hx hb hts hin_X3 hown hK hP 0 rfl rfl 1 (by decide) kf_13 (fun _ h9 => h9) rfl dX3_put_27 ?_
    refine lv_iload_n hx hb dX3_put_30 rfl (lv_at hl 0 rfl) ?_
    refine a_ld hx hb hK hP 2 0 rfl rfl (by have := atK_lt h12; omega) (by decide) dX3_put_31 ?_
    refine lv_istore (lv' := [(4, .int (v (plc k c x.toInt64))), (3, .int (nI (plc k c x.toInt64))), (0, .ref aM), (1, .int x), (2, .int y)]) hx hb dX3_put_32 hl (by decide) rfl (fun ls hl => ?_)
    refine lv_aload_n hx hb dX3_put_34 rfl (lv_at hl 2 rfl) ?_
    refine va_get (ci := 3) (v := .ref aB) (C := RX3) (T := TX3) (N := 10) hx hb hts hin_X3 hown hK hP 0 rfl rfl 1 (by decide) kf_13 (fun _ h9 => h9) rfl dX3_put_35 ?_
    refine lv_iload_n hx hb dX3_put_38 rfl (lv_at hl 1 rfl) ?_
    refine lv_iload_n hx hb dX3_put_39 rfl (lv_at hl 4 rfl) ?_
    refine a_st hx hb hK hP hD hS 2 0 rfl rfl (by have := atK_lt h12; omega) (by decide) dX3_put_40 (fun H locs hP hD hS => ?_)
    have hP : va_P D vwCl [(aM, .inr (3, [.ref aA, .ref aB, .int (nI c), .int (bI gl), .int (bI gh), .int (bI li), .int (bI hn), .int (bI fl), .int lo, .int hi])), (aA, .inl (cy, 64, .inl k)), (aB, .inl (cy, 64, .inl (upd v (plc k c x.toInt64) y)))] H := hP
    have hD : va_D _ [(aM, .inr (3, [.ref aA, .ref aB, .int (nI c), .int (bI gl), .int (bI gh), .int (bI li), .int (bI hn), .int (bI fl), .int lo, .int hi])), (aA, .inl (cy, 64, .inl k)), (aB, .inl (cy, 64, .inl (upd v (plc k c x.toInt64) y)))] := hD
    refine lv_iload hx hb dX3_put_41 (lv_at hl 0 rfl) ?_
    refine lv_i2l hx hb dX3_put_43 rfl ?_
    exact ret_lM hx hb hr hlocks dX3_put_44 hS (by rw [hz]) (by rw [e1, e2, e3]; exact hP)
  · have h12n : ¬ atK k c (plc k c x.toInt64) x = true := by rw [h12]; decide
    have hz : vOf k v c x = NO := if_neg h12n
    have e1 : stK k c x = insA k (plc k c x.toInt64) c x := if_neg h12n
    have e2 : stV k v c x y = insA v (plc k c x.toInt64) c y := if_neg h12n
    have e3 : stC k c x = c + 1 := if_neg h12n
    refine lv_aload_n hx hb dX3_put_15 rfl (lv_at hl 1 rfl) ?_
    refine lv_iload_n hx hb dX3_put_16 rfl (lv_at hl 0 rfl) ?_
    refine lv_iload_n hx hb dX3_put_17 rfl (lv_at hl 2 rfl) ?_
    refine lv_iload_n hx hb dX3_put_18 rfl (lv_at hl 3 rfl) ?_
    refine go_V (va_runV (As := [.int (nI (plc k c x.toInt64)), .int x, .int y]) (rest := []) ⟨hx, hb, hml, hown, hts⟩ (c_X3_insert l D cy aM aA aB k v c (by omega) gl gh li hn fl lo hi (by simp; omega) _ (plc k c x.toInt64) (by omega) (by omega) x y) (cwV 3 hts gX3_put_X3_insert rfl rfl rfl (by decide +kernel) ⟨(Nat.le_of_ble_eq_true rfl), (Nat.le_of_ble_eq_true rfl)⟩) (preV_Z hK (hP.sub [0, 1, 2] rfl) 0 3 rfl rfl) rfl rfl hl.1 rfl (lv_room (Nat.le_of_ble_eq_true rfl)) dX3_put_19 ⟨(Nat.le_of_ble_eq_true rfl), (Nat.le_of_ble_eq_true rfl)⟩) hS (fun q h => mA_sub [0, 1, 2] rfl hS.1 h) (fun H1 locs1 hB hzz hk hS => ?_)
    have hP : va_P D vwCl [(aM, .inr (3, [.ref aA, .ref aB, .int (nI (c + 1)), .int (bI gl), .int (bI gh), .int (bI li), .int (bI hn), .int (bI fl), .int lo, .int hi])), (aA, .inl (cy, 64, .inl (insA k (plc k c x.toInt64) c x))), (aB, .inl (cy, 64, .inl (insA v (plc k c x.toInt64) c y)))] H1 := va_P.sub hB [0, 1, 2] rfl
    have hD : va_D (mA [aM, aA, aB] s.heap.size) [(aM, .inr (3, [.ref aA, .ref aB, .int (nI (c + 1)), .int (bI gl), .int (bI gh), .int (bI li), .int (bI hn), .int (bI fl), .int lo, .int hi])), (aA, .inl (cy, 64, .inl (insA k (plc k c x.toInt64) c x))), (aB, .inl (cy, 64, .inl (insA v (plc k c x.toInt64) c y)))] := D_of ndw hAw
    clear hB
    generalize H1 = H at hP hS ⊢
    generalize locs1 = locs at hS ⊢
    refine lv_ldc2 hx hb hown kc_38 dX3_put_22 ?_
    exact ret_lM hx hb hr hlocks dX3_put_25 hS (by rw [hz]) (by rw [e1, e2, e3]; exact hP)

set_option maxHeartbeats 4000000 in
set_option maxRecDepth 100000 in
/-- add(k, v) -/
theorem c_X3_add (l : Launch) (D : va_G) (cy : ClassId) (aM aA aB : Nat) (k v : Nat → Int32) (c : Nat) (hc : c ≤ 64) (gl gh li hn fl : Bool) (lo hi : Int32) (nd : ([aM, aA, aB] : List Nat).Nodup) (sz : Nat) (hc2 : c < 64) (x y : Int32) : Met l yX3_add wsX3_add ({ frames := 1, cells := 0, slots := 0, locals := 24 } : Room) (pcZ D [(cy, .int)] [.ref aM, .int x, .int y] [(aM, .inr (3, [.ref aA, .ref aB, .int (nI c), .int (bI gl), .int (bI gh), .int (bI li), .int (bI hn), .int (bI fl), .int lo, .int hi])), (aA, .inl (cy, 64, .inl k)), (aB, .inl (cy, 64, .inl v))] sz) (qM (some (.long (vOf k v c x))) (fun H => va_P D vwCl (mW cy aM aA aB ((maT k v c x y).2.1) ((maT k v c x y).2.2) ((maT k v c x y).1) gl gh li hn fl lo hi) H) (mA [aM, aA, aB] sz)) 0 0 (mA [aM, aA, aB] sz) := by
  refine met_Z (cc := cX3_add) (maxL := 4) (ret := (some .long)) (by decide +kernel) rfl (Nat.le_of_ble_eq_true rfl) ?_
  intro pM eM s mM below meth cM ls hx hb hr hts hown hlocks hml hnm hsz hK hP hl
  have hown : s.vm.findClass RX3 = some mM.cls := hown
  have hl : lv_has ls 4 [(0, .ref aM), (1, .int x), (2, .int y)] := hl
  have hin_X3 : ∀ w ∈ wsX30, w ∈ wsX3_add := by decide +kernel
  have kf_13 := hts (.fieldLink RX3 13 "OrderedDeskModel" "value" "[I") (by decide +kernel)
  have kc_38 := hts (.constantLong RX3 38 (1099511627776)) (by decide +kernel)
  have hP : va_P D vwCl [(aM, .inr (3, [.ref aA, .ref aB, .int (nI c), .int (bI gl), .int (bI gh), .int (bI li), .int (bI hn), .int (bI fl), .int lo, .int hi])), (aA, .inl (cy, 64, .inl k)), (aB, .inl (cy, 64, .inl v))] s.heap := hP
  subst hsz
  have ndw := nd
  have hA : ∀ q : Nat, s.heap.size ≤ q → mA [aM, aA, aB] s.heap.size q := fun q h => Or.inr h
  have hAw : ∀ q ∈ ([aM, aA, aB] : List Nat), mA [aM, aA, aB] s.heap.size q := fun q h => Or.inl h
  have hS : va_S (mA [aM, aA, aB] s.heap.size) s.heap s.heap [] := va_S.rf
  have hD : va_D (mA [aM, aA, aB] s.heap.size) [(aM, .inr (3, [.ref aA, .ref aB, .int (nI c), .int (bI gl), .int (bI gh), .int (bI li), .int (bI hn), .int (bI fl), .int lo, .int hi])), (aA, .inl (cy, 64, .inl k)), (aB, .inl (cy, 64, .inl v))] := D_of ndw hAw
  simp only [List.nodup_cons, List.mem_cons, List.not_mem_nil, or_false, not_or, not_false_eq_true, List.nodup_nil, and_true] at nd
  have hpl := plc_le k c x.toInt64
  refine lv_aload_n hx hb dX3_add_0 rfl (lv_at hl 0 rfl) ?_
  refine lv_iload_n hx hb dX3_add_1 rfl (lv_at hl 1 rfl) ?_
  refine go_R (va_runV (As := [.int x]) (rest := []) ⟨hx, hb, hml, hown, hts⟩ (c_X3_placeOf l D cy aM aA aB k v c (by omega) gl gh li hn fl lo hi x) (cwV 1 hts gX3_add_X3_placeOf rfl rfl rfl (by decide +kernel) ⟨(Nat.le_of_ble_eq_true rfl), (Nat.le_of_ble_eq_true rfl)⟩) (preV_W hK (hP.sub [0, 1, 2] rfl) 0 3 rfl rfl) rfl rfl hl.1 rfl (lv_room (Nat.le_of_ble_eq_true rfl)) dX3_add_2 ⟨(Nat.le_of_ble_eq_true rfl), (Nat.le_of_ble_eq_true rfl)⟩) ?_
  refine lv_istore_n (lv' := [(3, .int (nI (plc k c x.toInt64))), (0, .ref aM), (1, .int x), (2, .int y)]) hx hb dX3_add_5 rfl hl (by decide) rfl (fun ls hl => ?_)
  refine lv_aload_n hx hb dX3_add_6 rfl (lv_at hl 1 rfl) ?_
  refine lv_iload_n hx hb dX3_add_7 rfl (lv_at hl 0 rfl) ?_
  refine lv_iload_n hx hb dX3_add_8 rfl (lv_at hl 2 rfl) ?_
  refine go_R (va_runV (As := [.int (nI (plc k c x.toInt64)), .int x]) (rest := []) ⟨hx, hb, hml, hown, hts⟩ (c_X3_isAt l D cy aM aA aB k v c (by omega) gl gh li hn fl lo hi (plc k c x.toInt64) (by omega) x) (cwV 2 hts gX3_add_X3_isAt rfl rfl rfl (by decide +kernel) ⟨(Nat.le_of_ble_eq_true rfl), (Nat.le_of_ble_eq_true rfl)⟩) (preV_W hK (hP.sub [0, 1, 2] rfl) 0 3 rfl rfl) rfl rfl hl.1 rfl (lv_room (Nat.le_of_ble_eq_true rfl)) dX3_add_9 ⟨(Nat.le_of_ble_eq_true rfl), (Nat.le_of_ble_eq_true rfl)⟩) ?_
  refine b_eq (tgt := 23) hx hb dX3_add_12 (by decide) (fun h12 => ?_) (fun h12 => ?_)
  · have h12n : ¬ atK k c (plc k c x.toInt64) x = true := by rw [h12]; decide
    have hz : vOf k v c x = NO := if_neg h12n
    have e1 : maT k v c x y = (c + 1, insA k (plc k c x.toInt64) c x, insA v (plc k c x.toInt64) c y) := if_neg h12n
    refine lv_aload_n hx hb dX3_add_23 rfl (lv_at hl 1 rfl) ?_
    refine lv_iload_n hx hb dX3_add_24 rfl (lv_at hl 0 rfl) ?_
    refine lv_iload_n hx hb dX3_add_25 rfl (lv_at hl 2 rfl) ?_
    refine lv_iload_n hx hb dX3_add_26 rfl (lv_at hl 3 rfl) ?_
    refine go_V (va_runV (As := [.int (nI (plc k c x.toInt64)), .int x, .int y]) (rest := []) ⟨hx, hb, hml, hown, hts⟩ (c_X3_insert l D cy aM aA aB k v c (by omega) gl gh li hn fl lo hi (by simp; omega) _ (plc k c x.toInt64) (by omega) (by omega) x y) (cwV 3 hts gX3_add_X3_insert rfl rfl rfl (by decide +kernel) ⟨(Nat.le_of_ble_eq_true rfl), (Nat.le_of_ble_eq_true rfl)⟩) (preV_Z hK (hP.sub [0, 1, 2] rfl) 0 3 rfl rfl) rfl rfl hl.1 rfl (lv_room (Nat.le_of_ble_eq_true rfl)) dX3_add_27 ⟨(Nat.le_of_ble_eq_true rfl), (Nat.le_of_ble_eq_true rfl)⟩) hS (fun q h => mA_sub [0, 1, 2] rfl hS.1 h) (fun H1 locs1 hB hzz hk hS => ?_)
    have hP : va_P D vwCl [(aM, .inr (3, [.ref aA, .ref aB, .int (nI (c + 1)), .int (bI gl), .int (bI gh), .int (bI li), .int (bI hn), .int (bI fl), .int lo, .int hi])), (aA, .inl (cy, 64, .inl (insA k (plc k c x.toInt64) c x))), (aB, .inl (cy, 64, .inl (insA v (plc k c x.toInt64) c y)))] H1 := va_P.sub hB [0, 1, 2] rfl
    have hD : va_D (mA [aM, aA, aB] s.heap.size) [(aM, .inr (3, [.ref aA, .ref aB, .int (nI (c + 1)), .int (bI gl), .int (bI gh), .int (bI li), .int (bI hn), .int (bI fl), .int lo, .int hi])), (aA, .inl (cy, 64, .inl (insA k (plc k c x.toInt64) c x))), (aB, .inl (cy, 64, .inl (insA v (plc k c x.toInt64) c y)))] := D_of ndw hAw
    clear hB
    generalize H1 = H at hP hS ⊢
    generalize locs1 = locs at hS ⊢
    refine lv_ldc2 hx hb hown kc_38 dX3_add_30 ?_
    exact ret_lM hx hb hr hlocks dX3_add_33 hS (by rw [hz]) (by rw [e1]; exact hP)
  · have hz : vOf k v c x = (v (plc k c x.toInt64)).toInt64 := if_pos h12
    have e1 : maT k v c x y = (c, k, v) := if_pos h12
    refine lv_aload_n hx hb dX3_add_15 rfl (lv_at hl 1 rfl) ?_
    refine va_get (ci := 3) (v := .ref aB) (C := RX3) (T := TX3) (N := 10) hx hb hts hin_X3 hown hK hP 0 rfl rfl 1 (by decide) kf_13 (fun _ h9 => h9) rfl dX3_add_16 ?_
    refine lv_iload_n hx hb dX3_add_19 rfl (lv_at hl 0 rfl) ?_
    refine a_ld hx hb hK hP 2 0 rfl rfl (by have := atK_lt h12; omega) (by decide) dX3_add_20 ?_
    refine lv_i2l hx hb dX3_add_21 rfl ?_
    exact ret_lM hx hb hr hlocks dX3_add_22 hS (by rw [hz]) (by rw [e1]; exact hP)

set_option maxHeartbeats 4000000 in
set_option maxRecDepth 100000 in
/-- remove(k) -/
theorem c_X3_remove (l : Launch) (D : va_G) (cy : ClassId) (aM aA aB : Nat) (k v : Nat → Int32) (c : Nat) (hc : c ≤ 64) (gl gh li hn fl : Bool) (lo hi : Int32) (nd : ([aM, aA, aB] : List Nat).Nodup) (sz : Nat) (x : Int32) : Met l yX3_remove wsX3_remove ({ frames := 1, cells := 0, slots := 0, locals := 22 } : Room) (pcZ D [(cy, .int)] [.ref aM, .int x] [(aM, .inr (3, [.ref aA, .ref aB, .int (nI c), .int (bI gl), .int (bI gh), .int (bI li), .int (bI hn), .int (bI fl), .int lo, .int hi])), (aA, .inl (cy, 64, .inl k)), (aB, .inl (cy, 64, .inl v))] sz) (qM (some (.long (vOf k v c x))) (fun H => va_P D vwCl (mW cy aM aA aB ((mdT k v c x).2.1) ((mdT k v c x).2.2) ((mdT k v c x).1) gl gh li hn fl lo hi) H) (mA [aM, aA, aB] sz)) 0 0 (mA [aM, aA, aB] sz) := by
  refine met_Z (cc := cX3_remove) (maxL := 4) (ret := (some .long)) (by decide +kernel) rfl (Nat.le_of_ble_eq_true rfl) ?_
  intro pM eM s mM below meth cM ls hx hb hr hts hown hlocks hml hnm hsz hK hP hl
  have hown : s.vm.findClass RX3 = some mM.cls := hown
  have hl : lv_has ls 4 [(0, .ref aM), (1, .int x)] := hl
  have hin_X3 : ∀ w ∈ wsX30, w ∈ wsX3_remove := by decide +kernel
  have kf_13 := hts (.fieldLink RX3 13 "OrderedDeskModel" "value" "[I") (by decide +kernel)
  have kc_38 := hts (.constantLong RX3 38 (1099511627776)) (by decide +kernel)
  have hP : va_P D vwCl [(aM, .inr (3, [.ref aA, .ref aB, .int (nI c), .int (bI gl), .int (bI gh), .int (bI li), .int (bI hn), .int (bI fl), .int lo, .int hi])), (aA, .inl (cy, 64, .inl k)), (aB, .inl (cy, 64, .inl v))] s.heap := hP
  subst hsz
  have ndw := nd
  have hA : ∀ q : Nat, s.heap.size ≤ q → mA [aM, aA, aB] s.heap.size q := fun q h => Or.inr h
  have hAw : ∀ q ∈ ([aM, aA, aB] : List Nat), mA [aM, aA, aB] s.heap.size q := fun q h => Or.inl h
  have hS : va_S (mA [aM, aA, aB] s.heap.size) s.heap s.heap [] := va_S.rf
  have hD : va_D (mA [aM, aA, aB] s.heap.size) [(aM, .inr (3, [.ref aA, .ref aB, .int (nI c), .int (bI gl), .int (bI gh), .int (bI li), .int (bI hn), .int (bI fl), .int lo, .int hi])), (aA, .inl (cy, 64, .inl k)), (aB, .inl (cy, 64, .inl v))] := D_of ndw hAw
  simp only [List.nodup_cons, List.mem_cons, List.not_mem_nil, or_false, not_or, not_false_eq_true, List.nodup_nil, and_true] at nd
  have hpl := plc_le k c x.toInt64
  refine lv_aload_n hx hb dX3_remove_0 rfl (lv_at hl 0 rfl) ?_
  refine lv_iload_n hx hb dX3_remove_1 rfl (lv_at hl 1 rfl) ?_
  refine go_R (va_runV (As := [.int x]) (rest := []) ⟨hx, hb, hml, hown, hts⟩ (c_X3_placeOf l D cy aM aA aB k v c (by omega) gl gh li hn fl lo hi x) (cwV 1 hts gX3_remove_X3_placeOf rfl rfl rfl (by decide +kernel) ⟨(Nat.le_of_ble_eq_true rfl), (Nat.le_of_ble_eq_true rfl)⟩) (preV_W hK (hP.sub [0, 1, 2] rfl) 0 3 rfl rfl) rfl rfl hl.1 rfl (lv_room (Nat.le_of_ble_eq_true rfl)) dX3_remove_2 ⟨(Nat.le_of_ble_eq_true rfl), (Nat.le_of_ble_eq_true rfl)⟩) ?_
  refine lv_istore_n (lv' := [(2, .int (nI (plc k c x.toInt64))), (0, .ref aM), (1, .int x)]) hx hb dX3_remove_5 rfl hl (by decide) rfl (fun ls hl => ?_)
  refine lv_aload_n hx hb dX3_remove_6 rfl (lv_at hl 1 rfl) ?_
  refine lv_iload_n hx hb dX3_remove_7 rfl (lv_at hl 0 rfl) ?_
  refine lv_iload_n hx hb dX3_remove_8 rfl (lv_at hl 2 rfl) ?_
  refine go_R (va_runV (As := [.int (nI (plc k c x.toInt64)), .int x]) (rest := []) ⟨hx, hb, hml, hown, hts⟩ (c_X3_isAt l D cy aM aA aB k v c (by omega) gl gh li hn fl lo hi (plc k c x.toInt64) (by omega) x) (cwV 2 hts gX3_remove_X3_isAt rfl rfl rfl (by decide +kernel) ⟨(Nat.le_of_ble_eq_true rfl), (Nat.le_of_ble_eq_true rfl)⟩) (preV_W hK (hP.sub [0, 1, 2] rfl) 0 3 rfl rfl) rfl rfl hl.1 rfl (lv_room (Nat.le_of_ble_eq_true rfl)) dX3_remove_9 ⟨(Nat.le_of_ble_eq_true rfl), (Nat.le_of_ble_eq_true rfl)⟩) ?_
  refine b_ne (tgt := 19) hx hb dX3_remove_12 (by decide) (fun h12 => ?_) (fun h12 => ?_)
  · have hlt := atK_lt h12
    have hz : vOf k v c x = (v (plc k c x.toInt64)).toInt64 := if_pos h12
    have e1 : mdT k v c x = (c - 1, delA k (plc k c x.toInt64) c, delA v (plc k c x.toInt64) c) := if_pos h12
    refine lv_aload_n hx hb dX3_remove_19 rfl (lv_at hl 1 rfl) ?_
    refine va_get (ci := 3) (v := .ref aB) (C := RX3) (T := TX3) (N := 10) hx hb hts hin_X3 hown hK hP 0 rfl rfl 1 (by decide) kf_13 (fun _ h9 => h9) rfl dX3_remove_20 ?_
    refine lv_iload_n hx hb dX3_remove_23 rfl (lv_at hl 0 rfl) ?_
    refine a_ld hx hb hK hP 2 0 rfl rfl (by have := atK_lt h12; omega) (by decide) dX3_remove_24 ?_
    refine lv_istore_n (lv' := [(3, .int (v (plc k c x.toInt64))), (2, .int (nI (plc k c x.toInt64))), (0, .ref aM), (1, .int x)]) hx hb dX3_remove_25 rfl hl (by decide) rfl (fun ls hl => ?_)
    refine lv_aload_n hx hb dX3_remove_26 rfl (lv_at hl 2 rfl) ?_
    refine lv_iload_n hx hb dX3_remove_27 rfl (lv_at hl 1 rfl) ?_
    refine go_V (va_runV (As := [.int (nI (plc k c x.toInt64))]) (rest := []) ⟨hx, hb, hml, hown, hts⟩ (c_X3_delete l D cy aM aA aB k v c (by omega) gl gh li hn fl lo hi (by simp; omega) _ (plc k c x.toInt64) (by omega)) (cwV 1 hts gX3_remove_X3_delete rfl rfl rfl (by decide +kernel) ⟨(Nat.le_of_ble_eq_true rfl), (Nat.le_of_ble_eq_true rfl)⟩) (preV_Z hK (hP.sub [0, 1, 2] rfl) 0 3 rfl rfl) rfl rfl hl.1 rfl (lv_room (Nat.le_of_ble_eq_true rfl)) dX3_remove_28 ⟨(Nat.le_of_ble_eq_true rfl), (Nat.le_of_ble_eq_true rfl)⟩) hS (fun q h => mA_sub [0, 1, 2] rfl hS.1 h) (fun H1 locs1 hB hzz hk hS => ?_)
    have hP : va_P D vwCl [(aM, .inr (3, [.ref aA, .ref aB, .int (nI (c - 1)), .int (bI gl), .int (bI gh), .int (bI li), .int (bI hn), .int (bI fl), .int lo, .int hi])), (aA, .inl (cy, 64, .inl (delA k (plc k c x.toInt64) c))), (aB, .inl (cy, 64, .inl (delA v (plc k c x.toInt64) c)))] H1 := va_P.sub hB [0, 1, 2] rfl
    have hD : va_D (mA [aM, aA, aB] s.heap.size) [(aM, .inr (3, [.ref aA, .ref aB, .int (nI (c - 1)), .int (bI gl), .int (bI gh), .int (bI li), .int (bI hn), .int (bI fl), .int lo, .int hi])), (aA, .inl (cy, 64, .inl (delA k (plc k c x.toInt64) c))), (aB, .inl (cy, 64, .inl (delA v (plc k c x.toInt64) c)))] := D_of ndw hAw
    clear hB
    generalize H1 = H at hP hS ⊢
    generalize locs1 = locs at hS ⊢
    refine lv_iload_n hx hb dX3_remove_31 rfl (lv_at hl 0 rfl) ?_
    refine lv_i2l hx hb dX3_remove_32 rfl ?_
    exact ret_lM hx hb hr hlocks dX3_remove_33 hS (by rw [hz]) (by rw [e1]; exact hP)
  · have h12n : ¬ atK k c (plc k c x.toInt64) x = true := by rw [h12]; decide
    have hz : vOf k v c x = NO := if_neg h12n
    have e1 : mdT k v c x = (c, k, v) := if_neg h12n
    refine lv_ldc2 hx hb hown kc_38 dX3_remove_15 ?_
    exact ret_lM hx hb hr hlocks dX3_remove_18 hS (by rw [hz]) (by rw [e1]; exact hP)

set_option maxHeartbeats 4000000 in
set_option maxRecDepth 100000 in
/-- has(what, number) -/
theorem c_X3_has (l : Launch) (D : va_G) (cy : ClassId) (aM aA aB : Nat) (k v : Nat → Int32) (c : Nat) (hc : c ≤ 64) (gl gh li hn fl : Bool) (lo hi : Int32) (w x : Int32) : Met l yX3_has wsX3_has ({ frames := 0, cells := 0, slots := 0, locals := 0 } : Room) (pcW D [(cy, .int)] [.ref aM, .int w, .int x] [(aM, .inr (3, [.ref aA, .ref aB, .int (nI c), .int (bI gl), .int (bI gh), .int (bI li), .int (bI hn), .int (bI fl), .int lo, .int hi])), (aA, .inl (cy, 64, .inl k)), (aB, .inl (cy, 64, .inl v))]) (qR (.int (bI (hsM k v c w x)))) 0 0 (fun _ => False) := by
  refine met_W (cc := cX3_has) (maxL := 4) (ret := (some .boolean)) (by decide +kernel) rfl (Nat.le_of_ble_eq_true rfl) ?_
  intro pM eM s mM below meth cM ls hx hb hr hts hown hlocks hml hnm hK hP hl
  have hown : s.vm.findClass RX3 = some mM.cls := hown
  have hl : lv_has ls 4 [(0, .ref aM), (1, .int w), (2, .int x)] := hl
  have hin_X3 : ∀ w ∈ wsX30, w ∈ wsX3_has := by decide +kernel
  have kf_13 := hts (.fieldLink RX3 13 "OrderedDeskModel" "value" "[I") (by decide +kernel)
  have kf_16 := hts (.fieldLink RX3 16 "OrderedDeskModel" "many" "I") (by decide +kernel)
  have kf_9 := hts (.fieldLink RX3 9 "OrderedDeskModel" "key" "[I") (by decide +kernel)
  have hP : va_P D vwCl [(aM, .inr (3, [.ref aA, .ref aB, .int (nI c), .int (bI gl), .int (bI gh), .int (bI li), .int (bI hn), .int (bI fl), .int lo, .int hi])), (aA, .inl (cy, 64, .inl k)), (aB, .inl (cy, 64, .inl v))] s.heap := hP
  refine lv_iload_n hx hb dX3_has_0 rfl (lv_at hl 1 rfl) ?_
  refine lv_if_eq (tgt := 11) hx hb dX3_has_1 (by decide) (fun h1 => ?_) (fun h1 => ?_)
  · have hw : w = 0 ∨ ¬ w = 0 ∧ w = 1 := Or.inl h1
    rcases hw with rfl | ⟨w1, rfl⟩
    · have hd : hsM k v c 0 x = hasV k c x := if_pos rfl
      refine lv_iconst (v := nI 0) hx hb dX3_has_11 (by decide) ?_
      refine lv_istore_n (lv' := [(3, .int (nI 0)), (0, .ref aM), (1, .int 0), (2, .int x)]) hx hb dX3_has_12 rfl hl (by decide) rfl (fun ls hl => ?_)
      refine W_loopR (I := fun (i : Nat) (ls : Array Slot) => lv_has ls 4 [(0, .ref aM), (1, .int 0), (2, .int x), (3, .int (nI i))] ∧ i ≤ c ∧ pf (fun j => !decide (k j = x)) c 0 = pf (fun j => !decide (k j = x)) (c - i) i) (μ := fun i => c - i) (fun i ls h ih => ?_) 0 ⟨lv_sub hl [1, 2, 3, 0] rfl, Nat.zero_le _, rfl⟩
      obtain ⟨hl, hi1, hv⟩ := h
      refine lv_iload_n hx hb dX3_has_13 rfl (lv_at hl 3 rfl) ?_
      refine lv_aload_n hx hb dX3_has_14 rfl (lv_at hl 0 rfl) ?_
      refine va_get (ci := 3) (v := .int (nI c)) (C := RX3) (T := TX3) (N := 10) hx hb hts hin_X3 hown hK hP 0 rfl rfl 2 (by decide) kf_16 (fun _ h9 => h9) rfl dX3_has_15 ?_
      refine n_ge (tgt := 52) (by omega) (by omega) hx hb dX3_has_18 (by decide) (fun h18 => ?_) (fun h18 => ?_)
      · have hz : hsM k v c 0 x = false := by rw [hd]; unfold hasV; rw [hv, pf_e h18]; simp; omega
        refine lv_iconst (v := bI false) hx hb dX3_has_52 (by decide) ?_
        exact ret_z hx hb hr hlocks dX3_has_53 (by rw [hz])
      · refine lv_iload_n hx hb dX3_has_21 rfl (lv_at hl 1 rfl) ?_
        refine lv_if_ne (tgt := 34) hx hb dX3_has_22 (by decide) (fun c_3 => ?_) (fun c_3 => ?_)
        · exact absurd c_3 (by decide)
        · refine lv_aload_n hx hb dX3_has_25 rfl (lv_at hl 0 rfl) ?_
          refine va_get (ci := 3) (v := .ref aA) (C := RX3) (T := TX3) (N := 10) hx hb hts hin_X3 hown hK hP 0 rfl rfl 0 (by decide) kf_9 (fun _ h9 => h9) rfl dX3_has_26 ?_
          refine lv_iload_n hx hb dX3_has_29 rfl (lv_at hl 3 rfl) ?_
          refine a_ld hx hb hK hP 1 0 rfl rfl (by omega) (by decide) dX3_has_30 ?_
          refine lv_goto (tgt := 40) hx hb dX3_has_31 (by decide) ?_
          refine lv_iload_n hx hb dX3_has_40 rfl (lv_at hl 2 rfl) ?_
          refine lv_icmp_ne (tgt := 46) hx hb dX3_has_41 (by decide) (fun h41 => ?_) (fun h41 => ?_)
          · refine lv_iinc (v := nI (i + 1)) (lv' := [(3, .int (nI (i + 1))), (0, .ref aM), (1, .int 0), (2, .int x)]) hx hb dX3_has_46 hl (k := 3) rfl (by first | exact nI_1 _ | exact nI_add _ _) (by decide) rfl (fun ls hl => ?_)
            refine lv_goto (tgt := 13) hx hb dX3_has_49 (by decide) ?_
            exact ih (i + 1) _ (by omega) ⟨lv_sub hl [1, 2, 3, 0] rfl, by omega, by rw [hv, pf_t h18 (by simpa using h41)]⟩
          · have hz : hsM k v c 0 x = true := by rw [hd]; unfold hasV; rw [hv, pf_f (by simpa using h41)]; simp; omega
            refine lv_iconst (v := bI true) hx hb dX3_has_44 (by decide) ?_
            exact ret_z hx hb hr hlocks dX3_has_45 (by rw [hz])
    · have hd : hsM k v c 1 x = hasV v c x := by unfold hsM; rw [if_neg w1, if_pos rfl]
      refine lv_iconst (v := nI 0) hx hb dX3_has_11 (by decide) ?_
      refine lv_istore_n (lv' := [(3, .int (nI 0)), (0, .ref aM), (1, .int 1), (2, .int x)]) hx hb dX3_has_12 rfl hl (by decide) rfl (fun ls hl => ?_)
      refine W_loopR (I := fun (i : Nat) (ls : Array Slot) => lv_has ls 4 [(0, .ref aM), (1, .int 1), (2, .int x), (3, .int (nI i))] ∧ i ≤ c ∧ pf (fun j => !decide (v j = x)) c 0 = pf (fun j => !decide (v j = x)) (c - i) i) (μ := fun i => c - i) (fun i ls h ih => ?_) 0 ⟨lv_sub hl [1, 2, 3, 0] rfl, Nat.zero_le _, rfl⟩
      obtain ⟨hl, hi1, hv⟩ := h
      refine lv_iload_n hx hb dX3_has_13 rfl (lv_at hl 3 rfl) ?_
      refine lv_aload_n hx hb dX3_has_14 rfl (lv_at hl 0 rfl) ?_
      refine va_get (ci := 3) (v := .int (nI c)) (C := RX3) (T := TX3) (N := 10) hx hb hts hin_X3 hown hK hP 0 rfl rfl 2 (by decide) kf_16 (fun _ h9 => h9) rfl dX3_has_15 ?_
      refine n_ge (tgt := 52) (by omega) (by omega) hx hb dX3_has_18 (by decide) (fun h18 => ?_) (fun h18 => ?_)
      · have hz : hsM k v c 1 x = false := by rw [hd]; unfold hasV; rw [hv, pf_e h18]; simp; omega
        refine lv_iconst (v := bI false) hx hb dX3_has_52 (by decide) ?_
        exact ret_z hx hb hr hlocks dX3_has_53 (by rw [hz])
      · refine lv_iload_n hx hb dX3_has_21 rfl (lv_at hl 1 rfl) ?_
        refine lv_if_ne (tgt := 34) hx hb dX3_has_22 (by decide) (fun c_6 => ?_) (fun c_6 => ?_)
        · refine lv_aload_n hx hb dX3_has_34 rfl (lv_at hl 0 rfl) ?_
          refine va_get (ci := 3) (v := .ref aB) (C := RX3) (T := TX3) (N := 10) hx hb hts hin_X3 hown hK hP 0 rfl rfl 1 (by decide) kf_13 (fun _ h9 => h9) rfl dX3_has_35 ?_
          refine lv_iload_n hx hb dX3_has_38 rfl (lv_at hl 3 rfl) ?_
          refine a_ld hx hb hK hP 2 0 rfl rfl (by omega) (by decide) dX3_has_39 ?_
          refine lv_iload_n hx hb dX3_has_40 rfl (lv_at hl 2 rfl) ?_
          refine lv_icmp_ne (tgt := 46) hx hb dX3_has_41 (by decide) (fun h41 => ?_) (fun h41 => ?_)
          · refine lv_iinc (v := nI (i + 1)) (lv' := [(3, .int (nI (i + 1))), (0, .ref aM), (1, .int 1), (2, .int x)]) hx hb dX3_has_46 hl (k := 3) rfl (by first | exact nI_1 _ | exact nI_add _ _) (by decide) rfl (fun ls hl => ?_)
            refine lv_goto (tgt := 13) hx hb dX3_has_49 (by decide) ?_
            exact ih (i + 1) _ (by omega) ⟨lv_sub hl [1, 2, 3, 0] rfl, by omega, by rw [hv, pf_t h18 (by simpa using h41)]⟩
          · have hz : hsM k v c 1 x = true := by rw [hd]; unfold hasV; rw [hv, pf_f (by simpa using h41)]; simp; omega
            refine lv_iconst (v := bI true) hx hb dX3_has_44 (by decide) ?_
            exact ret_z hx hb hr hlocks dX3_has_45 (by rw [hz])
        · exact absurd c_6 (by decide)
  · refine lv_iload_n hx hb dX3_has_4 rfl (lv_at hl 1 rfl) ?_
    refine lv_iconst (v := 1) hx hb dX3_has_5 (by decide) ?_
    refine lv_icmp_eq (tgt := 11) hx hb dX3_has_6 (by decide) (fun h6 => ?_) (fun h6 => ?_)
    · have hw : w = 0 ∨ ¬ w = 0 ∧ w = 1 := Or.inr ⟨h1, h6⟩
      rcases hw with rfl | ⟨w1, rfl⟩
      · have hd : hsM k v c 0 x = hasV k c x := if_pos rfl
        refine lv_iconst (v := nI 0) hx hb dX3_has_11 (by decide) ?_
        refine lv_istore_n (lv' := [(3, .int (nI 0)), (0, .ref aM), (1, .int 0), (2, .int x)]) hx hb dX3_has_12 rfl hl (by decide) rfl (fun ls hl => ?_)
        refine W_loopR (I := fun (i : Nat) (ls : Array Slot) => lv_has ls 4 [(0, .ref aM), (1, .int 0), (2, .int x), (3, .int (nI i))] ∧ i ≤ c ∧ pf (fun j => !decide (k j = x)) c 0 = pf (fun j => !decide (k j = x)) (c - i) i) (μ := fun i => c - i) (fun i ls h ih => ?_) 0 ⟨lv_sub hl [1, 2, 3, 0] rfl, Nat.zero_le _, rfl⟩
        obtain ⟨hl, hi1, hv⟩ := h
        refine lv_iload_n hx hb dX3_has_13 rfl (lv_at hl 3 rfl) ?_
        refine lv_aload_n hx hb dX3_has_14 rfl (lv_at hl 0 rfl) ?_
        refine va_get (ci := 3) (v := .int (nI c)) (C := RX3) (T := TX3) (N := 10) hx hb hts hin_X3 hown hK hP 0 rfl rfl 2 (by decide) kf_16 (fun _ h9 => h9) rfl dX3_has_15 ?_
        refine n_ge (tgt := 52) (by omega) (by omega) hx hb dX3_has_18 (by decide) (fun h18 => ?_) (fun h18 => ?_)
        · have hz : hsM k v c 0 x = false := by rw [hd]; unfold hasV; rw [hv, pf_e h18]; simp; omega
          refine lv_iconst (v := bI false) hx hb dX3_has_52 (by decide) ?_
          exact ret_z hx hb hr hlocks dX3_has_53 (by rw [hz])
        · refine lv_iload_n hx hb dX3_has_21 rfl (lv_at hl 1 rfl) ?_
          refine lv_if_ne (tgt := 34) hx hb dX3_has_22 (by decide) (fun c_10 => ?_) (fun c_10 => ?_)
          · exact absurd c_10 (by decide)
          · refine lv_aload_n hx hb dX3_has_25 rfl (lv_at hl 0 rfl) ?_
            refine va_get (ci := 3) (v := .ref aA) (C := RX3) (T := TX3) (N := 10) hx hb hts hin_X3 hown hK hP 0 rfl rfl 0 (by decide) kf_9 (fun _ h9 => h9) rfl dX3_has_26 ?_
            refine lv_iload_n hx hb dX3_has_29 rfl (lv_at hl 3 rfl) ?_
            refine a_ld hx hb hK hP 1 0 rfl rfl (by omega) (by decide) dX3_has_30 ?_
            refine lv_goto (tgt := 40) hx hb dX3_has_31 (by decide) ?_
            refine lv_iload_n hx hb dX3_has_40 rfl (lv_at hl 2 rfl) ?_
            refine lv_icmp_ne (tgt := 46) hx hb dX3_has_41 (by decide) (fun h41 => ?_) (fun h41 => ?_)
            · refine lv_iinc (v := nI (i + 1)) (lv' := [(3, .int (nI (i + 1))), (0, .ref aM), (1, .int 0), (2, .int x)]) hx hb dX3_has_46 hl (k := 3) rfl (by first | exact nI_1 _ | exact nI_add _ _) (by decide) rfl (fun ls hl => ?_)
              refine lv_goto (tgt := 13) hx hb dX3_has_49 (by decide) ?_
              exact ih (i + 1) _ (by omega) ⟨lv_sub hl [1, 2, 3, 0] rfl, by omega, by rw [hv, pf_t h18 (by simpa using h41)]⟩
            · have hz : hsM k v c 0 x = true := by rw [hd]; unfold hasV; rw [hv, pf_f (by simpa using h41)]; simp; omega
              refine lv_iconst (v := bI true) hx hb dX3_has_44 (by decide) ?_
              exact ret_z hx hb hr hlocks dX3_has_45 (by rw [hz])
      · have hd : hsM k v c 1 x = hasV v c x := by unfold hsM; rw [if_neg w1, if_pos rfl]
        refine lv_iconst (v := nI 0) hx hb dX3_has_11 (by decide) ?_
        refine lv_istore_n (lv' := [(3, .int (nI 0)), (0, .ref aM), (1, .int 1), (2, .int x)]) hx hb dX3_has_12 rfl hl (by decide) rfl (fun ls hl => ?_)
        refine W_loopR (I := fun (i : Nat) (ls : Array Slot) => lv_has ls 4 [(0, .ref aM), (1, .int 1), (2, .int x), (3, .int (nI i))] ∧ i ≤ c ∧ pf (fun j => !decide (v j = x)) c 0 = pf (fun j => !decide (v j = x)) (c - i) i) (μ := fun i => c - i) (fun i ls h ih => ?_) 0 ⟨lv_sub hl [1, 2, 3, 0] rfl, Nat.zero_le _, rfl⟩
        obtain ⟨hl, hi1, hv⟩ := h
        refine lv_iload_n hx hb dX3_has_13 rfl (lv_at hl 3 rfl) ?_
        refine lv_aload_n hx hb dX3_has_14 rfl (lv_at hl 0 rfl) ?_
        refine va_get (ci := 3) (v := .int (nI c)) (C := RX3) (T := TX3) (N := 10) hx hb hts hin_X3 hown hK hP 0 rfl rfl 2 (by decide) kf_16 (fun _ h9 => h9) rfl dX3_has_15 ?_
        refine n_ge (tgt := 52) (by omega) (by omega) hx hb dX3_has_18 (by decide) (fun h18 => ?_) (fun h18 => ?_)
        · have hz : hsM k v c 1 x = false := by rw [hd]; unfold hasV; rw [hv, pf_e h18]; simp; omega
          refine lv_iconst (v := bI false) hx hb dX3_has_52 (by decide) ?_
          exact ret_z hx hb hr hlocks dX3_has_53 (by rw [hz])
        · refine lv_iload_n hx hb dX3_has_21 rfl (lv_at hl 1 rfl) ?_
          refine lv_if_ne (tgt := 34) hx hb dX3_has_22 (by decide) (fun c_13 => ?_) (fun c_13 => ?_)
          · refine lv_aload_n hx hb dX3_has_34 rfl (lv_at hl 0 rfl) ?_
            refine va_get (ci := 3) (v := .ref aB) (C := RX3) (T := TX3) (N := 10) hx hb hts hin_X3 hown hK hP 0 rfl rfl 1 (by decide) kf_13 (fun _ h9 => h9) rfl dX3_has_35 ?_
            refine lv_iload_n hx hb dX3_has_38 rfl (lv_at hl 3 rfl) ?_
            refine a_ld hx hb hK hP 2 0 rfl rfl (by omega) (by decide) dX3_has_39 ?_
            refine lv_iload_n hx hb dX3_has_40 rfl (lv_at hl 2 rfl) ?_
            refine lv_icmp_ne (tgt := 46) hx hb dX3_has_41 (by decide) (fun h41 => ?_) (fun h41 => ?_)
            · refine lv_iinc (v := nI (i + 1)) (lv' := [(3, .int (nI (i + 1))), (0, .ref aM), (1, .int 1), (2, .int x)]) hx hb dX3_has_46 hl (k := 3) rfl (by first | exact nI_1 _ | exact nI_add _ _) (by decide) rfl (fun ls hl => ?_)
              refine lv_goto (tgt := 13) hx hb dX3_has_49 (by decide) ?_
              exact ih (i + 1) _ (by omega) ⟨lv_sub hl [1, 2, 3, 0] rfl, by omega, by rw [hv, pf_t h18 (by simpa using h41)]⟩
            · have hz : hsM k v c 1 x = true := by rw [hd]; unfold hasV; rw [hv, pf_f (by simpa using h41)]; simp; omega
              refine lv_iconst (v := bI true) hx hb dX3_has_44 (by decide) ?_
              exact ret_z hx hb hr hlocks dX3_has_45 (by rw [hz])
          · exact absurd c_13 (by decide)
    · have hz : hsM k v c w x = false := by unfold hsM; rw [if_neg h1, if_neg h6]
      refine lv_iconst (v := bI false) hx hb dX3_has_9 (by decide) ?_
      exact ret_z hx hb hr hlocks dX3_has_10 (by rw [hz])

set_option maxHeartbeats 4000000 in
set_option maxRecDepth 100000 in
/-- keyAt(at, from, to) -/
theorem c_X3_keyAt (l : Launch) (D : va_G) (cy : ClassId) (aM aA aB : Nat) (k v : Nat → Int32) (c : Nat) (hc : c ≤ 64) (gl gh li hn fl : Bool) (lo hi : Int32) (x : Int32) (b f : Nat) (hb2 : b ≤ 64) (hf2 : f ≤ 64) : Met l yX3_keyAt wsX3_keyAt ({ frames := 0, cells := 0, slots := 0, locals := 0 } : Room) (pcW D [(cy, .int)] [.ref aM, .int x, .int (nI b), .int (nI f)] [(aM, .inr (3, [.ref aA, .ref aB, .int (nI c), .int (bI gl), .int (bI gh), .int (bI li), .int (bI hn), .int (bI fl), .int lo, .int hi])), (aA, .inl (cy, 64, .inl k)), (aB, .inl (cy, 64, .inl v))]) (qR (.long (kW k x.toInt b f))) 0 0 (fun _ => False) := by
  refine met_W (cc := cX3_keyAt) (maxL := 4) (ret := (some .long)) (by decide +kernel) rfl (Nat.le_of_ble_eq_true rfl) ?_
  intro pM eM s mM below meth cM ls hx hb hr hts hown hlocks hml hnm hK hP hl
  have hown : s.vm.findClass RX3 = some mM.cls := hown
  have hl : lv_has ls 4 [(0, .ref aM), (1, .int x), (2, .int (nI b)), (3, .int (nI f))] := hl
  have hin_X3 : ∀ w ∈ wsX30, w ∈ wsX3_keyAt := by decide +kernel
  have kf_9 := hts (.fieldLink RX3 9 "OrderedDeskModel" "key" "[I") (by decide +kernel)
  have kc_38 := hts (.constantLong RX3 38 (1099511627776)) (by decide +kernel)
  have hP : va_P D vwCl [(aM, .inr (3, [.ref aA, .ref aB, .int (nI c), .int (bI gl), .int (bI gh), .int (bI li), .int (bI hn), .int (bI fl), .int lo, .int hi])), (aA, .inl (cy, 64, .inl k)), (aB, .inl (cy, 64, .inl v))] s.heap := hP
  refine lv_iload_n hx hb dX3_keyAt_0 rfl (lv_at hl 1 rfl) ?_
  refine lv_iload_n hx hb dX3_keyAt_1 rfl (lv_at hl 2 rfl) ?_
  refine lv_icmp_lt (tgt := 20) hx hb dX3_keyAt_2 (by decide) (fun h2 => ?_) (fun h2 => ?_)
  · have hz : kW k x.toInt b f = NO := kW_no (by rw [Int32.lt_iff_toInt_lt, nI_toInt (by omega)] at h2; omega)
    refine lv_ldc2 hx hb hown kc_38 dX3_keyAt_20 ?_
    exact ret_l hx hb hr hlocks dX3_keyAt_23 (by rw [hz])
  · refine lv_iload_n hx hb dX3_keyAt_5 rfl (lv_at hl 1 rfl) ?_
    refine lv_iload_n hx hb dX3_keyAt_6 rfl (lv_at hl 3 rfl) ?_
    refine lv_icmp_ge (tgt := 20) hx hb dX3_keyAt_7 (by decide) (fun h7 => ?_) (fun h7 => ?_)
    · have hz : kW k x.toInt b f = NO := kW_no (by rw [Int32.le_iff_toInt_le, nI_toInt (by omega)] at h7; omega)
      refine lv_ldc2 hx hb hown kc_38 dX3_keyAt_20 ?_
      exact ret_l hx hb hr hlocks dX3_keyAt_23 (by rw [hz])
    · rw [Int32.lt_iff_toInt_lt, nI_toInt (by omega)] at h2
      rw [Int32.le_iff_toInt_le, nI_toInt (by omega)] at h7
      obtain ⟨j, hj⟩ : ∃ j : Nat, x.toInt = (j : Int) := ⟨x.toInt.toNat, by omega⟩
      obtain rfl : x = nI j := I32_of hj (by omega)
      have hz : kW k (nI j).toInt b f = (k j).toInt64 := by rw [hj]; exact kW_yes (by omega) (by omega)
      refine lv_aload_n hx hb dX3_keyAt_10 rfl (lv_at hl 0 rfl) ?_
      refine va_get (ci := 3) (v := .ref aA) (C := RX3) (T := TX3) (N := 10) hx hb hts hin_X3 hown hK hP 0 rfl rfl 0 (by decide) kf_9 (fun _ h9 => h9) rfl dX3_keyAt_11 ?_
      refine lv_iload_n hx hb dX3_keyAt_14 rfl (lv_at hl 1 rfl) ?_
      refine a_ld hx hb hK hP 1 0 rfl rfl (by omega) (by decide) dX3_keyAt_15 ?_
      refine lv_i2l hx hb dX3_keyAt_16 rfl ?_
      refine lv_goto (tgt := 23) hx hb dX3_keyAt_17 (by decide) ?_
      exact ret_l hx hb hr hlocks dX3_keyAt_23 (by rw [hz])

set_option maxHeartbeats 4000000 in
set_option maxRecDepth 100000 in
/-- near(what, k, from, to) -/
theorem c_X3_near (l : Launch) (D : va_G) (cy : ClassId) (aM aA aB : Nat) (k v : Nat → Int32) (c : Nat) (hc : c ≤ 64) (gl gh li hn fl : Bool) (lo hi : Int32) (w x : Int32) (b f : Nat) (hb2 : b ≤ f) (hf2 : f ≤ 64) : Met l yX3_near wsX3_near ({ frames := 1, cells := 0, slots := 0, locals := 23 } : Room) (pcW D [(cy, .int)] [.ref aM, .int w, .int x, .int (nI b), .int (nI f)] [(aM, .inr (3, [.ref aA, .ref aB, .int (nI c), .int (bI gl), .int (bI gh), .int (bI li), .int (bI hn), .int (bI fl), .int lo, .int hi])), (aA, .inl (cy, 64, .inl k)), (aB, .inl (cy, 64, .inl v))]) (qR (.long (kNM k w x b f))) 0 0 (fun _ => False) := by
  refine met_W (cc := cX3_near) (maxL := 8) (ret := (some .long)) (by decide +kernel) rfl (Nat.le_of_ble_eq_true rfl) ?_
  intro pM eM s mM below meth cM ls hx hb hr hts hown hlocks hml hnm hK hP hl
  have hown : s.vm.findClass RX3 = some mM.cls := hown
  have hl : lv_has ls 8 [(0, .ref aM), (1, .int w), (2, .int x), (3, .int (nI b)), (4, .int (nI f))] := hl
  have hin_X3 : ∀ w ∈ wsX30, w ∈ wsX3_near := by decide +kernel
  have kf_9 := hts (.fieldLink RX3 9 "OrderedDeskModel" "key" "[I") (by decide +kernel)
  have kc_38 := hts (.constantLong RX3 38 (1099511627776)) (by decide +kernel)
  have hP : va_P D vwCl [(aM, .inr (3, [.ref aA, .ref aB, .int (nI c), .int (bI gl), .int (bI gh), .int (bI li), .int (bI hn), .int (bI fl), .int lo, .int hi])), (aA, .inl (cy, 64, .inl k)), (aB, .inl (cy, 64, .inl v))] s.heap := hP
  refine lv_iload_n hx hb dX3_near_0 rfl (lv_at hl 3 rfl) ?_
  refine lv_istore (lv' := [(5, .int (nI b)), (0, .ref aM), (1, .int w), (2, .int x), (3, .int (nI b)), (4, .int (nI f))]) hx hb dX3_near_1 hl (by decide) rfl (fun ls hl => ?_)
  refine lv_iload_n hx hb dX3_near_3 rfl (lv_at hl 4 rfl) ?_
  refine lv_istore (lv' := [(6, .int (nI b)), (5, .int (nI b)), (0, .ref aM), (1, .int w), (2, .int x), (3, .int (nI b)), (4, .int (nI f))]) hx hb dX3_near_4 hl (by decide) rfl (fun ls hl => ?_)
  refine lv_iload_n hx hb dX3_near_6 rfl (lv_at hl 5 rfl) ?_
  refine lv_istore (lv' := [(7, .int (nI b)), (6, .int (nI b)), (5, .int (nI b)), (0, .ref aM), (1, .int w), (2, .int x), (3, .int (nI b)), (4, .int (nI f))]) hx hb dX3_near_7 hl (by decide) rfl (fun ls hl => ?_)
  refine W_loopR (I := fun (i : Nat) (ls : Array Slot) => ∃ (p1 : Nat) (p2 : Nat), lv_has ls 8 [(0, .ref aM), (1, .int w), (2, .int x), (3, .int (nI b)), (4, .int (nI f)), (5, .int (nI p1)), (6, .int (nI p2)), (7, .int (nI i))] ∧ b ≤ i ∧ i ≤ f ∧ p1 ≤ i ∧ p2 ≤ i ∧ nlp k x (f - b) b b b = nlp k x (f - i) i p1 p2) (μ := fun i => f - i) (fun i ls h ih => ?_) b ⟨b, b, lv_sub hl [3, 4, 5, 6, 7, 2, 1, 0] rfl, Nat.le_refl _, hb2, Nat.le_refl _, Nat.le_refl _, rfl⟩
  obtain ⟨p1, p2, hl, hi1, hi2, hp1, hp2, hv⟩ := h
  refine lv_iload hx hb dX3_near_9 (lv_at hl 7 rfl) ?_
  refine lv_iload hx hb dX3_near_11 (lv_at hl 4 rfl) ?_
  refine n_ge (tgt := 56) (by omega) (by omega) hx hb dX3_near_13 (by decide) (fun h13 => ?_) (fun h13 => ?_)
  · have e1 : nlp k x (f - b) b b b = (p1, p2) := by rw [hv, show f - i = 0 by omega]; rfl
    refine lv_iload_n hx hb dX3_near_56 rfl (lv_at hl 1 rfl) ?_
    by_cases w0 : w = 0
    · refine top_i (y := 0) w0 ?_
      refine lv_tableIn (off := 39) (tgt := 96) hx hb dX3_near_57 (by decide) (by decide) (by decide) (by decide) ?_
      have hz : kNM k w x b f = kW k (((nlp k x (f - b) b b b).2 : Int) - 1) b f := by unfold kNM; rw [if_pos w0]
      rw [e1] at hz
      refine lv_aload_n hx hb dX3_near_96 rfl (lv_at hl 0 rfl) ?_
      refine lv_iload hx hb dX3_near_97 (lv_at hl 6 rfl) ?_
      refine lv_iconst (v := 1) hx hb dX3_near_99 (by decide) ?_
      refine lv_isub hx hb dX3_near_100 ?_
      refine lv_iload_n hx hb dX3_near_101 rfl (lv_at hl 3 rfl) ?_
      refine lv_iload hx hb dX3_near_102 (lv_at hl 4 rfl) ?_
      refine go_R (va_runV (As := [.int ((nI p2) - 1), .int (nI b), .int (nI f)]) (rest := []) ⟨hx, hb, hml, hown, hts⟩ (c_X3_keyAt l D cy aM aA aB k v c (by omega) gl gh li hn fl lo hi ((nI p2) - 1) b f (by omega) (by omega)) (cwV 3 hts gX3_near_X3_keyAt rfl rfl rfl (by decide +kernel) ⟨(Nat.le_of_ble_eq_true rfl), (Nat.le_of_ble_eq_true rfl)⟩) (preV_W hK (hP.sub [0, 1, 2] rfl) 0 3 rfl rfl) rfl rfl hl.1 rfl (lv_room (Nat.le_of_ble_eq_true rfl)) dX3_near_104 ⟨(Nat.le_of_ble_eq_true rfl), (Nat.le_of_ble_eq_true rfl)⟩) ?_
      exact ret_l hx hb hr hlocks dX3_near_107 (by first | (rw [hz]; done) | (rw [hz, nI_toInt (by omega)]; done) | (rw [hz, nI_m1I (by omega)]; done))
    by_cases w1 : w = 1
    · refine top_i (y := 1) w1 ?_
      refine lv_tableIn (off := 51) (tgt := 108) hx hb dX3_near_57 (by decide) (by decide) (by decide) (by decide) ?_
      have hz : kNM k w x b f = kW k ((nlp k x (f - b) b b b).1 : Int) b f := by unfold kNM; rw [if_neg w0, if_pos w1]
      rw [e1] at hz
      refine lv_aload_n hx hb dX3_near_108 rfl (lv_at hl 0 rfl) ?_
      refine lv_iload hx hb dX3_near_109 (lv_at hl 5 rfl) ?_
      refine lv_iload_n hx hb dX3_near_111 rfl (lv_at hl 3 rfl) ?_
      refine lv_iload hx hb dX3_near_112 (lv_at hl 4 rfl) ?_
      refine go_R (va_runV (As := [.int (nI p1), .int (nI b), .int (nI f)]) (rest := []) ⟨hx, hb, hml, hown, hts⟩ (c_X3_keyAt l D cy aM aA aB k v c (by omega) gl gh li hn fl lo hi (nI p1) b f (by omega) (by omega)) (cwV 3 hts gX3_near_X3_keyAt rfl rfl rfl (by decide +kernel) ⟨(Nat.le_of_ble_eq_true rfl), (Nat.le_of_ble_eq_true rfl)⟩) (preV_W hK (hP.sub [0, 1, 2] rfl) 0 3 rfl rfl) rfl rfl hl.1 rfl (lv_room (Nat.le_of_ble_eq_true rfl)) dX3_near_114 ⟨(Nat.le_of_ble_eq_true rfl), (Nat.le_of_ble_eq_true rfl)⟩) ?_
      exact ret_l hx hb hr hlocks dX3_near_117 (by first | (rw [hz]; done) | (rw [hz, nI_toInt (by omega)]; done) | (rw [hz, nI_m1I (by omega)]; done))
    by_cases w2 : w = 2
    · refine top_i (y := 2) w2 ?_
      refine lv_tableIn (off := 61) (tgt := 118) hx hb dX3_near_57 (by decide) (by decide) (by decide) (by decide) ?_
      have hz : kNM k w x b f = kW k (((nlp k x (f - b) b b b).1 : Int) - 1) b f := by unfold kNM; rw [if_neg w0, if_neg w1, if_pos w2]
      rw [e1] at hz
      refine lv_aload_n hx hb dX3_near_118 rfl (lv_at hl 0 rfl) ?_
      refine lv_iload hx hb dX3_near_119 (lv_at hl 5 rfl) ?_
      refine lv_iconst (v := 1) hx hb dX3_near_121 (by decide) ?_
      refine lv_isub hx hb dX3_near_122 ?_
      refine lv_iload_n hx hb dX3_near_123 rfl (lv_at hl 3 rfl) ?_
      refine lv_iload hx hb dX3_near_124 (lv_at hl 4 rfl) ?_
      refine go_R (va_runV (As := [.int ((nI p1) - 1), .int (nI b), .int (nI f)]) (rest := []) ⟨hx, hb, hml, hown, hts⟩ (c_X3_keyAt l D cy aM aA aB k v c (by omega) gl gh li hn fl lo hi ((nI p1) - 1) b f (by omega) (by omega)) (cwV 3 hts gX3_near_X3_keyAt rfl rfl rfl (by decide +kernel) ⟨(Nat.le_of_ble_eq_true rfl), (Nat.le_of_ble_eq_true rfl)⟩) (preV_W hK (hP.sub [0, 1, 2] rfl) 0 3 rfl rfl) rfl rfl hl.1 rfl (lv_room (Nat.le_of_ble_eq_true rfl)) dX3_near_126 ⟨(Nat.le_of_ble_eq_true rfl), (Nat.le_of_ble_eq_true rfl)⟩) ?_
      exact ret_l hx hb hr hlocks dX3_near_129 (by first | (rw [hz]; done) | (rw [hz, nI_toInt (by omega)]; done) | (rw [hz, nI_m1I (by omega)]; done))
    by_cases w3 : w = 3
    · refine top_i (y := 3) w3 ?_
      refine lv_tableIn (off := 73) (tgt := 130) hx hb dX3_near_57 (by decide) (by decide) (by decide) (by decide) ?_
      have hz : kNM k w x b f = kW k ((nlp k x (f - b) b b b).2 : Int) b f := by unfold kNM; rw [if_neg w0, if_neg w1, if_neg w2, if_pos w3]
      rw [e1] at hz
      refine lv_aload_n hx hb dX3_near_130 rfl (lv_at hl 0 rfl) ?_
      refine lv_iload hx hb dX3_near_131 (lv_at hl 6 rfl) ?_
      refine lv_iload_n hx hb dX3_near_133 rfl (lv_at hl 3 rfl) ?_
      refine lv_iload hx hb dX3_near_134 (lv_at hl 4 rfl) ?_
      refine go_R (va_runV (As := [.int (nI p2), .int (nI b), .int (nI f)]) (rest := []) ⟨hx, hb, hml, hown, hts⟩ (c_X3_keyAt l D cy aM aA aB k v c (by omega) gl gh li hn fl lo hi (nI p2) b f (by omega) (by omega)) (cwV 3 hts gX3_near_X3_keyAt rfl rfl rfl (by decide +kernel) ⟨(Nat.le_of_ble_eq_true rfl), (Nat.le_of_ble_eq_true rfl)⟩) (preV_W hK (hP.sub [0, 1, 2] rfl) 0 3 rfl rfl) rfl rfl hl.1 rfl (lv_room (Nat.le_of_ble_eq_true rfl)) dX3_near_136 ⟨(Nat.le_of_ble_eq_true rfl), (Nat.le_of_ble_eq_true rfl)⟩) ?_
      exact ret_l hx hb hr hlocks dX3_near_139 (by first | (rw [hz]; done) | (rw [hz, nI_toInt (by omega)]; done) | (rw [hz, nI_m1I (by omega)]; done))
    by_cases w4 : w = 4
    · refine top_i (y := 4) w4 ?_
      refine lv_tableIn (off := 83) (tgt := 140) hx hb dX3_near_57 (by decide) (by decide) (by decide) (by decide) ?_
      have hz : kNM k w x b f = kW k (b : Int) b f := by unfold kNM; rw [if_neg w0, if_neg w1, if_neg w2, if_neg w3, if_pos w4]
      refine lv_aload_n hx hb dX3_near_140 rfl (lv_at hl 0 rfl) ?_
      refine lv_iload_n hx hb dX3_near_141 rfl (lv_at hl 3 rfl) ?_
      refine lv_iload_n hx hb dX3_near_142 rfl (lv_at hl 3 rfl) ?_
      refine lv_iload hx hb dX3_near_143 (lv_at hl 4 rfl) ?_
      refine go_R (va_runV (As := [.int (nI b), .int (nI b), .int (nI f)]) (rest := []) ⟨hx, hb, hml, hown, hts⟩ (c_X3_keyAt l D cy aM aA aB k v c (by omega) gl gh li hn fl lo hi (nI b) b f (by omega) (by omega)) (cwV 3 hts gX3_near_X3_keyAt rfl rfl rfl (by decide +kernel) ⟨(Nat.le_of_ble_eq_true rfl), (Nat.le_of_ble_eq_true rfl)⟩) (preV_W hK (hP.sub [0, 1, 2] rfl) 0 3 rfl rfl) rfl rfl hl.1 rfl (lv_room (Nat.le_of_ble_eq_true rfl)) dX3_near_145 ⟨(Nat.le_of_ble_eq_true rfl), (Nat.le_of_ble_eq_true rfl)⟩) ?_
      exact ret_l hx hb hr hlocks dX3_near_148 (by first | (rw [hz]; done) | (rw [hz, nI_toInt (by omega)]; done) | (rw [hz, nI_m1I (by omega)]; done))
    by_cases w5 : w = 5
    · refine top_i (y := 5) w5 ?_
      refine lv_tableIn (off := 92) (tgt := 149) hx hb dX3_near_57 (by decide) (by decide) (by decide) (by decide) ?_
      have hz : kNM k w x b f = kW k ((f : Int) - 1) b f := by unfold kNM; rw [if_neg w0, if_neg w1, if_neg w2, if_neg w3, if_neg w4, if_pos w5]
      refine lv_aload_n hx hb dX3_near_149 rfl (lv_at hl 0 rfl) ?_
      refine lv_iload hx hb dX3_near_150 (lv_at hl 4 rfl) ?_
      refine lv_iconst (v := 1) hx hb dX3_near_152 (by decide) ?_
      refine lv_isub hx hb dX3_near_153 ?_
      refine lv_iload_n hx hb dX3_near_154 rfl (lv_at hl 3 rfl) ?_
      refine lv_iload hx hb dX3_near_155 (lv_at hl 4 rfl) ?_
      refine go_R (va_runV (As := [.int ((nI f) - 1), .int (nI b), .int (nI f)]) (rest := []) ⟨hx, hb, hml, hown, hts⟩ (c_X3_keyAt l D cy aM aA aB k v c (by omega) gl gh li hn fl lo hi ((nI f) - 1) b f (by omega) (by omega)) (cwV 3 hts gX3_near_X3_keyAt rfl rfl rfl (by decide +kernel) ⟨(Nat.le_of_ble_eq_true rfl), (Nat.le_of_ble_eq_true rfl)⟩) (preV_W hK (hP.sub [0, 1, 2] rfl) 0 3 rfl rfl) rfl rfl hl.1 rfl (lv_room (Nat.le_of_ble_eq_true rfl)) dX3_near_157 ⟨(Nat.le_of_ble_eq_true rfl), (Nat.le_of_ble_eq_true rfl)⟩) ?_
      exact ret_l hx hb hr hlocks dX3_near_160 (by first | (rw [hz]; done) | (rw [hz, nI_toInt (by omega)]; done) | (rw [hz, nI_m1I (by omega)]; done))
    refine lv_tableOut (tgt := 161) hx hb dX3_near_57 (tbl_out w0 w1 w2 w3 w4 w5) (by decide) ?_
    have hz : kNM k w x b f = NO := by unfold kNM; rw [if_neg w0, if_neg w1, if_neg w2, if_neg w3, if_neg w4, if_neg w5]
    refine lv_ldc2 hx hb hown kc_38 dX3_near_161 ?_
    exact ret_l hx hb hr hlocks dX3_near_164 (by first | (rw [hz]; done) | (rw [hz, nI_toInt (by omega)]; done) | (rw [hz, nI_m1I (by omega)]; done))
  · refine lv_aload_n hx hb dX3_near_16 rfl (lv_at hl 0 rfl) ?_
    refine va_get (ci := 3) (v := .ref aA) (C := RX3) (T := TX3) (N := 10) hx hb hts hin_X3 hown hK hP 0 rfl rfl 0 (by decide) kf_9 (fun _ h9 => h9) rfl dX3_near_17 ?_
    refine lv_iload hx hb dX3_near_20 (lv_at hl 7 rfl) ?_
    refine a_ld hx hb hK hP 1 0 rfl rfl (by omega) (by decide) dX3_near_22 ?_
    refine lv_iload_n hx hb dX3_near_23 rfl (lv_at hl 2 rfl) ?_
    refine lv_icmp_ge (tgt := 33) hx hb dX3_near_24 (by decide) (fun h24 => ?_) (fun h24 => ?_)
    · refine lv_aload_n hx hb dX3_near_33 rfl (lv_at hl 0 rfl) ?_
      refine va_get (ci := 3) (v := .ref aA) (C := RX3) (T := TX3) (N := 10) hx hb hts hin_X3 hown hK hP 0 rfl rfl 0 (by decide) kf_9 (fun _ h9 => h9) rfl dX3_near_34 ?_
      refine lv_iload hx hb dX3_near_37 (lv_at hl 7 rfl) ?_
      refine a_ld hx hb hK hP 1 0 rfl rfl (by omega) (by decide) dX3_near_39 ?_
      refine lv_iload_n hx hb dX3_near_40 rfl (lv_at hl 2 rfl) ?_
      refine lv_icmp_gt (tgt := 50) hx hb dX3_near_41 (by decide) (fun h41 => ?_) (fun h41 => ?_)
      · refine lv_iinc (v := nI (i + 1)) (lv' := [(7, .int (nI (i + 1))), (0, .ref aM), (1, .int w), (2, .int x), (3, .int (nI b)), (4, .int (nI f)), (5, .int (nI p1)), (6, .int (nI p2))]) hx hb dX3_near_50 hl (k := 7) rfl (by first | exact nI_1 _ | exact nI_add _ _) (by decide) rfl (fun ls hl => ?_)
        refine lv_goto (tgt := 9) hx hb dX3_near_53 (by decide) ?_
        exact ih (i + 1) _ (by omega) ⟨_, _, lv_sub hl [1, 2, 3, 4, 5, 6, 7, 0] rfl, by omega, by omega, by omega, by omega, by rw [hv, nlp_s h13]; first | rw [if_neg (Int32.not_lt.mpr h24), if_neg (Int32.not_le.mpr h41)] | rw [if_neg (Int32.not_lt.mpr h24), if_pos (Int32.not_lt.mp h41)] | rw [if_pos (Int32.not_le.mp h24), if_neg (Int32.not_le.mpr h41)] | rw [if_pos (Int32.not_le.mp h24), if_pos (Int32.not_lt.mp h41)]⟩
      · refine lv_iload hx hb dX3_near_44 (lv_at hl 7 rfl) ?_
        refine lv_iconst (v := nI 1) hx hb dX3_near_46 (by decide) ?_
        refine lv_iadd hx hb dX3_near_47 ?_
        refine top_i (y := nI (i + 1)) (nI_add _ _) ?_
        refine lv_istore (lv' := [(6, .int (nI (i + 1))), (0, .ref aM), (1, .int w), (2, .int x), (3, .int (nI b)), (4, .int (nI f)), (5, .int (nI p1)), (7, .int (nI i))]) hx hb dX3_near_48 hl (by decide) rfl (fun ls hl => ?_)
        refine lv_iinc (v := nI (i + 1)) (lv' := [(7, .int (nI (i + 1))), (6, .int (nI (i + 1))), (0, .ref aM), (1, .int w), (2, .int x), (3, .int (nI b)), (4, .int (nI f)), (5, .int (nI p1))]) hx hb dX3_near_50 hl (k := 7) rfl (by first | exact nI_1 _ | exact nI_add _ _) (by decide) rfl (fun ls hl => ?_)
        refine lv_goto (tgt := 9) hx hb dX3_near_53 (by decide) ?_
        exact ih (i + 1) _ (by omega) ⟨_, _, lv_sub hl [2, 3, 4, 5, 6, 7, 1, 0] rfl, by omega, by omega, by omega, by omega, by rw [hv, nlp_s h13]; first | rw [if_neg (Int32.not_lt.mpr h24), if_neg (Int32.not_le.mpr h41)] | rw [if_neg (Int32.not_lt.mpr h24), if_pos (Int32.not_lt.mp h41)] | rw [if_pos (Int32.not_le.mp h24), if_neg (Int32.not_le.mpr h41)] | rw [if_pos (Int32.not_le.mp h24), if_pos (Int32.not_lt.mp h41)]⟩
    · refine lv_iload hx hb dX3_near_27 (lv_at hl 7 rfl) ?_
      refine lv_iconst (v := nI 1) hx hb dX3_near_29 (by decide) ?_
      refine lv_iadd hx hb dX3_near_30 ?_
      refine top_i (y := nI (i + 1)) (nI_add _ _) ?_
      refine lv_istore (lv' := [(5, .int (nI (i + 1))), (0, .ref aM), (1, .int w), (2, .int x), (3, .int (nI b)), (4, .int (nI f)), (6, .int (nI p2)), (7, .int (nI i))]) hx hb dX3_near_31 hl (by decide) rfl (fun ls hl => ?_)
      refine lv_aload_n hx hb dX3_near_33 rfl (lv_at hl 1 rfl) ?_
      refine va_get (ci := 3) (v := .ref aA) (C := RX3) (T := TX3) (N := 10) hx hb hts hin_X3 hown hK hP 0 rfl rfl 0 (by decide) kf_9 (fun _ h9 => h9) rfl dX3_near_34 ?_
      refine lv_iload hx hb dX3_near_37 (lv_at hl 7 rfl) ?_
      refine a_ld hx hb hK hP 1 0 rfl rfl (by omega) (by decide) dX3_near_39 ?_
      refine lv_iload_n hx hb dX3_near_40 rfl (lv_at hl 3 rfl) ?_
      refine lv_icmp_gt (tgt := 50) hx hb dX3_near_41 (by decide) (fun h41 => ?_) (fun h41 => ?_)
      · refine lv_iinc (v := nI (i + 1)) (lv' := [(7, .int (nI (i + 1))), (5, .int (nI (i + 1))), (0, .ref aM), (1, .int w), (2, .int x), (3, .int (nI b)), (4, .int (nI f)), (6, .int (nI p2))]) hx hb dX3_near_50 hl (k := 7) rfl (by first | exact nI_1 _ | exact nI_add _ _) (by decide) rfl (fun ls hl => ?_)
        refine lv_goto (tgt := 9) hx hb dX3_near_53 (by decide) ?_
        exact ih (i + 1) _ (by omega) ⟨_, _, lv_sub hl [2, 3, 4, 5, 6, 1, 7, 0] rfl, by omega, by omega, by omega, by omega, by rw [hv, nlp_s h13]; first | rw [if_neg (Int32.not_lt.mpr h24), if_neg (Int32.not_le.mpr h41)] | rw [if_neg (Int32.not_lt.mpr h24), if_pos (Int32.not_lt.mp h41)] | rw [if_pos (Int32.not_le.mp h24), if_neg (Int32.not_le.mpr h41)] | rw [if_pos (Int32.not_le.mp h24), if_pos (Int32.not_lt.mp h41)]⟩
      · refine lv_iload hx hb dX3_near_44 (lv_at hl 7 rfl) ?_
        refine lv_iconst (v := nI 1) hx hb dX3_near_46 (by decide) ?_
        refine lv_iadd hx hb dX3_near_47 ?_
        refine top_i (y := nI (i + 1)) (nI_add _ _) ?_
        refine lv_istore (lv' := [(6, .int (nI (i + 1))), (5, .int (nI (i + 1))), (0, .ref aM), (1, .int w), (2, .int x), (3, .int (nI b)), (4, .int (nI f)), (7, .int (nI i))]) hx hb dX3_near_48 hl (by decide) rfl (fun ls hl => ?_)
        refine lv_iinc (v := nI (i + 1)) (lv' := [(7, .int (nI (i + 1))), (6, .int (nI (i + 1))), (5, .int (nI (i + 1))), (0, .ref aM), (1, .int w), (2, .int x), (3, .int (nI b)), (4, .int (nI f))]) hx hb dX3_near_50 hl (k := 7) rfl (by first | exact nI_1 _ | exact nI_add _ _) (by decide) rfl (fun ls hl => ?_)
        refine lv_goto (tgt := 9) hx hb dX3_near_53 (by decide) ?_
        exact ih (i + 1) _ (by omega) ⟨_, _, lv_sub hl [3, 4, 5, 6, 7, 2, 1, 0] rfl, by omega, by omega, by omega, by omega, by rw [hv, nlp_s h13]; first | rw [if_neg (Int32.not_lt.mpr h24), if_neg (Int32.not_le.mpr h41)] | rw [if_neg (Int32.not_lt.mpr h24), if_pos (Int32.not_lt.mp h41)] | rw [if_pos (Int32.not_le.mp h24), if_neg (Int32.not_le.mpr h41)] | rw [if_pos (Int32.not_le.mp h24), if_pos (Int32.not_lt.mp h41)]⟩

set_option maxHeartbeats 4000000 in
set_option maxRecDepth 100000 in
/-- near(what, k) -/
theorem c_X3_near_ (l : Launch) (D : va_G) (cy : ClassId) (aM aA aB : Nat) (k v : Nat → Int32) (c : Nat) (hc : c ≤ 64) (gl gh li hn fl : Bool) (lo hi : Int32) (w x : Int32) : Met l yX3_near_ wsX3_near_ ({ frames := 2, cells := 0, slots := 0, locals := 50 } : Room) (pcW D [(cy, .int)] [.ref aM, .int w, .int x] [(aM, .inr (3, [.ref aA, .ref aB, .int (nI c), .int (bI gl), .int (bI gh), .int (bI li), .int (bI hn), .int (bI fl), .int lo, .int hi])), (aA, .inl (cy, 64, .inl k)), (aB, .inl (cy, 64, .inl v))]) (qR (.long (kNM k w x 0 c))) 0 0 (fun _ => False) := by
  refine met_W (cc := cX3_near_) (maxL := 3) (ret := (some .long)) (by decide +kernel) rfl (Nat.le_of_ble_eq_true rfl) ?_
  intro pM eM s mM below meth cM ls hx hb hr hts hown hlocks hml hnm hK hP hl
  have hown : s.vm.findClass RX3 = some mM.cls := hown
  have hl : lv_has ls 3 [(0, .ref aM), (1, .int w), (2, .int x)] := hl
  have hin_X3 : ∀ w ∈ wsX30, w ∈ wsX3_near_ := by decide +kernel
  have kf_16 := hts (.fieldLink RX3 16 "OrderedDeskModel" "many" "I") (by decide +kernel)
  have hP : va_P D vwCl [(aM, .inr (3, [.ref aA, .ref aB, .int (nI c), .int (bI gl), .int (bI gh), .int (bI li), .int (bI hn), .int (bI fl), .int lo, .int hi])), (aA, .inl (cy, 64, .inl k)), (aB, .inl (cy, 64, .inl v))] s.heap := hP
  refine lv_aload_n hx hb dX3_near__0 rfl (lv_at hl 0 rfl) ?_
  refine lv_iload_n hx hb dX3_near__1 rfl (lv_at hl 1 rfl) ?_
  refine lv_iload_n hx hb dX3_near__2 rfl (lv_at hl 2 rfl) ?_
  refine lv_iconst (v := nI 0) hx hb dX3_near__3 (by decide) ?_
  refine lv_aload_n hx hb dX3_near__4 rfl (lv_at hl 0 rfl) ?_
  refine va_get (ci := 3) (v := .int (nI c)) (C := RX3) (T := TX3) (N := 10) hx hb hts hin_X3 hown hK hP 0 rfl rfl 2 (by decide) kf_16 (fun _ h9 => h9) rfl dX3_near__5 ?_
  refine go_R (va_runV (As := [.int w, .int x, .int (nI 0), .int (nI c)]) (rest := []) ⟨hx, hb, hml, hown, hts⟩ (c_X3_near l D cy aM aA aB k v c (by omega) gl gh li hn fl lo hi w x 0 c (by omega) (by omega)) (cwV 4 hts gX3_near__X3_near rfl rfl rfl (by decide +kernel) ⟨(Nat.le_of_ble_eq_true rfl), (Nat.le_of_ble_eq_true rfl)⟩) (preV_W hK (hP.sub [0, 1, 2] rfl) 0 3 rfl rfl) rfl rfl hl.1 rfl (lv_room (Nat.le_of_ble_eq_true rfl)) dX3_near__8 ⟨(Nat.le_of_ble_eq_true rfl), (Nat.le_of_ble_eq_true rfl)⟩) ?_
  exact ret_l hx hb hr hlocks dX3_near__11 (rfl)

set_option maxHeartbeats 4000000 in
set_option maxRecDepth 100000 in
/-- size() -/
theorem c_X3_size (l : Launch) (D : va_G) (cy : ClassId) (aM aA aB : Nat) (k v : Nat → Int32) (c : Nat) (hc : c ≤ 64) (gl gh li hn fl : Bool) (lo hi : Int32) : Met l yX3_size wsX3_size ({ frames := 0, cells := 0, slots := 0, locals := 0 } : Room) (pcW D [(cy, .int)] [.ref aM] [(aM, .inr (3, [.ref aA, .ref aB, .int (nI c), .int (bI gl), .int (bI gh), .int (bI li), .int (bI hn), .int (bI fl), .int lo, .int hi])), (aA, .inl (cy, 64, .inl k)), (aB, .inl (cy, 64, .inl v))]) (qR (.int (nI c))) 0 0 (fun _ => False) := by
  refine met_W (cc := cX3_size) (maxL := 1) (ret := (some .int)) (by decide +kernel) rfl (Nat.le_of_ble_eq_true rfl) ?_
  intro pM eM s mM below meth cM ls hx hb hr hts hown hlocks hml hnm hK hP hl
  have hown : s.vm.findClass RX3 = some mM.cls := hown
  have hl : lv_has ls 1 [(0, .ref aM)] := hl
  have hin_X3 : ∀ w ∈ wsX30, w ∈ wsX3_size := by decide +kernel
  have kf_16 := hts (.fieldLink RX3 16 "OrderedDeskModel" "many" "I") (by decide +kernel)
  have hP : va_P D vwCl [(aM, .inr (3, [.ref aA, .ref aB, .int (nI c), .int (bI gl), .int (bI gh), .int (bI li), .int (bI hn), .int (bI fl), .int lo, .int hi])), (aA, .inl (cy, 64, .inl k)), (aB, .inl (cy, 64, .inl v))] s.heap := hP
  refine lv_aload_n hx hb dX3_size_0 rfl (lv_at hl 0 rfl) ?_
  refine va_get (ci := 3) (v := .int (nI c)) (C := RX3) (T := TX3) (N := 10) hx hb hts hin_X3 hown hK hP 0 rfl rfl 2 (by decide) kf_16 (fun _ h9 => h9) rfl dX3_size_1 ?_
  exact ret_i hx hb hr hlocks dX3_size_4 (rfl)

set_option maxHeartbeats 4000000 in
set_option maxRecDepth 100000 in
/-- isIn(k) -/
theorem c_X3_isIn (l : Launch) (D : va_G) (cy : ClassId) (aM aA aB : Nat) (k v : Nat → Int32) (c : Nat) (hc : c ≤ 64) (gl gh li hn fl : Bool) (lo hi : Int32) (x : Int32) : Met l yX3_isIn wsX3_isIn ({ frames := 0, cells := 0, slots := 0, locals := 0 } : Room) (pcW D [(cy, .int)] [.ref aM, .int x] [(aM, .inr (3, [.ref aA, .ref aB, .int (nI c), .int (bI gl), .int (bI gh), .int (bI li), .int (bI hn), .int (bI fl), .int lo, .int hi])), (aA, .inl (cy, 64, .inl k)), (aB, .inl (cy, 64, .inl v))]) (qR (.int (bI (iM gl lo li gh hi hn x)))) 0 0 (fun _ => False) := by
  refine met_W (cc := cX3_isIn) (maxL := 2) (ret := (some .boolean)) (by decide +kernel) rfl (Nat.le_of_ble_eq_true rfl) ?_
  intro pM eM s mM below meth cM ls hx hb hr hts hown hlocks hml hnm hK hP hl
  have hown : s.vm.findClass RX3 = some mM.cls := hown
  have hl : lv_has ls 2 [(0, .ref aM), (1, .int x)] := hl
  have hin_X3 : ∀ w ∈ wsX30, w ∈ wsX3_isIn := by decide +kernel
  have kf_52 := hts (.fieldLink RX3 52 "OrderedDeskModel" "hasLow" "Z") (by decide +kernel)
  have kf_56 := hts (.fieldLink RX3 56 "OrderedDeskModel" "hasHigh" "Z") (by decide +kernel)
  have kf_72 := hts (.fieldLink RX3 72 "OrderedDeskModel" "low" "I") (by decide +kernel)
  have kf_75 := hts (.fieldLink RX3 75 "OrderedDeskModel" "lowIn" "Z") (by decide +kernel)
  have kf_78 := hts (.fieldLink RX3 78 "OrderedDeskModel" "high" "I") (by decide +kernel)
  have kf_81 := hts (.fieldLink RX3 81 "OrderedDeskModel" "highIn" "Z") (by decide +kernel)
  have hP : va_P D vwCl [(aM, .inr (3, [.ref aA, .ref aB, .int (nI c), .int (bI gl), .int (bI gh), .int (bI li), .int (bI hn), .int (bI fl), .int lo, .int hi])), (aA, .inl (cy, 64, .inl k)), (aB, .inl (cy, 64, .inl v))] s.heap := hP
  refine lv_aload_n hx hb dX3_isIn_0 rfl (lv_at hl 0 rfl) ?_
  refine va_get (ci := 3) (v := .int (bI gl)) (C := RX3) (T := TX3) (N := 10) hx hb hts hin_X3 hown hK hP 0 rfl rfl 3 (by decide) kf_52 (fun _ h9 => h9) rfl dX3_isIn_1 ?_
  refine b_eq (tgt := 30) hx hb dX3_isIn_4 (by decide) (fun a1 => ?_) (fun a1 => ?_)
  · have hlw : (!gl || decide (lo < x) || (decide (x = lo) && li)) = true := by rw [a1]; rfl
    refine lv_aload_n hx hb dX3_isIn_30 rfl (lv_at hl 0 rfl) ?_
    refine va_get (ci := 3) (v := .int (bI gh)) (C := RX3) (T := TX3) (N := 10) hx hb hts hin_X3 hown hK hP 0 rfl rfl 4 (by decide) kf_56 (fun _ h9 => h9) rfl dX3_isIn_31 ?_
    refine b_eq (tgt := 60) hx hb dX3_isIn_34 (by decide) (fun b1 => ?_) (fun b1 => ?_)
    · have hz : iM gl lo li gh hi hn x = true := by unfold iM; rw [hlw, b1]; rfl
      refine lv_iconst (v := bI true) hx hb dX3_isIn_60 (by decide) ?_
      refine lv_goto (tgt := 65) hx hb dX3_isIn_61 (by decide) ?_
      exact ret_z hx hb hr hlocks dX3_isIn_65 (by rw [hz])
    · refine lv_iload_n hx hb dX3_isIn_37 rfl (lv_at hl 1 rfl) ?_
      refine lv_aload_n hx hb dX3_isIn_38 rfl (lv_at hl 0 rfl) ?_
      refine va_get (ci := 3) (v := .int hi) (C := RX3) (T := TX3) (N := 10) hx hb hts hin_X3 hown hK hP 0 rfl rfl 9 (by decide) kf_78 (fun _ h9 => h9) rfl dX3_isIn_39 ?_
      refine lv_icmp_lt (tgt := 60) hx hb dX3_isIn_42 (by decide) (fun b2 => ?_) (fun b2 => ?_)
      · have hz : iM gl lo li gh hi hn x = true := by unfold iM; rw [hlw]; simp [b2]
        refine lv_iconst (v := bI true) hx hb dX3_isIn_60 (by decide) ?_
        refine lv_goto (tgt := 65) hx hb dX3_isIn_61 (by decide) ?_
        exact ret_z hx hb hr hlocks dX3_isIn_65 (by rw [hz])
      · refine lv_iload_n hx hb dX3_isIn_45 rfl (lv_at hl 1 rfl) ?_
        refine lv_aload_n hx hb dX3_isIn_46 rfl (lv_at hl 0 rfl) ?_
        refine va_get (ci := 3) (v := .int hi) (C := RX3) (T := TX3) (N := 10) hx hb hts hin_X3 hown hK hP 0 rfl rfl 9 (by decide) kf_78 (fun _ h9 => h9) rfl dX3_isIn_47 ?_
        refine lv_icmp_ne (tgt := 64) hx hb dX3_isIn_50 (by decide) (fun b3 => ?_) (fun b3 => ?_)
        · have hz : iM gl lo li gh hi hn x = false := by unfold iM; rw [hlw]; simp [b1, b2, b3]; first | exact Int32.not_lt.mp b2 | skip
          refine lv_iconst (v := bI false) hx hb dX3_isIn_64 (by decide) ?_
          exact ret_z hx hb hr hlocks dX3_isIn_65 (by rw [hz])
        · refine lv_aload_n hx hb dX3_isIn_53 rfl (lv_at hl 0 rfl) ?_
          refine va_get (ci := 3) (v := .int (bI hn)) (C := RX3) (T := TX3) (N := 10) hx hb hts hin_X3 hown hK hP 0 rfl rfl 6 (by decide) kf_81 (fun _ h9 => h9) rfl dX3_isIn_54 ?_
          refine b_eq (tgt := 64) hx hb dX3_isIn_57 (by decide) (fun b4 => ?_) (fun b4 => ?_)
          · have hz : iM gl lo li gh hi hn x = false := by unfold iM; rw [hlw]; simp [b1, b2, b4]; first | exact Int32.not_lt.mp b2 | skip
            refine lv_iconst (v := bI false) hx hb dX3_isIn_64 (by decide) ?_
            exact ret_z hx hb hr hlocks dX3_isIn_65 (by rw [hz])
          · have hz : iM gl lo li gh hi hn x = true := by unfold iM; rw [hlw]; simp [b3, b4]
            refine lv_iconst (v := bI true) hx hb dX3_isIn_60 (by decide) ?_
            refine lv_goto (tgt := 65) hx hb dX3_isIn_61 (by decide) ?_
            exact ret_z hx hb hr hlocks dX3_isIn_65 (by rw [hz])
  · refine lv_iload_n hx hb dX3_isIn_7 rfl (lv_at hl 1 rfl) ?_
    refine lv_aload_n hx hb dX3_isIn_8 rfl (lv_at hl 0 rfl) ?_
    refine va_get (ci := 3) (v := .int lo) (C := RX3) (T := TX3) (N := 10) hx hb hts hin_X3 hown hK hP 0 rfl rfl 8 (by decide) kf_72 (fun _ h9 => h9) rfl dX3_isIn_9 ?_
    refine lv_icmp_gt (tgt := 30) hx hb dX3_isIn_12 (by decide) (fun a2 => ?_) (fun a2 => ?_)
    · have hlw : (!gl || decide (lo < x) || (decide (x = lo) && li)) = true := by simp [a2]
      refine lv_aload_n hx hb dX3_isIn_30 rfl (lv_at hl 0 rfl) ?_
      refine va_get (ci := 3) (v := .int (bI gh)) (C := RX3) (T := TX3) (N := 10) hx hb hts hin_X3 hown hK hP 0 rfl rfl 4 (by decide) kf_56 (fun _ h9 => h9) rfl dX3_isIn_31 ?_
      refine b_eq (tgt := 60) hx hb dX3_isIn_34 (by decide) (fun b1 => ?_) (fun b1 => ?_)
      · have hz : iM gl lo li gh hi hn x = true := by unfold iM; rw [hlw, b1]; rfl
        refine lv_iconst (v := bI true) hx hb dX3_isIn_60 (by decide) ?_
        refine lv_goto (tgt := 65) hx hb dX3_isIn_61 (by decide) ?_
        exact ret_z hx hb hr hlocks dX3_isIn_65 (by rw [hz])
      · refine lv_iload_n hx hb dX3_isIn_37 rfl (lv_at hl 1 rfl) ?_
        refine lv_aload_n hx hb dX3_isIn_38 rfl (lv_at hl 0 rfl) ?_
        refine va_get (ci := 3) (v := .int hi) (C := RX3) (T := TX3) (N := 10) hx hb hts hin_X3 hown hK hP 0 rfl rfl 9 (by decide) kf_78 (fun _ h9 => h9) rfl dX3_isIn_39 ?_
        refine lv_icmp_lt (tgt := 60) hx hb dX3_isIn_42 (by decide) (fun b2 => ?_) (fun b2 => ?_)
        · have hz : iM gl lo li gh hi hn x = true := by unfold iM; rw [hlw]; simp [b2]
          refine lv_iconst (v := bI true) hx hb dX3_isIn_60 (by decide) ?_
          refine lv_goto (tgt := 65) hx hb dX3_isIn_61 (by decide) ?_
          exact ret_z hx hb hr hlocks dX3_isIn_65 (by rw [hz])
        · refine lv_iload_n hx hb dX3_isIn_45 rfl (lv_at hl 1 rfl) ?_
          refine lv_aload_n hx hb dX3_isIn_46 rfl (lv_at hl 0 rfl) ?_
          refine va_get (ci := 3) (v := .int hi) (C := RX3) (T := TX3) (N := 10) hx hb hts hin_X3 hown hK hP 0 rfl rfl 9 (by decide) kf_78 (fun _ h9 => h9) rfl dX3_isIn_47 ?_
          refine lv_icmp_ne (tgt := 64) hx hb dX3_isIn_50 (by decide) (fun b3 => ?_) (fun b3 => ?_)
          · have hz : iM gl lo li gh hi hn x = false := by unfold iM; rw [hlw]; simp [b1, b2, b3]; first | exact Int32.not_lt.mp b2 | skip
            refine lv_iconst (v := bI false) hx hb dX3_isIn_64 (by decide) ?_
            exact ret_z hx hb hr hlocks dX3_isIn_65 (by rw [hz])
          · refine lv_aload_n hx hb dX3_isIn_53 rfl (lv_at hl 0 rfl) ?_
            refine va_get (ci := 3) (v := .int (bI hn)) (C := RX3) (T := TX3) (N := 10) hx hb hts hin_X3 hown hK hP 0 rfl rfl 6 (by decide) kf_81 (fun _ h9 => h9) rfl dX3_isIn_54 ?_
            refine b_eq (tgt := 64) hx hb dX3_isIn_57 (by decide) (fun b4 => ?_) (fun b4 => ?_)
            · have hz : iM gl lo li gh hi hn x = false := by unfold iM; rw [hlw]; simp [b1, b2, b4]; first | exact Int32.not_lt.mp b2 | skip
              refine lv_iconst (v := bI false) hx hb dX3_isIn_64 (by decide) ?_
              exact ret_z hx hb hr hlocks dX3_isIn_65 (by rw [hz])
            · have hz : iM gl lo li gh hi hn x = true := by unfold iM; rw [hlw]; simp [b3, b4]
              refine lv_iconst (v := bI true) hx hb dX3_isIn_60 (by decide) ?_
              refine lv_goto (tgt := 65) hx hb dX3_isIn_61 (by decide) ?_
              exact ret_z hx hb hr hlocks dX3_isIn_65 (by rw [hz])
    · refine lv_iload_n hx hb dX3_isIn_15 rfl (lv_at hl 1 rfl) ?_
      refine lv_aload_n hx hb dX3_isIn_16 rfl (lv_at hl 0 rfl) ?_
      refine va_get (ci := 3) (v := .int lo) (C := RX3) (T := TX3) (N := 10) hx hb hts hin_X3 hown hK hP 0 rfl rfl 8 (by decide) kf_72 (fun _ h9 => h9) rfl dX3_isIn_17 ?_
      refine lv_icmp_ne (tgt := 64) hx hb dX3_isIn_20 (by decide) (fun a3 => ?_) (fun a3 => ?_)
      · have hlw : (!gl || decide (lo < x) || (decide (x = lo) && li)) = false := by simp [a1, a2, a3]; first | exact Int32.not_lt.mp a2 | skip
        have hz : iM gl lo li gh hi hn x = false := by unfold iM; rw [hlw]; rfl
        refine lv_iconst (v := bI false) hx hb dX3_isIn_64 (by decide) ?_
        exact ret_z hx hb hr hlocks dX3_isIn_65 (by rw [hz])
      · refine lv_aload_n hx hb dX3_isIn_23 rfl (lv_at hl 0 rfl) ?_
        refine va_get (ci := 3) (v := .int (bI li)) (C := RX3) (T := TX3) (N := 10) hx hb hts hin_X3 hown hK hP 0 rfl rfl 5 (by decide) kf_75 (fun _ h9 => h9) rfl dX3_isIn_24 ?_
        refine b_eq (tgt := 64) hx hb dX3_isIn_27 (by decide) (fun a4 => ?_) (fun a4 => ?_)
        · have hlw : (!gl || decide (lo < x) || (decide (x = lo) && li)) = false := by simp [a1, a2, a4]; first | exact Int32.not_lt.mp a2 | skip
          have hz : iM gl lo li gh hi hn x = false := by unfold iM; rw [hlw]; rfl
          refine lv_iconst (v := bI false) hx hb dX3_isIn_64 (by decide) ?_
          exact ret_z hx hb hr hlocks dX3_isIn_65 (by rw [hz])
        · have hlw : (!gl || decide (lo < x) || (decide (x = lo) && li)) = true := by simp [a3, a4]
          refine lv_aload_n hx hb dX3_isIn_30 rfl (lv_at hl 0 rfl) ?_
          refine va_get (ci := 3) (v := .int (bI gh)) (C := RX3) (T := TX3) (N := 10) hx hb hts hin_X3 hown hK hP 0 rfl rfl 4 (by decide) kf_56 (fun _ h9 => h9) rfl dX3_isIn_31 ?_
          refine b_eq (tgt := 60) hx hb dX3_isIn_34 (by decide) (fun b1 => ?_) (fun b1 => ?_)
          · have hz : iM gl lo li gh hi hn x = true := by unfold iM; rw [hlw, b1]; rfl
            refine lv_iconst (v := bI true) hx hb dX3_isIn_60 (by decide) ?_
            refine lv_goto (tgt := 65) hx hb dX3_isIn_61 (by decide) ?_
            exact ret_z hx hb hr hlocks dX3_isIn_65 (by rw [hz])
          · refine lv_iload_n hx hb dX3_isIn_37 rfl (lv_at hl 1 rfl) ?_
            refine lv_aload_n hx hb dX3_isIn_38 rfl (lv_at hl 0 rfl) ?_
            refine va_get (ci := 3) (v := .int hi) (C := RX3) (T := TX3) (N := 10) hx hb hts hin_X3 hown hK hP 0 rfl rfl 9 (by decide) kf_78 (fun _ h9 => h9) rfl dX3_isIn_39 ?_
            refine lv_icmp_lt (tgt := 60) hx hb dX3_isIn_42 (by decide) (fun b2 => ?_) (fun b2 => ?_)
            · have hz : iM gl lo li gh hi hn x = true := by unfold iM; rw [hlw]; simp [b2]
              refine lv_iconst (v := bI true) hx hb dX3_isIn_60 (by decide) ?_
              refine lv_goto (tgt := 65) hx hb dX3_isIn_61 (by decide) ?_
              exact ret_z hx hb hr hlocks dX3_isIn_65 (by rw [hz])
            · refine lv_iload_n hx hb dX3_isIn_45 rfl (lv_at hl 1 rfl) ?_
              refine lv_aload_n hx hb dX3_isIn_46 rfl (lv_at hl 0 rfl) ?_
              refine va_get (ci := 3) (v := .int hi) (C := RX3) (T := TX3) (N := 10) hx hb hts hin_X3 hown hK hP 0 rfl rfl 9 (by decide) kf_78 (fun _ h9 => h9) rfl dX3_isIn_47 ?_
              refine lv_icmp_ne (tgt := 64) hx hb dX3_isIn_50 (by decide) (fun b3 => ?_) (fun b3 => ?_)
              · have hz : iM gl lo li gh hi hn x = false := by unfold iM; rw [hlw]; simp [b1, b2, b3]; first | exact Int32.not_lt.mp b2 | skip
                refine lv_iconst (v := bI false) hx hb dX3_isIn_64 (by decide) ?_
                exact ret_z hx hb hr hlocks dX3_isIn_65 (by rw [hz])
              · refine lv_aload_n hx hb dX3_isIn_53 rfl (lv_at hl 0 rfl) ?_
                refine va_get (ci := 3) (v := .int (bI hn)) (C := RX3) (T := TX3) (N := 10) hx hb hts hin_X3 hown hK hP 0 rfl rfl 6 (by decide) kf_81 (fun _ h9 => h9) rfl dX3_isIn_54 ?_
                refine b_eq (tgt := 64) hx hb dX3_isIn_57 (by decide) (fun b4 => ?_) (fun b4 => ?_)
                · have hz : iM gl lo li gh hi hn x = false := by unfold iM; rw [hlw]; simp [b1, b2, b4]; first | exact Int32.not_lt.mp b2 | skip
                  refine lv_iconst (v := bI false) hx hb dX3_isIn_64 (by decide) ?_
                  exact ret_z hx hb hr hlocks dX3_isIn_65 (by rw [hz])
                · have hz : iM gl lo li gh hi hn x = true := by unfold iM; rw [hlw]; simp [b3, b4]
                  refine lv_iconst (v := bI true) hx hb dX3_isIn_60 (by decide) ?_
                  refine lv_goto (tgt := 65) hx hb dX3_isIn_61 (by decide) ?_
                  exact ret_z hx hb hr hlocks dX3_isIn_65 (by rw [hz])

set_option maxHeartbeats 4000000 in
set_option maxRecDepth 100000 in
/-- mayEnd(k, in) -/
theorem c_X3_mayEnd (l : Launch) (D : va_G) (cy : ClassId) (aM aA aB : Nat) (k v : Nat → Int32) (c : Nat) (hc : c ≤ 64) (gl gh li hn fl : Bool) (lo hi : Int32) (x : Int32) (i : Bool) : Met l yX3_mayEnd wsX3_mayEnd ({ frames := 1, cells := 0, slots := 0, locals := 21 } : Room) (pcW D [(cy, .int)] [.ref aM, .int x, .int (bI i)] [(aM, .inr (3, [.ref aA, .ref aB, .int (nI c), .int (bI gl), .int (bI gh), .int (bI li), .int (bI hn), .int (bI fl), .int lo, .int hi])), (aA, .inl (cy, 64, .inl k)), (aB, .inl (cy, 64, .inl v))]) (qR (.int (bI (mayM gl lo li gh hi hn x i)))) 0 0 (fun _ => False) := by
  refine met_W (cc := cX3_mayEnd) (maxL := 3) (ret := (some .boolean)) (by decide +kernel) rfl (Nat.le_of_ble_eq_true rfl) ?_
  intro pM eM s mM below meth cM ls hx hb hr hts hown hlocks hml hnm hK hP hl
  have hown : s.vm.findClass RX3 = some mM.cls := hown
  have hl : lv_has ls 3 [(0, .ref aM), (1, .int x), (2, .int (bI i))] := hl
  have hin_X3 : ∀ w ∈ wsX30, w ∈ wsX3_mayEnd := by decide +kernel
  have kf_52 := hts (.fieldLink RX3 52 "OrderedDeskModel" "hasLow" "Z") (by decide +kernel)
  have kf_56 := hts (.fieldLink RX3 56 "OrderedDeskModel" "hasHigh" "Z") (by decide +kernel)
  have kf_72 := hts (.fieldLink RX3 72 "OrderedDeskModel" "low" "I") (by decide +kernel)
  have kf_78 := hts (.fieldLink RX3 78 "OrderedDeskModel" "high" "I") (by decide +kernel)
  have hP : va_P D vwCl [(aM, .inr (3, [.ref aA, .ref aB, .int (nI c), .int (bI gl), .int (bI gh), .int (bI li), .int (bI hn), .int (bI fl), .int lo, .int hi])), (aA, .inl (cy, 64, .inl k)), (aB, .inl (cy, 64, .inl v))] s.heap := hP
  refine lv_iload_n hx hb dX3_mayEnd_0 rfl (lv_at hl 2 rfl) ?_
  refine b_eq (tgt := 12) hx hb dX3_mayEnd_1 (by decide) (fun h1 => ?_) (fun h1 => ?_)
  · have hz0 : mayM gl lo li gh hi hn x i = ((!gl || decide (lo ≤ x)) && (!gh || decide (x ≤ hi))) := if_neg (by rw [h1]; decide)
    refine lv_aload_n hx hb dX3_mayEnd_12 rfl (lv_at hl 0 rfl) ?_
    refine va_get (ci := 3) (v := .int (bI gl)) (C := RX3) (T := TX3) (N := 10) hx hb hts hin_X3 hown hK hP 0 rfl rfl 3 (by decide) kf_52 (fun _ h9 => h9) rfl dX3_mayEnd_13 ?_
    refine b_eq (tgt := 27) hx hb dX3_mayEnd_16 (by decide) (fun a1 => ?_) (fun a1 => ?_)
    · have hlw : (!gl || decide (lo ≤ x)) = true := by rw [a1]; rfl
      refine lv_aload_n hx hb dX3_mayEnd_27 rfl (lv_at hl 0 rfl) ?_
      refine va_get (ci := 3) (v := .int (bI gh)) (C := RX3) (T := TX3) (N := 10) hx hb hts hin_X3 hown hK hP 0 rfl rfl 4 (by decide) kf_56 (fun _ h9 => h9) rfl dX3_mayEnd_28 ?_
      refine b_eq (tgt := 42) hx hb dX3_mayEnd_31 (by decide) (fun b1 => ?_) (fun b1 => ?_)
      · have hz : mayM gl lo li gh hi hn x i = true := by rw [hz0, hlw, b1]; rfl
        refine lv_iconst (v := bI true) hx hb dX3_mayEnd_42 (by decide) ?_
        refine lv_goto (tgt := 47) hx hb dX3_mayEnd_43 (by decide) ?_
        exact ret_z hx hb hr hlocks dX3_mayEnd_47 (by rw [hz])
      · refine lv_iload_n hx hb dX3_mayEnd_34 rfl (lv_at hl 1 rfl) ?_
        refine lv_aload_n hx hb dX3_mayEnd_35 rfl (lv_at hl 0 rfl) ?_
        refine va_get (ci := 3) (v := .int hi) (C := RX3) (T := TX3) (N := 10) hx hb hts hin_X3 hown hK hP 0 rfl rfl 9 (by decide) kf_78 (fun _ h9 => h9) rfl dX3_mayEnd_36 ?_
        refine lv_icmp_gt (tgt := 46) hx hb dX3_mayEnd_39 (by decide) (fun b2 => ?_) (fun b2 => ?_)
        · have hz : mayM gl lo li gh hi hn x i = false := by rw [hz0, hlw]; simp [b1, Int32.not_le.mpr b2]
          refine lv_iconst (v := bI false) hx hb dX3_mayEnd_46 (by decide) ?_
          exact ret_z hx hb hr hlocks dX3_mayEnd_47 (by rw [hz])
        · have hz : mayM gl lo li gh hi hn x i = true := by rw [hz0, hlw]; simp [Int32.not_lt.mp b2]
          refine lv_iconst (v := bI true) hx hb dX3_mayEnd_42 (by decide) ?_
          refine lv_goto (tgt := 47) hx hb dX3_mayEnd_43 (by decide) ?_
          exact ret_z hx hb hr hlocks dX3_mayEnd_47 (by rw [hz])
    · refine lv_iload_n hx hb dX3_mayEnd_19 rfl (lv_at hl 1 rfl) ?_
      refine lv_aload_n hx hb dX3_mayEnd_20 rfl (lv_at hl 0 rfl) ?_
      refine va_get (ci := 3) (v := .int lo) (C := RX3) (T := TX3) (N := 10) hx hb hts hin_X3 hown hK hP 0 rfl rfl 8 (by decide) kf_72 (fun _ h9 => h9) rfl dX3_mayEnd_21 ?_
      refine lv_icmp_lt (tgt := 46) hx hb dX3_mayEnd_24 (by decide) (fun a2 => ?_) (fun a2 => ?_)
      · have hz : mayM gl lo li gh hi hn x i = false := by rw [hz0]; simp [a1, Int32.not_le.mpr a2]
        refine lv_iconst (v := bI false) hx hb dX3_mayEnd_46 (by decide) ?_
        exact ret_z hx hb hr hlocks dX3_mayEnd_47 (by rw [hz])
      · have hlw : (!gl || decide (lo ≤ x)) = true := by simp [Int32.not_lt.mp a2]
        refine lv_aload_n hx hb dX3_mayEnd_27 rfl (lv_at hl 0 rfl) ?_
        refine va_get (ci := 3) (v := .int (bI gh)) (C := RX3) (T := TX3) (N := 10) hx hb hts hin_X3 hown hK hP 0 rfl rfl 4 (by decide) kf_56 (fun _ h9 => h9) rfl dX3_mayEnd_28 ?_
        refine b_eq (tgt := 42) hx hb dX3_mayEnd_31 (by decide) (fun b1 => ?_) (fun b1 => ?_)
        · have hz : mayM gl lo li gh hi hn x i = true := by rw [hz0, hlw, b1]; rfl
          refine lv_iconst (v := bI true) hx hb dX3_mayEnd_42 (by decide) ?_
          refine lv_goto (tgt := 47) hx hb dX3_mayEnd_43 (by decide) ?_
          exact ret_z hx hb hr hlocks dX3_mayEnd_47 (by rw [hz])
        · refine lv_iload_n hx hb dX3_mayEnd_34 rfl (lv_at hl 1 rfl) ?_
          refine lv_aload_n hx hb dX3_mayEnd_35 rfl (lv_at hl 0 rfl) ?_
          refine va_get (ci := 3) (v := .int hi) (C := RX3) (T := TX3) (N := 10) hx hb hts hin_X3 hown hK hP 0 rfl rfl 9 (by decide) kf_78 (fun _ h9 => h9) rfl dX3_mayEnd_36 ?_
          refine lv_icmp_gt (tgt := 46) hx hb dX3_mayEnd_39 (by decide) (fun b2 => ?_) (fun b2 => ?_)
          · have hz : mayM gl lo li gh hi hn x i = false := by rw [hz0, hlw]; simp [b1, Int32.not_le.mpr b2]
            refine lv_iconst (v := bI false) hx hb dX3_mayEnd_46 (by decide) ?_
            exact ret_z hx hb hr hlocks dX3_mayEnd_47 (by rw [hz])
          · have hz : mayM gl lo li gh hi hn x i = true := by rw [hz0, hlw]; simp [Int32.not_lt.mp b2]
            refine lv_iconst (v := bI true) hx hb dX3_mayEnd_42 (by decide) ?_
            refine lv_goto (tgt := 47) hx hb dX3_mayEnd_43 (by decide) ?_
            exact ret_z hx hb hr hlocks dX3_mayEnd_47 (by rw [hz])
  · have hz : mayM gl lo li gh hi hn x i = iM gl lo li gh hi hn x := if_pos h1
    refine lv_aload_n hx hb dX3_mayEnd_4 rfl (lv_at hl 0 rfl) ?_
    refine lv_iload_n hx hb dX3_mayEnd_5 rfl (lv_at hl 1 rfl) ?_
    refine go_R (va_runV (As := [.int x]) (rest := []) ⟨hx, hb, hml, hown, hts⟩ (c_X3_isIn l D cy aM aA aB k v c (by omega) gl gh li hn fl lo hi x) (cwV 1 hts gX3_mayEnd_X3_isIn rfl rfl rfl (by decide +kernel) ⟨(Nat.le_of_ble_eq_true rfl), (Nat.le_of_ble_eq_true rfl)⟩) (preV_W hK (hP.sub [0, 1, 2] rfl) 0 3 rfl rfl) rfl rfl hl.1 rfl (lv_room (Nat.le_of_ble_eq_true rfl)) dX3_mayEnd_6 ⟨(Nat.le_of_ble_eq_true rfl), (Nat.le_of_ble_eq_true rfl)⟩) ?_
    refine lv_goto (tgt := 47) hx hb dX3_mayEnd_9 (by decide) ?_
    exact ret_z hx hb hr hlocks dX3_mayEnd_47 (by rw [hz])

set_option maxHeartbeats 4000000 in
set_option maxRecDepth 100000 in
/-- first() -/
theorem c_X3_first (l : Launch) (D : va_G) (cy : ClassId) (aM aA aB : Nat) (k v : Nat → Int32) (c : Nat) (hc : c ≤ 64) (gl gh li hn fl : Bool) (lo hi : Int32) : Met l yX3_first wsX3_first ({ frames := 1, cells := 0, slots := 0, locals := 21 } : Room) (pcW D [(cy, .int)] [.ref aM] [(aM, .inr (3, [.ref aA, .ref aB, .int (nI c), .int (bI gl), .int (bI gh), .int (bI li), .int (bI hn), .int (bI fl), .int lo, .int hi])), (aA, .inl (cy, 64, .inl k)), (aB, .inl (cy, 64, .inl v))]) (qR (.int (nI (mF k c gl lo li gh hi hn)))) 0 0 (fun _ => False) := by
  refine met_W (cc := cX3_first) (maxL := 2) (ret := (some .int)) (by decide +kernel) rfl (Nat.le_of_ble_eq_true rfl) ?_
  intro pM eM s mM below meth cM ls hx hb hr hts hown hlocks hml hnm hK hP hl
  have hown : s.vm.findClass RX3 = some mM.cls := hown
  have hl : lv_has ls 2 [(0, .ref aM)] := hl
  have hin_X3 : ∀ w ∈ wsX30, w ∈ wsX3_first := by decide +kernel
  have kf_16 := hts (.fieldLink RX3 16 "OrderedDeskModel" "many" "I") (by decide +kernel)
  have kf_56 := hts (.fieldLink RX3 56 "OrderedDeskModel" "hasHigh" "Z") (by decide +kernel)
  have kf_78 := hts (.fieldLink RX3 78 "OrderedDeskModel" "high" "I") (by decide +kernel)
  have kf_9 := hts (.fieldLink RX3 9 "OrderedDeskModel" "key" "[I") (by decide +kernel)
  have hP : va_P D vwCl [(aM, .inr (3, [.ref aA, .ref aB, .int (nI c), .int (bI gl), .int (bI gh), .int (bI li), .int (bI hn), .int (bI fl), .int lo, .int hi])), (aA, .inl (cy, 64, .inl k)), (aB, .inl (cy, 64, .inl v))] s.heap := hP
  refine lv_iconst (v := nI 0) hx hb dX3_first_0 (by decide) ?_
  refine lv_istore_n (lv' := [(1, .int (nI 0)), (0, .ref aM)]) hx hb dX3_first_1 rfl hl (by decide) rfl (fun ls hl => ?_)
  refine W_loopR (I := fun (i : Nat) (ls : Array Slot) => lv_has ls 2 [(0, .ref aM), (1, .int (nI i))] ∧ i ≤ c ∧ mF k c gl lo li gh hi hn = pf (fun j => !iM gl lo li gh hi hn (k j) && !(gh && decide (hi < k j))) (c - i) i) (μ := fun i => c - i) (fun i ls h ih => ?_) 0 ⟨lv_sub hl [1, 0] rfl, Nat.zero_le _, rfl⟩
  obtain ⟨hl, hi1, hv⟩ := h
  refine lv_iload_n hx hb dX3_first_2 rfl (lv_at hl 1 rfl) ?_
  refine lv_aload_n hx hb dX3_first_3 rfl (lv_at hl 0 rfl) ?_
  refine va_get (ci := 3) (v := .int (nI c)) (C := RX3) (T := TX3) (N := 10) hx hb hts hin_X3 hown hK hP 0 rfl rfl 2 (by decide) kf_16 (fun _ h9 => h9) rfl dX3_first_4 ?_
  refine n_ge (tgt := 49) (by omega) (by omega) hx hb dX3_first_7 (by decide) (fun h7 => ?_) (fun h7 => ?_)
  · have hv2 : mF k c gl lo li gh hi hn = i := by rw [hv, pf_e h7]
    refine lv_iload_n hx hb dX3_first_49 rfl (lv_at hl 1 rfl) ?_
    exact ret_i hx hb hr hlocks dX3_first_50 (by rw [hv2])
  · refine lv_aload_n hx hb dX3_first_10 rfl (lv_at hl 0 rfl) ?_
    refine lv_aload_n hx hb dX3_first_11 rfl (lv_at hl 0 rfl) ?_
    refine va_get (ci := 3) (v := .ref aA) (C := RX3) (T := TX3) (N := 10) hx hb hts hin_X3 hown hK hP 0 rfl rfl 0 (by decide) kf_9 (fun _ h9 => h9) rfl dX3_first_12 ?_
    refine lv_iload_n hx hb dX3_first_15 rfl (lv_at hl 1 rfl) ?_
    refine a_ld hx hb hK hP 1 0 rfl rfl (by omega) (by decide) dX3_first_16 ?_
    refine go_R (va_runV (As := [.int (k i)]) (rest := []) ⟨hx, hb, hml, hown, hts⟩ (c_X3_isIn l D cy aM aA aB k v c (by omega) gl gh li hn fl lo hi (k i)) (cwV 1 hts gX3_first_X3_isIn rfl rfl rfl (by decide +kernel) ⟨(Nat.le_of_ble_eq_true rfl), (Nat.le_of_ble_eq_true rfl)⟩) (preV_W hK (hP.sub [0, 1, 2] rfl) 0 3 rfl rfl) rfl rfl hl.1 rfl (lv_room (Nat.le_of_ble_eq_true rfl)) dX3_first_17 ⟨(Nat.le_of_ble_eq_true rfl), (Nat.le_of_ble_eq_true rfl)⟩) ?_
    refine b_ne (tgt := 49) hx hb dX3_first_20 (by decide) (fun h20 => ?_) (fun h20 => ?_)
    · have hv2 : mF k c gl lo li gh hi hn = i := by rw [hv, pf_f (by simp [h20])]
      refine lv_iload_n hx hb dX3_first_49 rfl (lv_at hl 1 rfl) ?_
      exact ret_i hx hb hr hlocks dX3_first_50 (by rw [hv2])
    · refine lv_aload_n hx hb dX3_first_23 rfl (lv_at hl 0 rfl) ?_
      refine va_get (ci := 3) (v := .int (bI gh)) (C := RX3) (T := TX3) (N := 10) hx hb hts hin_X3 hown hK hP 0 rfl rfl 4 (by decide) kf_56 (fun _ h9 => h9) rfl dX3_first_24 ?_
      refine b_eq (tgt := 43) hx hb dX3_first_27 (by decide) (fun h27 => ?_) (fun h27 => ?_)
      · refine lv_iinc (v := nI (i + 1)) (lv' := [(1, .int (nI (i + 1))), (0, .ref aM)]) hx hb dX3_first_43 hl (k := 1) rfl (by first | exact nI_1 _ | exact nI_add _ _) (by decide) rfl (fun ls hl => ?_)
        refine lv_goto (tgt := 2) hx hb dX3_first_46 (by decide) ?_
        exact ih (i + 1) _ (by omega) ⟨lv_sub hl [1, 0] rfl, by omega, by rw [hv, pf_t h7 (by show (!iM gl lo li gh hi hn (k i) && !(gh && decide (hi < k i))) = true; rw [h20]; first | (rw [h27]; rfl) | (rw [decide_eq_false h40, Bool.and_false]; rfl))]⟩
      · refine lv_aload_n hx hb dX3_first_30 rfl (lv_at hl 0 rfl) ?_
        refine va_get (ci := 3) (v := .ref aA) (C := RX3) (T := TX3) (N := 10) hx hb hts hin_X3 hown hK hP 0 rfl rfl 0 (by decide) kf_9 (fun _ h9 => h9) rfl dX3_first_31 ?_
        refine lv_iload_n hx hb dX3_first_34 rfl (lv_at hl 1 rfl) ?_
        refine a_ld hx hb hK hP 1 0 rfl rfl (by omega) (by decide) dX3_first_35 ?_
        refine lv_aload_n hx hb dX3_first_36 rfl (lv_at hl 0 rfl) ?_
        refine va_get (ci := 3) (v := .int hi) (C := RX3) (T := TX3) (N := 10) hx hb hts hin_X3 hown hK hP 0 rfl rfl 9 (by decide) kf_78 (fun _ h9 => h9) rfl dX3_first_37 ?_
        refine lv_icmp_gt (tgt := 49) hx hb dX3_first_40 (by decide) (fun h40 => ?_) (fun h40 => ?_)
        · have hv2 : mF k c gl lo li gh hi hn = i := by rw [hv, pf_f (by simp [h27, h40])]
          refine lv_iload_n hx hb dX3_first_49 rfl (lv_at hl 1 rfl) ?_
          exact ret_i hx hb hr hlocks dX3_first_50 (by rw [hv2])
        · refine lv_iinc (v := nI (i + 1)) (lv' := [(1, .int (nI (i + 1))), (0, .ref aM)]) hx hb dX3_first_43 hl (k := 1) rfl (by first | exact nI_1 _ | exact nI_add _ _) (by decide) rfl (fun ls hl => ?_)
          refine lv_goto (tgt := 2) hx hb dX3_first_46 (by decide) ?_
          exact ih (i + 1) _ (by omega) ⟨lv_sub hl [1, 0] rfl, by omega, by rw [hv, pf_t h7 (by show (!iM gl lo li gh hi hn (k i) && !(gh && decide (hi < k i))) = true; rw [h20]; first | (rw [h27]; rfl) | (rw [decide_eq_false h40, Bool.and_false]; rfl))]⟩

set_option maxHeartbeats 4000000 in
set_option maxRecDepth 100000 in
/-- behind() -/
theorem c_X3_behind (l : Launch) (D : va_G) (cy : ClassId) (aM aA aB : Nat) (k v : Nat → Int32) (c : Nat) (hc : c ≤ 64) (gl gh li hn fl : Bool) (lo hi : Int32) : Met l yX3_behind wsX3_behind ({ frames := 2, cells := 0, slots := 0, locals := 42 } : Room) (pcW D [(cy, .int)] [.ref aM] [(aM, .inr (3, [.ref aA, .ref aB, .int (nI c), .int (bI gl), .int (bI gh), .int (bI li), .int (bI hn), .int (bI fl), .int lo, .int hi])), (aA, .inl (cy, 64, .inl k)), (aB, .inl (cy, 64, .inl v))]) (qR (.int (nI (mE k c gl lo li gh hi hn)))) 0 0 (fun _ => False) := by
  refine met_W (cc := cX3_behind) (maxL := 2) (ret := (some .int)) (by decide +kernel) rfl (Nat.le_of_ble_eq_true rfl) ?_
  intro pM eM s mM below meth cM ls hx hb hr hts hown hlocks hml hnm hK hP hl
  have hown : s.vm.findClass RX3 = some mM.cls := hown
  have hl : lv_has ls 2 [(0, .ref aM)] := hl
  have hin_X3 : ∀ w ∈ wsX30, w ∈ wsX3_behind := by decide +kernel
  have kf_16 := hts (.fieldLink RX3 16 "OrderedDeskModel" "many" "I") (by decide +kernel)
  have kf_9 := hts (.fieldLink RX3 9 "OrderedDeskModel" "key" "[I") (by decide +kernel)
  have hP : va_P D vwCl [(aM, .inr (3, [.ref aA, .ref aB, .int (nI c), .int (bI gl), .int (bI gh), .int (bI li), .int (bI hn), .int (bI fl), .int lo, .int hi])), (aA, .inl (cy, 64, .inl k)), (aB, .inl (cy, 64, .inl v))] s.heap := hP
  have q1 := mF_le k c gl lo li gh hi hn
  have q2 := mE_le k c gl lo li gh hi hn
  have q3 := mFE k c gl lo li gh hi hn
  refine lv_aload_n hx hb dX3_behind_0 rfl (lv_at hl 0 rfl) ?_
  refine go_R (va_runV (As := []) (rest := []) ⟨hx, hb, hml, hown, hts⟩ (c_X3_first l D cy aM aA aB k v c (by omega) gl gh li hn fl lo hi) (cwV 0 hts gX3_behind_X3_first rfl rfl rfl (by decide +kernel) ⟨(Nat.le_of_ble_eq_true rfl), (Nat.le_of_ble_eq_true rfl)⟩) (preV_W hK (hP.sub [0, 1, 2] rfl) 0 3 rfl rfl) rfl rfl hl.1 rfl (lv_room (Nat.le_of_ble_eq_true rfl)) dX3_behind_1 ⟨(Nat.le_of_ble_eq_true rfl), (Nat.le_of_ble_eq_true rfl)⟩) ?_
  refine lv_istore_n (lv' := [(1, .int (nI (mF k c gl lo li gh hi hn))), (0, .ref aM)]) hx hb dX3_behind_4 rfl hl (by decide) rfl (fun ls hl => ?_)
  refine W_loopR (I := fun (i : Nat) (ls : Array Slot) => lv_has ls 2 [(0, .ref aM), (1, .int (nI i))] ∧ i ≤ c ∧ mE k c gl lo li gh hi hn = pf (fun j => iM gl lo li gh hi hn (k j)) (c - i) i) (μ := fun i => c - i) (fun i ls h ih => ?_) (mF k c gl lo li gh hi hn) ⟨lv_sub hl [1, 0] rfl, mF_le _ _ _ _ _ _ _ _, rfl⟩
  obtain ⟨hl, hi1, hv⟩ := h
  refine lv_iload_n hx hb dX3_behind_5 rfl (lv_at hl 1 rfl) ?_
  refine lv_aload_n hx hb dX3_behind_6 rfl (lv_at hl 0 rfl) ?_
  refine va_get (ci := 3) (v := .int (nI c)) (C := RX3) (T := TX3) (N := 10) hx hb hts hin_X3 hown hK hP 0 rfl rfl 2 (by decide) kf_16 (fun _ h9 => h9) rfl dX3_behind_7 ?_
  refine n_ge (tgt := 32) (by omega) (by omega) hx hb dX3_behind_10 (by decide) (fun h10 => ?_) (fun h10 => ?_)
  · have hv2 : mE k c gl lo li gh hi hn = i := by rw [hv, pf_e h10]
    refine lv_iload_n hx hb dX3_behind_32 rfl (lv_at hl 1 rfl) ?_
    exact ret_i hx hb hr hlocks dX3_behind_33 (by rw [hv2])
  · refine lv_aload_n hx hb dX3_behind_13 rfl (lv_at hl 0 rfl) ?_
    refine lv_aload_n hx hb dX3_behind_14 rfl (lv_at hl 0 rfl) ?_
    refine va_get (ci := 3) (v := .ref aA) (C := RX3) (T := TX3) (N := 10) hx hb hts hin_X3 hown hK hP 0 rfl rfl 0 (by decide) kf_9 (fun _ h9 => h9) rfl dX3_behind_15 ?_
    refine lv_iload_n hx hb dX3_behind_18 rfl (lv_at hl 1 rfl) ?_
    refine a_ld hx hb hK hP 1 0 rfl rfl (by omega) (by decide) dX3_behind_19 ?_
    refine go_R (va_runV (As := [.int (k i)]) (rest := []) ⟨hx, hb, hml, hown, hts⟩ (c_X3_isIn l D cy aM aA aB k v c (by omega) gl gh li hn fl lo hi (k i)) (cwV 1 hts gX3_behind_X3_isIn rfl rfl rfl (by decide +kernel) ⟨(Nat.le_of_ble_eq_true rfl), (Nat.le_of_ble_eq_true rfl)⟩) (preV_W hK (hP.sub [0, 1, 2] rfl) 0 3 rfl rfl) rfl rfl hl.1 rfl (lv_room (Nat.le_of_ble_eq_true rfl)) dX3_behind_20 ⟨(Nat.le_of_ble_eq_true rfl), (Nat.le_of_ble_eq_true rfl)⟩) ?_
    refine b_eq (tgt := 32) hx hb dX3_behind_23 (by decide) (fun h23 => ?_) (fun h23 => ?_)
    · have hv2 : mE k c gl lo li gh hi hn = i := by rw [hv, pf_f h23]
      refine lv_iload_n hx hb dX3_behind_32 rfl (lv_at hl 1 rfl) ?_
      exact ret_i hx hb hr hlocks dX3_behind_33 (by rw [hv2])
    · refine lv_iinc (v := nI (i + 1)) (lv' := [(1, .int (nI (i + 1))), (0, .ref aM)]) hx hb dX3_behind_26 hl (k := 1) rfl (by first | exact nI_1 _ | exact nI_add _ _) (by decide) rfl (fun ls hl => ?_)
      refine lv_goto (tgt := 5) hx hb dX3_behind_29 (by decide) ?_
      exact ih (i + 1) _ (by omega) ⟨lv_sub hl [1, 0] rfl, by omega, by rw [hv, pf_t h10 h23]⟩

set_option maxHeartbeats 4000000 in
set_option maxRecDepth 100000 in
/-- viewSize() -/
theorem c_X3_viewSize (l : Launch) (D : va_G) (cy : ClassId) (aM aA aB : Nat) (k v : Nat → Int32) (c : Nat) (hc : c ≤ 64) (gl gh li hn fl : Bool) (lo hi : Int32) : Met l yX3_viewSize wsX3_viewSize ({ frames := 3, cells := 0, slots := 0, locals := 63 } : Room) (pcW D [(cy, .int)] [.ref aM] [(aM, .inr (3, [.ref aA, .ref aB, .int (nI c), .int (bI gl), .int (bI gh), .int (bI li), .int (bI hn), .int (bI fl), .int lo, .int hi])), (aA, .inl (cy, 64, .inl k)), (aB, .inl (cy, 64, .inl v))]) (qR (.int (nI (mE k c gl lo li gh hi hn - mF k c gl lo li gh hi hn)))) 0 0 (fun _ => False) := by
  refine met_W (cc := cX3_viewSize) (maxL := 1) (ret := (some .int)) (by decide +kernel) rfl (Nat.le_of_ble_eq_true rfl) ?_
  intro pM eM s mM below meth cM ls hx hb hr hts hown hlocks hml hnm hK hP hl
  have hown : s.vm.findClass RX3 = some mM.cls := hown
  have hl : lv_has ls 1 [(0, .ref aM)] := hl
  have hP : va_P D vwCl [(aM, .inr (3, [.ref aA, .ref aB, .int (nI c), .int (bI gl), .int (bI gh), .int (bI li), .int (bI hn), .int (bI fl), .int lo, .int hi])), (aA, .inl (cy, 64, .inl k)), (aB, .inl (cy, 64, .inl v))] s.heap := hP
  have q1 := mF_le k c gl lo li gh hi hn
  have q2 := mE_le k c gl lo li gh hi hn
  have q3 := mFE k c gl lo li gh hi hn
  refine lv_aload_n hx hb dX3_viewSize_0 rfl (lv_at hl 0 rfl) ?_
  refine go_R (va_runV (As := []) (rest := []) ⟨hx, hb, hml, hown, hts⟩ (c_X3_behind l D cy aM aA aB k v c (by omega) gl gh li hn fl lo hi) (cwV 0 hts gX3_viewSize_X3_behind rfl rfl rfl (by decide +kernel) ⟨(Nat.le_of_ble_eq_true rfl), (Nat.le_of_ble_eq_true rfl)⟩) (preV_W hK (hP.sub [0, 1, 2] rfl) 0 3 rfl rfl) rfl rfl hl.1 rfl (lv_room (Nat.le_of_ble_eq_true rfl)) dX3_viewSize_1 ⟨(Nat.le_of_ble_eq_true rfl), (Nat.le_of_ble_eq_true rfl)⟩) ?_
  refine lv_aload_n hx hb dX3_viewSize_4 rfl (lv_at hl 0 rfl) ?_
  refine go_R (va_runV (As := []) (rest := [.int (nI (mE k c gl lo li gh hi hn))]) ⟨hx, hb, hml, hown, hts⟩ (c_X3_first l D cy aM aA aB k v c (by omega) gl gh li hn fl lo hi) (cwV 0 hts gX3_viewSize_X3_first rfl rfl rfl (by decide +kernel) ⟨(Nat.le_of_ble_eq_true rfl), (Nat.le_of_ble_eq_true rfl)⟩) (preV_W hK (hP.sub [0, 1, 2] rfl) 0 3 rfl rfl) rfl rfl hl.1 rfl (lv_room (Nat.le_of_ble_eq_true rfl)) dX3_viewSize_5 ⟨(Nat.le_of_ble_eq_true rfl), (Nat.le_of_ble_eq_true rfl)⟩) ?_
  refine lv_isub hx hb dX3_viewSize_8 ?_
  refine top_i (y := nI ((mE k c gl lo li gh hi hn) - (mF k c gl lo li gh hi hn))) (pk_sub (by omega)) ?_
  exact ret_i hx hb hr hlocks dX3_viewSize_9 (rfl)

set_option maxHeartbeats 4000000 in
set_option maxRecDepth 100000 in
/-- viewGet(k) -/
theorem c_X3_viewGet (l : Launch) (D : va_G) (cy : ClassId) (aM aA aB : Nat) (k v : Nat → Int32) (c : Nat) (hc : c ≤ 64) (gl gh li hn fl : Bool) (lo hi : Int32) (x : Int32) : Met l yX3_viewGet wsX3_viewGet ({ frames := 2, cells := 0, slots := 0, locals := 44 } : Room) (pcW D [(cy, .int)] [.ref aM, .int x] [(aM, .inr (3, [.ref aA, .ref aB, .int (nI c), .int (bI gl), .int (bI gh), .int (bI li), .int (bI hn), .int (bI fl), .int lo, .int hi])), (aA, .inl (cy, 64, .inl k)), (aB, .inl (cy, 64, .inl v))]) (qR (.long (if iM gl lo li gh hi hn x = true then vOf k v c x else NO))) 0 0 (fun _ => False) := by
  refine met_W (cc := cX3_viewGet) (maxL := 2) (ret := (some .long)) (by decide +kernel) rfl (Nat.le_of_ble_eq_true rfl) ?_
  intro pM eM s mM below meth cM ls hx hb hr hts hown hlocks hml hnm hK hP hl
  have hown : s.vm.findClass RX3 = some mM.cls := hown
  have hl : lv_has ls 2 [(0, .ref aM), (1, .int x)] := hl
  have kc_38 := hts (.constantLong RX3 38 (1099511627776)) (by decide +kernel)
  have hP : va_P D vwCl [(aM, .inr (3, [.ref aA, .ref aB, .int (nI c), .int (bI gl), .int (bI gh), .int (bI li), .int (bI hn), .int (bI fl), .int lo, .int hi])), (aA, .inl (cy, 64, .inl k)), (aB, .inl (cy, 64, .inl v))] s.heap := hP
  refine lv_aload_n hx hb dX3_viewGet_0 rfl (lv_at hl 0 rfl) ?_
  refine lv_iload_n hx hb dX3_viewGet_1 rfl (lv_at hl 1 rfl) ?_
  refine go_R (va_runV (As := [.int x]) (rest := []) ⟨hx, hb, hml, hown, hts⟩ (c_X3_isIn l D cy aM aA aB k v c (by omega) gl gh li hn fl lo hi x) (cwV 1 hts gX3_viewGet_X3_isIn rfl rfl rfl (by decide +kernel) ⟨(Nat.le_of_ble_eq_true rfl), (Nat.le_of_ble_eq_true rfl)⟩) (preV_W hK (hP.sub [0, 1, 2] rfl) 0 3 rfl rfl) rfl rfl hl.1 rfl (lv_room (Nat.le_of_ble_eq_true rfl)) dX3_viewGet_2 ⟨(Nat.le_of_ble_eq_true rfl), (Nat.le_of_ble_eq_true rfl)⟩) ?_
  refine b_eq (tgt := 16) hx hb dX3_viewGet_5 (by decide) (fun h5 => ?_) (fun h5 => ?_)
  · refine lv_ldc2 hx hb hown kc_38 dX3_viewGet_16 ?_
    exact ret_l hx hb hr hlocks dX3_viewGet_19 (by rw [h5]; rfl)
  · refine lv_aload_n hx hb dX3_viewGet_8 rfl (lv_at hl 0 rfl) ?_
    refine lv_iload_n hx hb dX3_viewGet_9 rfl (lv_at hl 1 rfl) ?_
    refine go_R (va_runV (As := [.int x]) (rest := []) ⟨hx, hb, hml, hown, hts⟩ (c_X3_get l D cy aM aA aB k v c (by omega) gl gh li hn fl lo hi x) (cwV 1 hts gX3_viewGet_X3_get rfl rfl rfl (by decide +kernel) ⟨(Nat.le_of_ble_eq_true rfl), (Nat.le_of_ble_eq_true rfl)⟩) (preV_W hK (hP.sub [0, 1, 2] rfl) 0 3 rfl rfl) rfl rfl hl.1 rfl (lv_room (Nat.le_of_ble_eq_true rfl)) dX3_viewGet_10 ⟨(Nat.le_of_ble_eq_true rfl), (Nat.le_of_ble_eq_true rfl)⟩) ?_
    refine lv_goto (tgt := 19) hx hb dX3_viewGet_13 (by decide) ?_
    exact ret_l hx hb hr hlocks dX3_viewGet_19 (by rw [h5]; rfl)

set_option maxHeartbeats 4000000 in
set_option maxRecDepth 100000 in
/-- viewNear(what, k) -/
theorem c_X3_viewNear (l : Launch) (D : va_G) (cy : ClassId) (aM aA aB : Nat) (k v : Nat → Int32) (c : Nat) (hc : c ≤ 64) (gl gh li hn fl : Bool) (lo hi : Int32) (w x : Int32) : Met l yX3_viewNear wsX3_viewNear ({ frames := 3, cells := 0, slots := 0, locals := 63 } : Room) (pcW D [(cy, .int)] [.ref aM, .int w, .int x] [(aM, .inr (3, [.ref aA, .ref aB, .int (nI c), .int (bI gl), .int (bI gh), .int (bI li), .int (bI hn), .int (bI fl), .int lo, .int hi])), (aA, .inl (cy, 64, .inl k)), (aB, .inl (cy, 64, .inl v))]) (qR (.long (if w < 0 ∨ 5 < w then NO else kNM k (if fl = true then xw w else w) x (mF k c gl lo li gh hi hn) (mE k c gl lo li gh hi hn)))) 0 0 (fun _ => False) := by
  refine met_W (cc := cX3_viewNear) (maxL := 3) (ret := (some .long)) (by decide +kernel) rfl (Nat.le_of_ble_eq_true rfl) ?_
  intro pM eM s mM below meth cM ls hx hb hr hts hown hlocks hml hnm hK hP hl
  have hown : s.vm.findClass RX3 = some mM.cls := hown
  have hl : lv_has ls 3 [(0, .ref aM), (1, .int w), (2, .int x)] := hl
  have hin_X3 : ∀ w ∈ wsX30, w ∈ wsX3_viewNear := by decide +kernel
  have kf_59 := hts (.fieldLink RX3 59 "OrderedDeskModel" "falls" "Z") (by decide +kernel)
  have kc_38 := hts (.constantLong RX3 38 (1099511627776)) (by decide +kernel)
  have hP : va_P D vwCl [(aM, .inr (3, [.ref aA, .ref aB, .int (nI c), .int (bI gl), .int (bI gh), .int (bI li), .int (bI hn), .int (bI fl), .int lo, .int hi])), (aA, .inl (cy, 64, .inl k)), (aB, .inl (cy, 64, .inl v))] s.heap := hP
  have q1 := mF_le k c gl lo li gh hi hn
  have q2 := mE_le k c gl lo li gh hi hn
  have q3 := mFE k c gl lo li gh hi hn
  refine lv_iload_n hx hb dX3_viewNear_0 rfl (lv_at hl 1 rfl) ?_
  refine lv_if_lt (tgt := 9) hx hb dX3_viewNear_1 (by decide) (fun h1 => ?_) (fun h1 => ?_)
  · have hz : (if w < 0 ∨ 5 < w then NO else kNM k (if fl = true then xw w else w) x (mF k c gl lo li gh hi hn) (mE k c gl lo li gh hi hn)) = NO := if_pos (Or.inl h1)
    refine lv_ldc2 hx hb hown kc_38 dX3_viewNear_9 ?_
    exact ret_l hx hb hr hlocks dX3_viewNear_12 (by first | (rw [if_neg (show ¬ fl = true by rw [h18]; decide)]; exact hz.symm) | (rw [if_pos h18]; exact hz.symm) | exact hz.symm)
  · refine lv_iload_n hx hb dX3_viewNear_4 rfl (lv_at hl 1 rfl) ?_
    refine lv_iconst (v := 5) hx hb dX3_viewNear_5 (by decide) ?_
    refine lv_icmp_le (tgt := 13) hx hb dX3_viewNear_6 (by decide) (fun h6 => ?_) (fun h6 => ?_)
    · have hz : (if w < 0 ∨ 5 < w then NO else kNM k (if fl = true then xw w else w) x (mF k c gl lo li gh hi hn) (mE k c gl lo li gh hi hn)) = kNM k (if fl = true then xw w else w) x (mF k c gl lo li gh hi hn) (mE k c gl lo li gh hi hn) := if_neg (fun q => q.elim h1 (Int32.not_lt.mpr h6))
      refine lv_aload_n hx hb dX3_viewNear_13 rfl (lv_at hl 0 rfl) ?_
      refine lv_aload_n hx hb dX3_viewNear_14 rfl (lv_at hl 0 rfl) ?_
      refine va_get (ci := 3) (v := .int (bI fl)) (C := RX3) (T := TX3) (N := 10) hx hb hts hin_X3 hown hK hP 0 rfl rfl 7 (by decide) kf_59 (fun _ h9 => h9) rfl dX3_viewNear_15 ?_
      refine b_eq (tgt := 27) hx hb dX3_viewNear_18 (by decide) (fun h18 => ?_) (fun h18 => ?_)
      · rw [if_neg (show ¬ fl = true by rw [h18]; decide)] at hz
        refine lv_iload_n hx hb dX3_viewNear_27 rfl (lv_at hl 1 rfl) ?_
        refine lv_iload_n hx hb dX3_viewNear_28 rfl (lv_at hl 2 rfl) ?_
        refine lv_aload_n hx hb dX3_viewNear_29 rfl (lv_at hl 0 rfl) ?_
        refine go_R (va_runV (As := []) (rest := [.int x, .int w, .ref aM]) ⟨hx, hb, hml, hown, hts⟩ (c_X3_first l D cy aM aA aB k v c (by omega) gl gh li hn fl lo hi) (cwV 0 hts gX3_viewNear_X3_first rfl rfl rfl (by decide +kernel) ⟨(Nat.le_of_ble_eq_true rfl), (Nat.le_of_ble_eq_true rfl)⟩) (preV_W hK (hP.sub [0, 1, 2] rfl) 0 3 rfl rfl) rfl rfl hl.1 rfl (lv_room (Nat.le_of_ble_eq_true rfl)) dX3_viewNear_30 ⟨(Nat.le_of_ble_eq_true rfl), (Nat.le_of_ble_eq_true rfl)⟩) ?_
        refine lv_aload_n hx hb dX3_viewNear_33 rfl (lv_at hl 0 rfl) ?_
        refine go_R (va_runV (As := []) (rest := [.int (nI (mF k c gl lo li gh hi hn)), .int x, .int w, .ref aM]) ⟨hx, hb, hml, hown, hts⟩ (c_X3_behind l D cy aM aA aB k v c (by omega) gl gh li hn fl lo hi) (cwV 0 hts gX3_viewNear_X3_behind rfl rfl rfl (by decide +kernel) ⟨(Nat.le_of_ble_eq_true rfl), (Nat.le_of_ble_eq_true rfl)⟩) (preV_W hK (hP.sub [0, 1, 2] rfl) 0 3 rfl rfl) rfl rfl hl.1 rfl (lv_room (Nat.le_of_ble_eq_true rfl)) dX3_viewNear_34 ⟨(Nat.le_of_ble_eq_true rfl), (Nat.le_of_ble_eq_true rfl)⟩) ?_
        refine go_R (va_runV (As := [.int w, .int x, .int (nI (mF k c gl lo li gh hi hn)), .int (nI (mE k c gl lo li gh hi hn))]) (rest := []) ⟨hx, hb, hml, hown, hts⟩ (c_X3_near l D cy aM aA aB k v c (by omega) gl gh li hn fl lo hi w x (mF k c gl lo li gh hi hn) (mE k c gl lo li gh hi hn) (by omega) (by omega)) (cwV 4 hts gX3_viewNear_X3_near rfl rfl rfl (by decide +kernel) ⟨(Nat.le_of_ble_eq_true rfl), (Nat.le_of_ble_eq_true rfl)⟩) (preV_W hK (hP.sub [0, 1, 2] rfl) 0 3 rfl rfl) rfl rfl hl.1 rfl (lv_room (Nat.le_of_ble_eq_true rfl)) dX3_viewNear_37 ⟨(Nat.le_of_ble_eq_true rfl), (Nat.le_of_ble_eq_true rfl)⟩) ?_
        exact ret_l hx hb hr hlocks dX3_viewNear_40 (by first | (rw [if_neg (show ¬ fl = true by rw [h18]; decide)]; exact hz.symm) | (rw [if_pos h18]; exact hz.symm) | exact hz.symm)
      · rw [if_pos h18] at hz
        refine lv_iload_n hx hb dX3_viewNear_21 rfl (lv_at hl 1 rfl) ?_
        refine lv_iconst (v := 1) hx hb dX3_viewNear_22 (by decide) ?_
        refine lv_ixor hx hb dX3_viewNear_23 ?_
        refine lv_goto (tgt := 28) hx hb dX3_viewNear_24 (by decide) ?_
        refine lv_iload_n hx hb dX3_viewNear_28 rfl (lv_at hl 2 rfl) ?_
        refine lv_aload_n hx hb dX3_viewNear_29 rfl (lv_at hl 0 rfl) ?_
        refine go_R (va_runV (As := []) (rest := [.int x, .int (w ^^^ 1), .ref aM]) ⟨hx, hb, hml, hown, hts⟩ (c_X3_first l D cy aM aA aB k v c (by omega) gl gh li hn fl lo hi) (cwV 0 hts gX3_viewNear_X3_first rfl rfl rfl (by decide +kernel) ⟨(Nat.le_of_ble_eq_true rfl), (Nat.le_of_ble_eq_true rfl)⟩) (preV_W hK (hP.sub [0, 1, 2] rfl) 0 3 rfl rfl) rfl rfl hl.1 rfl (lv_room (Nat.le_of_ble_eq_true rfl)) dX3_viewNear_30 ⟨(Nat.le_of_ble_eq_true rfl), (Nat.le_of_ble_eq_true rfl)⟩) ?_
        refine lv_aload_n hx hb dX3_viewNear_33 rfl (lv_at hl 0 rfl) ?_
        refine go_R (va_runV (As := []) (rest := [.int (nI (mF k c gl lo li gh hi hn)), .int x, .int (w ^^^ 1), .ref aM]) ⟨hx, hb, hml, hown, hts⟩ (c_X3_behind l D cy aM aA aB k v c (by omega) gl gh li hn fl lo hi) (cwV 0 hts gX3_viewNear_X3_behind rfl rfl rfl (by decide +kernel) ⟨(Nat.le_of_ble_eq_true rfl), (Nat.le_of_ble_eq_true rfl)⟩) (preV_W hK (hP.sub [0, 1, 2] rfl) 0 3 rfl rfl) rfl rfl hl.1 rfl (lv_room (Nat.le_of_ble_eq_true rfl)) dX3_viewNear_34 ⟨(Nat.le_of_ble_eq_true rfl), (Nat.le_of_ble_eq_true rfl)⟩) ?_
        refine go_R (va_runV (As := [.int (w ^^^ 1), .int x, .int (nI (mF k c gl lo li gh hi hn)), .int (nI (mE k c gl lo li gh hi hn))]) (rest := []) ⟨hx, hb, hml, hown, hts⟩ (c_X3_near l D cy aM aA aB k v c (by omega) gl gh li hn fl lo hi (w ^^^ 1) x (mF k c gl lo li gh hi hn) (mE k c gl lo li gh hi hn) (by omega) (by omega)) (cwV 4 hts gX3_viewNear_X3_near rfl rfl rfl (by decide +kernel) ⟨(Nat.le_of_ble_eq_true rfl), (Nat.le_of_ble_eq_true rfl)⟩) (preV_W hK (hP.sub [0, 1, 2] rfl) 0 3 rfl rfl) rfl rfl hl.1 rfl (lv_room (Nat.le_of_ble_eq_true rfl)) dX3_viewNear_37 ⟨(Nat.le_of_ble_eq_true rfl), (Nat.le_of_ble_eq_true rfl)⟩) ?_
        exact ret_l hx hb hr hlocks dX3_viewNear_40 (by first | (rw [if_neg (show ¬ fl = true by rw [h18]; decide)]; exact hz.symm) | (rw [if_pos h18]; exact hz.symm) | exact hz.symm)
    · have hz : (if w < 0 ∨ 5 < w then NO else kNM k (if fl = true then xw w else w) x (mF k c gl lo li gh hi hn) (mE k c gl lo li gh hi hn)) = NO := if_pos (Or.inr (Int32.not_le.mp h6))
      refine lv_ldc2 hx hb hown kc_38 dX3_viewNear_9 ?_
      exact ret_l hx hb hr hlocks dX3_viewNear_12 (by first | (rw [if_neg (show ¬ fl = true by rw [h18]; decide)]; exact hz.symm) | (rw [if_pos h18]; exact hz.symm) | exact hz.symm)

set_option maxHeartbeats 4000000 in
set_option maxRecDepth 100000 in
/-- viewKey(k) -/
theorem c_X3_viewKey (l : Launch) (D : va_G) (cy : ClassId) (aM aA aB : Nat) (k v : Nat → Int32) (c : Nat) (hc : c ≤ 64) (gl gh li hn fl : Bool) (lo hi : Int32) (x : Int32) : Met l yX3_viewKey wsX3_viewKey ({ frames := 3, cells := 0, slots := 0, locals := 63 } : Room) (pcW D [(cy, .int)] [.ref aM, .int x] [(aM, .inr (3, [.ref aA, .ref aB, .int (nI c), .int (bI gl), .int (bI gh), .int (bI li), .int (bI hn), .int (bI fl), .int lo, .int hi])), (aA, .inl (cy, 64, .inl k)), (aB, .inl (cy, 64, .inl v))]) (qR (.long (vKy k (mF k c gl lo li gh hi hn) (mE k c gl lo li gh hi hn) fl x.toInt))) 0 0 (fun _ => False) := by
  refine met_W (cc := cX3_viewKey) (maxL := 4) (ret := (some .long)) (by decide +kernel) rfl (Nat.le_of_ble_eq_true rfl) ?_
  intro pM eM s mM below meth cM ls hx hb hr hts hown hlocks hml hnm hK hP hl
  have hown : s.vm.findClass RX3 = some mM.cls := hown
  have hl : lv_has ls 4 [(0, .ref aM), (1, .int x)] := hl
  have hin_X3 : ∀ w ∈ wsX30, w ∈ wsX3_viewKey := by decide +kernel
  have kf_59 := hts (.fieldLink RX3 59 "OrderedDeskModel" "falls" "Z") (by decide +kernel)
  have kf_9 := hts (.fieldLink RX3 9 "OrderedDeskModel" "key" "[I") (by decide +kernel)
  have kc_38 := hts (.constantLong RX3 38 (1099511627776)) (by decide +kernel)
  have hP : va_P D vwCl [(aM, .inr (3, [.ref aA, .ref aB, .int (nI c), .int (bI gl), .int (bI gh), .int (bI li), .int (bI hn), .int (bI fl), .int lo, .int hi])), (aA, .inl (cy, 64, .inl k)), (aB, .inl (cy, 64, .inl v))] s.heap := hP
  have q1 := mF_le k c gl lo li gh hi hn
  have q2 := mE_le k c gl lo li gh hi hn
  have q3 := mFE k c gl lo li gh hi hn
  refine lv_aload_n hx hb dX3_viewKey_0 rfl (lv_at hl 0 rfl) ?_
  refine go_R (va_runV (As := []) (rest := []) ⟨hx, hb, hml, hown, hts⟩ (c_X3_first l D cy aM aA aB k v c (by omega) gl gh li hn fl lo hi) (cwV 0 hts gX3_viewKey_X3_first rfl rfl rfl (by decide +kernel) ⟨(Nat.le_of_ble_eq_true rfl), (Nat.le_of_ble_eq_true rfl)⟩) (preV_W hK (hP.sub [0, 1, 2] rfl) 0 3 rfl rfl) rfl rfl hl.1 rfl (lv_room (Nat.le_of_ble_eq_true rfl)) dX3_viewKey_1 ⟨(Nat.le_of_ble_eq_true rfl), (Nat.le_of_ble_eq_true rfl)⟩) ?_
  refine lv_istore_n (lv' := [(2, .int (nI (mF k c gl lo li gh hi hn))), (0, .ref aM), (1, .int x)]) hx hb dX3_viewKey_4 rfl hl (by decide) rfl (fun ls hl => ?_)
  refine lv_aload_n hx hb dX3_viewKey_5 rfl (lv_at hl 1 rfl) ?_
  refine go_R (va_runV (As := []) (rest := []) ⟨hx, hb, hml, hown, hts⟩ (c_X3_behind l D cy aM aA aB k v c (by omega) gl gh li hn fl lo hi) (cwV 0 hts gX3_viewKey_X3_behind rfl rfl rfl (by decide +kernel) ⟨(Nat.le_of_ble_eq_true rfl), (Nat.le_of_ble_eq_true rfl)⟩) (preV_W hK (hP.sub [0, 1, 2] rfl) 0 3 rfl rfl) rfl rfl hl.1 rfl (lv_room (Nat.le_of_ble_eq_true rfl)) dX3_viewKey_6 ⟨(Nat.le_of_ble_eq_true rfl), (Nat.le_of_ble_eq_true rfl)⟩) ?_
  refine lv_istore_n (lv' := [(3, .int (nI (mE k c gl lo li gh hi hn))), (2, .int (nI (mF k c gl lo li gh hi hn))), (0, .ref aM), (1, .int x)]) hx hb dX3_viewKey_9 rfl hl (by decide) rfl (fun ls hl => ?_)
  refine lv_iload_n hx hb dX3_viewKey_10 rfl (lv_at hl 3 rfl) ?_
  refine lv_if_lt (tgt := 21) hx hb dX3_viewKey_11 (by decide) (fun h11 => ?_) (fun h11 => ?_)
  · have hz : vKy k (mF k c gl lo li gh hi hn) (mE k c gl lo li gh hi hn) fl x.toInt = NO := by rw [Int32.lt_iff_toInt_lt, Int32.toInt_zero] at h11; unfold vKy; rw [if_neg (by omega)]
    refine lv_ldc2 hx hb hown kc_38 dX3_viewKey_21 ?_
    exact ret_l hx hb hr hlocks dX3_viewKey_24 (by rw [hz])
  · refine lv_iload_n hx hb dX3_viewKey_14 rfl (lv_at hl 3 rfl) ?_
    refine lv_iload_n hx hb dX3_viewKey_15 rfl (lv_at hl 0 rfl) ?_
    refine lv_iload_n hx hb dX3_viewKey_16 rfl (lv_at hl 1 rfl) ?_
    refine lv_isub hx hb dX3_viewKey_17 ?_
    refine top_i (y := nI ((mE k c gl lo li gh hi hn) - (mF k c gl lo li gh hi hn))) (pk_sub (by omega)) ?_
    refine lv_icmp_lt (tgt := 25) hx hb dX3_viewKey_18 (by decide) (fun h18 => ?_) (fun h18 => ?_)
    · obtain ⟨j, hj, rfl⟩ : ∃ j : Nat, j < (mE k c gl lo li gh hi hn) - (mF k c gl lo li gh hi hn) ∧ x = nI j := by obtain ⟨j, h1, h2, -⟩ := pk_mu h11 (Int32.not_le.mpr h18) (by omega); exact ⟨j, h1, h2⟩
      have hz : vKy k (mF k c gl lo li gh hi hn) (mE k c gl lo li gh hi hn) fl (nI j).toInt = (k (if fl = true then (mE k c gl lo li gh hi hn) - 1 - j else (mF k c gl lo li gh hi hn) + j)).toInt64 := by rw [nI_toInt (by omega)]; unfold vKy; rw [if_pos (by omega), Int.toNat_natCast]
      refine lv_aload_n hx hb dX3_viewKey_25 rfl (lv_at hl 2 rfl) ?_
      refine va_get (ci := 3) (v := .ref aA) (C := RX3) (T := TX3) (N := 10) hx hb hts hin_X3 hown hK hP 0 rfl rfl 0 (by decide) kf_9 (fun _ h9 => h9) rfl dX3_viewKey_26 ?_
      refine lv_aload_n hx hb dX3_viewKey_29 rfl (lv_at hl 2 rfl) ?_
      refine va_get (ci := 3) (v := .int (bI fl)) (C := RX3) (T := TX3) (N := 10) hx hb hts hin_X3 hown hK hP 0 rfl rfl 7 (by decide) kf_59 (fun _ h9 => h9) rfl dX3_viewKey_30 ?_
      refine b_eq (tgt := 44) hx hb dX3_viewKey_33 (by decide) (fun h33 => ?_) (fun h33 => ?_)
      · rw [if_neg (by rw [h33]; decide)] at hz
        refine lv_iload_n hx hb dX3_viewKey_44 rfl (lv_at hl 1 rfl) ?_
        refine lv_iload_n hx hb dX3_viewKey_45 rfl (lv_at hl 3 rfl) ?_
        refine lv_iadd hx hb dX3_viewKey_46 ?_
        refine top_i (y := nI ((mF k c gl lo li gh hi hn) + j)) (nI_add _ _) ?_
        refine a_ld hx hb hK hP 1 0 rfl rfl (by omega) (by decide) dX3_viewKey_47 ?_
        refine lv_i2l hx hb dX3_viewKey_48 rfl ?_
        exact ret_l hx hb hr hlocks dX3_viewKey_49 (by rw [hz])
      · rw [if_pos h33] at hz
        refine lv_iload_n hx hb dX3_viewKey_36 rfl (lv_at hl 0 rfl) ?_
        refine lv_iconst (v := nI 1) hx hb dX3_viewKey_37 (by decide) ?_
        refine lv_isub hx hb dX3_viewKey_38 ?_
        refine top_i (y := nI ((mE k c gl lo li gh hi hn) - 1)) (pk_sub (by omega)) ?_
        refine lv_iload_n hx hb dX3_viewKey_39 rfl (lv_at hl 3 rfl) ?_
        refine lv_isub hx hb dX3_viewKey_40 ?_
        refine top_i (y := nI (((mE k c gl lo li gh hi hn) - 1) - j)) (pk_sub (by omega)) ?_
        refine lv_goto (tgt := 47) hx hb dX3_viewKey_41 (by decide) ?_
        refine a_ld hx hb hK hP 1 0 rfl rfl (by omega) (by decide) dX3_viewKey_47 ?_
        refine lv_i2l hx hb dX3_viewKey_48 rfl ?_
        exact ret_l hx hb hr hlocks dX3_viewKey_49 (by rw [hz])
    · have hz : vKy k (mF k c gl lo li gh hi hn) (mE k c gl lo li gh hi hn) fl x.toInt = NO := by rw [Int32.lt_iff_toInt_lt, nI_toInt (by omega)] at h18; unfold vKy; rw [if_neg (by omega)]
      refine lv_ldc2 hx hb hown kc_38 dX3_viewKey_21 ?_
      exact ret_l hx hb hr hlocks dX3_viewKey_24 (by rw [hz])

set_option maxHeartbeats 4000000 in
set_option maxRecDepth 100000 in
/-- walk() -/
theorem c_X3_walk (l : Launch) (D : va_G) (cy : ClassId) (aM aA aB : Nat) (k v : Nat → Int32) (c : Nat) (hc : c ≤ 64) (gl gh li hn fl : Bool) (lo hi : Int32) : Met l yX3_walk wsX3_walk ({ frames := 3, cells := 0, slots := 0, locals := 63 } : Room) (pcW D [(cy, .int)] [.ref aM] [(aM, .inr (3, [.ref aA, .ref aB, .int (nI c), .int (bI gl), .int (bI gh), .int (bI li), .int (bI hn), .int (bI fl), .int lo, .int hi])), (aA, .inl (cy, 64, .inl k)), (aB, .inl (cy, 64, .inl v))]) (qR (.long (wsm k (wpl (mF k c gl lo li gh hi hn) (mE k c gl lo li gh hi hn) fl) ((mE k c gl lo li gh hi hn) - (mF k c gl lo li gh hi hn)) (mF k c gl lo li gh hi hn) 0))) 0 0 (fun _ => False) := by
  refine met_W (cc := cX3_walk) (maxL := 6) (ret := (some .long)) (by decide +kernel) rfl (Nat.le_of_ble_eq_true rfl) ?_
  intro pM eM s mM below meth cM ls hx hb hr hts hown hlocks hml hnm hK hP hl
  have hown : s.vm.findClass RX3 = some mM.cls := hown
  have hl : lv_has ls 6 [(0, .ref aM)] := hl
  have hin_X3 : ∀ w ∈ wsX30, w ∈ wsX3_walk := by decide +kernel
  have kf_59 := hts (.fieldLink RX3 59 "OrderedDeskModel" "falls" "Z") (by decide +kernel)
  have kf_9 := hts (.fieldLink RX3 9 "OrderedDeskModel" "key" "[I") (by decide +kernel)
  have hP : va_P D vwCl [(aM, .inr (3, [.ref aA, .ref aB, .int (nI c), .int (bI gl), .int (bI gh), .int (bI li), .int (bI hn), .int (bI fl), .int lo, .int hi])), (aA, .inl (cy, 64, .inl k)), (aB, .inl (cy, 64, .inl v))] s.heap := hP
  have q1 := mF_le k c gl lo li gh hi hn
  have q2 := mE_le k c gl lo li gh hi hn
  have q3 := mFE k c gl lo li gh hi hn
  refine lv_aload_n hx hb dX3_walk_0 rfl (lv_at hl 0 rfl) ?_
  refine go_R (va_runV (As := []) (rest := []) ⟨hx, hb, hml, hown, hts⟩ (c_X3_first l D cy aM aA aB k v c (by omega) gl gh li hn fl lo hi) (cwV 0 hts gX3_walk_X3_first rfl rfl rfl (by decide +kernel) ⟨(Nat.le_of_ble_eq_true rfl), (Nat.le_of_ble_eq_true rfl)⟩) (preV_W hK (hP.sub [0, 1, 2] rfl) 0 3 rfl rfl) rfl rfl hl.1 rfl (lv_room (Nat.le_of_ble_eq_true rfl)) dX3_walk_1 ⟨(Nat.le_of_ble_eq_true rfl), (Nat.le_of_ble_eq_true rfl)⟩) ?_
  refine lv_istore_n (lv' := [(1, .int (nI (mF k c gl lo li gh hi hn))), (0, .ref aM)]) hx hb dX3_walk_4 rfl hl (by decide) rfl (fun ls hl => ?_)
  refine lv_aload_n hx hb dX3_walk_5 rfl (lv_at hl 1 rfl) ?_
  refine go_R (va_runV (As := []) (rest := []) ⟨hx, hb, hml, hown, hts⟩ (c_X3_behind l D cy aM aA aB k v c (by omega) gl gh li hn fl lo hi) (cwV 0 hts gX3_walk_X3_behind rfl rfl rfl (by decide +kernel) ⟨(Nat.le_of_ble_eq_true rfl), (Nat.le_of_ble_eq_true rfl)⟩) (preV_W hK (hP.sub [0, 1, 2] rfl) 0 3 rfl rfl) rfl rfl hl.1 rfl (lv_room (Nat.le_of_ble_eq_true rfl)) dX3_walk_6 ⟨(Nat.le_of_ble_eq_true rfl), (Nat.le_of_ble_eq_true rfl)⟩) ?_
  refine lv_istore_n (lv' := [(2, .int (nI (mE k c gl lo li gh hi hn))), (1, .int (nI (mF k c gl lo li gh hi hn))), (0, .ref aM)]) hx hb dX3_walk_9 rfl hl (by decide) rfl (fun ls hl => ?_)
  refine lv_lconst (v := 0) hx hb dX3_walk_10 (by decide) ?_
  refine lv_lstore_n (lv' := [(3, .long 0), (2, .int (nI (mE k c gl lo li gh hi hn))), (1, .int (nI (mF k c gl lo li gh hi hn))), (0, .ref aM)]) hx hb dX3_walk_11 rfl hl (by decide) rfl (fun ls hl => ?_)
  refine lv_iload_n hx hb dX3_walk_12 rfl (lv_at hl 2 rfl) ?_
  refine lv_istore (lv' := [(5, .int (nI (mF k c gl lo li gh hi hn))), (3, .long 0), (2, .int (nI (mE k c gl lo li gh hi hn))), (1, .int (nI (mF k c gl lo li gh hi hn))), (0, .ref aM)]) hx hb dX3_walk_13 hl (by decide) rfl (fun ls hl => ?_)
  refine W_loopR (I := fun (i : Nat) (ls : Array Slot) => ∃ (a : Int64), lv_has ls 6 [(0, .ref aM), (1, .int (nI (mF k c gl lo li gh hi hn))), (2, .int (nI (mE k c gl lo li gh hi hn))), (3, .long a), (5, .int (nI i))] ∧ (mF k c gl lo li gh hi hn) ≤ i ∧ i ≤ (mE k c gl lo li gh hi hn) ∧ wsm k (wpl (mF k c gl lo li gh hi hn) (mE k c gl lo li gh hi hn) fl) ((mE k c gl lo li gh hi hn) - (mF k c gl lo li gh hi hn)) (mF k c gl lo li gh hi hn) 0 = wsm k (wpl (mF k c gl lo li gh hi hn) (mE k c gl lo li gh hi hn) fl) ((mE k c gl lo li gh hi hn) - i) i a) (μ := fun i => (mE k c gl lo li gh hi hn) - i) (fun i ls h ih => ?_) (mF k c gl lo li gh hi hn) ⟨0, lv_sub hl [4, 3, 2, 1, 0] rfl, Nat.le_refl _, q3, rfl⟩
  obtain ⟨a, hl, hi1, hi2, hv⟩ := h
  refine lv_iload hx hb dX3_walk_15 (lv_at hl 4 rfl) ?_
  refine lv_iload_n hx hb dX3_walk_17 rfl (lv_at hl 2 rfl) ?_
  refine n_ge (tgt := 60) (by omega) (by omega) hx hb dX3_walk_18 (by decide) (fun h18 => ?_) (fun h18 => ?_)
  · have hz : wsm k (wpl (mF k c gl lo li gh hi hn) (mE k c gl lo li gh hi hn) fl) ((mE k c gl lo li gh hi hn) - (mF k c gl lo li gh hi hn)) (mF k c gl lo li gh hi hn) 0 = a := by rw [hv, show (mE k c gl lo li gh hi hn) - i = 0 by omega]; rfl
    refine lv_lload_n hx hb dX3_walk_60 rfl (lv_at hl 3 rfl) ?_
    exact ret_l hx hb hr hlocks dX3_walk_61 (hz.symm)
  · refine lv_lload_n hx hb dX3_walk_21 rfl (lv_at hl 3 rfl) ?_
    refine lv_aload_n hx hb dX3_walk_22 rfl (lv_at hl 0 rfl) ?_
    refine va_get (ci := 3) (v := .ref aA) (C := RX3) (T := TX3) (N := 10) hx hb hts hin_X3 hown hK hP 0 rfl rfl 0 (by decide) kf_9 (fun _ h9 => h9) rfl dX3_walk_23 ?_
    refine lv_iload hx hb dX3_walk_26 (lv_at hl 4 rfl) ?_
    refine a_ld hx hb hK hP 1 0 rfl rfl (by omega) (by decide) dX3_walk_28 ?_
    refine lv_i2l hx hb dX3_walk_29 rfl ?_
    refine lv_aload_n hx hb dX3_walk_30 rfl (lv_at hl 0 rfl) ?_
    refine va_get (ci := 3) (v := .int (bI fl)) (C := RX3) (T := TX3) (N := 10) hx hb hts hin_X3 hown hK hP 0 rfl rfl 7 (by decide) kf_59 (fun _ h9 => h9) rfl dX3_walk_31 ?_
    refine b_eq (tgt := 44) hx hb dX3_walk_34 (by decide) (fun h34 => ?_) (fun h34 => ?_)
    · have hpl : wpl (mF k c gl lo li gh hi hn) (mE k c gl lo li gh hi hn) fl i = (nI (i - (mF k c gl lo li gh hi hn) + 1)).toInt64 := if_neg (by rw [h34]; decide)
      refine lv_iload hx hb dX3_walk_44 (lv_at hl 4 rfl) ?_
      refine lv_iload_n hx hb dX3_walk_46 rfl (lv_at hl 1 rfl) ?_
      refine lv_isub hx hb dX3_walk_47 ?_
      refine top_i (y := nI (i - (mF k c gl lo li gh hi hn))) (pk_sub (by omega)) ?_
      refine lv_iconst (v := nI 1) hx hb dX3_walk_48 (by decide) ?_
      refine lv_iadd hx hb dX3_walk_49 ?_
      refine top_i (y := nI ((i - (mF k c gl lo li gh hi hn)) + 1)) (nI_add _ _) ?_
      refine lv_i2l hx hb dX3_walk_50 rfl ?_
      refine lv_lmul hx hb dX3_walk_51 ?_
      refine lv_ladd hx hb dX3_walk_52 ?_
      refine lv_lstore_n (lv' := [(3, .long (a + (((k i).toInt64) * ((nI ((i - (mF k c gl lo li gh hi hn)) + 1)).toInt64)))), (0, .ref aM), (1, .int (nI (mF k c gl lo li gh hi hn))), (2, .int (nI (mE k c gl lo li gh hi hn))), (5, .int (nI i))]) hx hb dX3_walk_53 rfl hl (by decide) rfl (fun ls hl => ?_)
      refine lv_iinc (v := nI (i + 1)) (lv' := [(5, .int (nI (i + 1))), (3, .long (a + (((k i).toInt64) * ((nI ((i - (mF k c gl lo li gh hi hn)) + 1)).toInt64)))), (0, .ref aM), (1, .int (nI (mF k c gl lo li gh hi hn))), (2, .int (nI (mE k c gl lo li gh hi hn)))]) hx hb dX3_walk_54 hl (k := 4) rfl (by first | exact nI_1 _ | exact nI_add _ _) (by decide) rfl (fun ls hl => ?_)
      refine lv_goto (tgt := 15) hx hb dX3_walk_57 (by decide) ?_
      exact ih (i + 1) _ (by omega) ⟨_, lv_sub hl [2, 3, 4, 1, 0] rfl, by omega, by omega, by rw [hv, wsm_s h18, hpl]⟩
    · have hpl : wpl (mF k c gl lo li gh hi hn) (mE k c gl lo li gh hi hn) fl i = (nI ((mE k c gl lo li gh hi hn) - i)).toInt64 := if_pos h34
      refine lv_iload_n hx hb dX3_walk_37 rfl (lv_at hl 2 rfl) ?_
      refine lv_iload hx hb dX3_walk_38 (lv_at hl 4 rfl) ?_
      refine lv_isub hx hb dX3_walk_40 ?_
      refine top_i (y := nI ((mE k c gl lo li gh hi hn) - i)) (pk_sub (by omega)) ?_
      refine lv_goto (tgt := 50) hx hb dX3_walk_41 (by decide) ?_
      refine lv_i2l hx hb dX3_walk_50 rfl ?_
      refine lv_lmul hx hb dX3_walk_51 ?_
      refine lv_ladd hx hb dX3_walk_52 ?_
      refine lv_lstore_n (lv' := [(3, .long (a + (((k i).toInt64) * ((nI ((mE k c gl lo li gh hi hn) - i)).toInt64)))), (0, .ref aM), (1, .int (nI (mF k c gl lo li gh hi hn))), (2, .int (nI (mE k c gl lo li gh hi hn))), (5, .int (nI i))]) hx hb dX3_walk_53 rfl hl (by decide) rfl (fun ls hl => ?_)
      refine lv_iinc (v := nI (i + 1)) (lv' := [(5, .int (nI (i + 1))), (3, .long (a + (((k i).toInt64) * ((nI ((mE k c gl lo li gh hi hn) - i)).toInt64)))), (0, .ref aM), (1, .int (nI (mF k c gl lo li gh hi hn))), (2, .int (nI (mE k c gl lo li gh hi hn)))]) hx hb dX3_walk_54 hl (k := 4) rfl (by first | exact nI_1 _ | exact nI_add _ _) (by decide) rfl (fun ls hl => ?_)
      refine lv_goto (tgt := 15) hx hb dX3_walk_57 (by decide) ?_
      exact ih (i + 1) _ (by omega) ⟨_, lv_sub hl [2, 3, 4, 1, 0] rfl, by omega, by omega, by rw [hv, wsm_s h18, hpl]⟩

set_option maxHeartbeats 4000000 in
set_option maxRecDepth 100000 in
/-- clear() -/
theorem c_X3_clear (l : Launch) (D : va_G) (cy : ClassId) (aM aA aB : Nat) (k v : Nat → Int32) (c : Nat) (hc : c ≤ 64) (gl gh li hn fl : Bool) (lo hi : Int32) (nd : ([aM, aA, aB] : List Nat).Nodup) (sz : Nat) : Met l yX3_clear wsX3_clear ({ frames := 0, cells := 0, slots := 0, locals := 0 } : Room) (pcZ D [(cy, .int)] [.ref aM] [(aM, .inr (3, [.ref aA, .ref aB, .int (nI c), .int (bI gl), .int (bI gh), .int (bI li), .int (bI hn), .int (bI fl), .int lo, .int hi])), (aA, .inl (cy, 64, .inl k)), (aB, .inl (cy, 64, .inl v))] sz) (qM (some (.int (nI c))) (fun H => va_P D vwCl (mW cy aM aA aB k v 0 gl gh li hn fl lo hi) H) (mA [aM, aA, aB] sz)) 0 0 (mA [aM, aA, aB] sz) := by
  refine met_Z (cc := cX3_clear) (maxL := 2) (ret := (some .int)) (by decide +kernel) rfl (Nat.le_of_ble_eq_true rfl) ?_
  intro pM eM s mM below meth cM ls hx hb hr hts hown hlocks hml hnm hsz hK hP hl
  have hown : s.vm.findClass RX3 = some mM.cls := hown
  have hl : lv_has ls 2 [(0, .ref aM)] := hl
  have hin_X3 : ∀ w ∈ wsX30, w ∈ wsX3_clear := by decide +kernel
  have kf_16 := hts (.fieldLink RX3 16 "OrderedDeskModel" "many" "I") (by decide +kernel)
  have hP : va_P D vwCl [(aM, .inr (3, [.ref aA, .ref aB, .int (nI c), .int (bI gl), .int (bI gh), .int (bI li), .int (bI hn), .int (bI fl), .int lo, .int hi])), (aA, .inl (cy, 64, .inl k)), (aB, .inl (cy, 64, .inl v))] s.heap := hP
  subst hsz
  have ndw := nd
  have hA : ∀ q : Nat, s.heap.size ≤ q → mA [aM, aA, aB] s.heap.size q := fun q h => Or.inr h
  have hAw : ∀ q ∈ ([aM, aA, aB] : List Nat), mA [aM, aA, aB] s.heap.size q := fun q h => Or.inl h
  have hS : va_S (mA [aM, aA, aB] s.heap.size) s.heap s.heap [] := va_S.rf
  have hD : va_D (mA [aM, aA, aB] s.heap.size) [(aM, .inr (3, [.ref aA, .ref aB, .int (nI c), .int (bI gl), .int (bI gh), .int (bI li), .int (bI hn), .int (bI fl), .int lo, .int hi])), (aA, .inl (cy, 64, .inl k)), (aB, .inl (cy, 64, .inl v))] := D_of ndw hAw
  simp only [List.nodup_cons, List.mem_cons, List.not_mem_nil, or_false, not_or, not_false_eq_true, List.nodup_nil, and_true] at nd
  refine lv_aload_n hx hb dX3_clear_0 rfl (lv_at hl 0 rfl) ?_
  refine va_get (ci := 3) (v := .int (nI c)) (C := RX3) (T := TX3) (N := 10) hx hb hts hin_X3 hown hK hP 0 rfl rfl 2 (by decide) kf_16 (fun _ h9 => h9) rfl dX3_clear_1 ?_
  refine lv_istore_n (lv' := [(1, .int (nI c)), (0, .ref aM)]) hx hb dX3_clear_4 rfl hl (by decide) rfl (fun ls hl => ?_)
  refine lv_aload_n hx hb dX3_clear_5 rfl (lv_at hl 1 rfl) ?_
  refine lv_iconst (v := nI 0) hx hb dX3_clear_6 (by decide) ?_
  refine va_put (ci := 3) (v := .int (nI 0)) (ty := .int) (C := RX3) (T := TX3) (N := 10) hx hb hts hin_X3 tyX3 tyX3_ok nmX3 hown hK hP hD hS 0 rfl rfl 2 (by decide) kf_16 (fun _ h9 => h9) rfl (by decide +kernel) rfl rfl (Nat.le_of_ble_eq_true rfl) dX3_clear_7 (fun H locs hP hD hS => ?_)
  have hP : va_P D vwCl [(aM, .inr (3, [.ref aA, .ref aB, .int (nI 0), .int (bI gl), .int (bI gh), .int (bI li), .int (bI hn), .int (bI fl), .int lo, .int hi])), (aA, .inl (cy, 64, .inl k)), (aB, .inl (cy, 64, .inl v))] H := hP
  have hD : va_D _ [(aM, .inr (3, [.ref aA, .ref aB, .int (nI 0), .int (bI gl), .int (bI gh), .int (bI li), .int (bI hn), .int (bI fl), .int lo, .int hi])), (aA, .inl (cy, 64, .inl k)), (aB, .inl (cy, 64, .inl v))] := hD
  refine lv_iload_n hx hb dX3_clear_10 rfl (lv_at hl 0 rfl) ?_
  exact ret_iM hx hb hr hlocks dX3_clear_11 hS (rfl) (hP)

set_option maxHeartbeats 4000000 in
set_option maxRecDepth 100000 in
/-- all() -/
theorem c_X3_all (l : Launch) (D : va_G) (cy : ClassId) (aM aA aB : Nat) (k v : Nat → Int32) (c : Nat) (hc : c ≤ 64) (gl gh li hn fl : Bool) (lo hi : Int32) (nd : ([aM, aA, aB] : List Nat).Nodup) (sz : Nat) : Met l yX3_all wsX3_all ({ frames := 0, cells := 0, slots := 0, locals := 0 } : Room) (pcZ D [(cy, .int)] [.ref aM] [(aM, .inr (3, [.ref aA, .ref aB, .int (nI c), .int (bI gl), .int (bI gh), .int (bI li), .int (bI hn), .int (bI fl), .int lo, .int hi])), (aA, .inl (cy, 64, .inl k)), (aB, .inl (cy, 64, .inl v))] sz) (qM none (fun H => va_P D vwCl (mW cy aM aA aB k v c false false li hn false lo hi) H) (mA [aM, aA, aB] sz)) 0 0 (mA [aM, aA, aB] sz) := by
  refine met_Z (cc := cX3_all) (maxL := 1) (ret := none) (by decide +kernel) rfl (Nat.le_of_ble_eq_true rfl) ?_
  intro pM eM s mM below meth cM ls hx hb hr hts hown hlocks hml hnm hsz hK hP hl
  have hown : s.vm.findClass RX3 = some mM.cls := hown
  have hl : lv_has ls 1 [(0, .ref aM)] := hl
  have hin_X3 : ∀ w ∈ wsX30, w ∈ wsX3_all := by decide +kernel
  have kf_52 := hts (.fieldLink RX3 52 "OrderedDeskModel" "hasLow" "Z") (by decide +kernel)
  have kf_56 := hts (.fieldLink RX3 56 "OrderedDeskModel" "hasHigh" "Z") (by decide +kernel)
  have kf_59 := hts (.fieldLink RX3 59 "OrderedDeskModel" "falls" "Z") (by decide +kernel)
  have hP : va_P D vwCl [(aM, .inr (3, [.ref aA, .ref aB, .int (nI c), .int (bI gl), .int (bI gh), .int (bI li), .int (bI hn), .int (bI fl), .int lo, .int hi])), (aA, .inl (cy, 64, .inl k)), (aB, .inl (cy, 64, .inl v))] s.heap := hP
  subst hsz
  have ndw := nd
  have hA : ∀ q : Nat, s.heap.size ≤ q → mA [aM, aA, aB] s.heap.size q := fun q h => Or.inr h
  have hAw : ∀ q ∈ ([aM, aA, aB] : List Nat), mA [aM, aA, aB] s.heap.size q := fun q h => Or.inl h
  have hS : va_S (mA [aM, aA, aB] s.heap.size) s.heap s.heap [] := va_S.rf
  have hD : va_D (mA [aM, aA, aB] s.heap.size) [(aM, .inr (3, [.ref aA, .ref aB, .int (nI c), .int (bI gl), .int (bI gh), .int (bI li), .int (bI hn), .int (bI fl), .int lo, .int hi])), (aA, .inl (cy, 64, .inl k)), (aB, .inl (cy, 64, .inl v))] := D_of ndw hAw
  simp only [List.nodup_cons, List.mem_cons, List.not_mem_nil, or_false, not_or, not_false_eq_true, List.nodup_nil, and_true] at nd
  refine lv_aload_n hx hb dX3_all_0 rfl (lv_at hl 0 rfl) ?_
  refine lv_iconst (v := bI false) hx hb dX3_all_1 (by decide) ?_
  refine va_put (ci := 3) (v := .int (bI false)) (ty := .boolean) (C := RX3) (T := TX3) (N := 10) hx hb hts hin_X3 tyX3 tyX3_ok nmX3 hown hK hP hD hS 0 rfl rfl 3 (by decide) kf_52 (fun _ h9 => h9) rfl (by decide +kernel) (bI_nar _) (bI_fit _) (Nat.le_of_ble_eq_true rfl) dX3_all_2 (fun H locs hP hD hS => ?_)
  have hP : va_P D vwCl [(aM, .inr (3, [.ref aA, .ref aB, .int (nI c), .int (bI false), .int (bI gh), .int (bI li), .int (bI hn), .int (bI fl), .int lo, .int hi])), (aA, .inl (cy, 64, .inl k)), (aB, .inl (cy, 64, .inl v))] H := hP
  have hD : va_D _ [(aM, .inr (3, [.ref aA, .ref aB, .int (nI c), .int (bI false), .int (bI gh), .int (bI li), .int (bI hn), .int (bI fl), .int lo, .int hi])), (aA, .inl (cy, 64, .inl k)), (aB, .inl (cy, 64, .inl v))] := hD
  refine lv_aload_n hx hb dX3_all_5 rfl (lv_at hl 0 rfl) ?_
  refine lv_iconst (v := bI false) hx hb dX3_all_6 (by decide) ?_
  refine va_put (ci := 3) (v := .int (bI false)) (ty := .boolean) (C := RX3) (T := TX3) (N := 10) hx hb hts hin_X3 tyX3 tyX3_ok nmX3 hown hK hP hD hS 0 rfl rfl 4 (by decide) kf_56 (fun _ h9 => h9) rfl (by decide +kernel) (bI_nar _) (bI_fit _) (Nat.le_of_ble_eq_true rfl) dX3_all_7 (fun H locs hP hD hS => ?_)
  have hP : va_P D vwCl [(aM, .inr (3, [.ref aA, .ref aB, .int (nI c), .int (bI false), .int (bI false), .int (bI li), .int (bI hn), .int (bI fl), .int lo, .int hi])), (aA, .inl (cy, 64, .inl k)), (aB, .inl (cy, 64, .inl v))] H := hP
  have hD : va_D _ [(aM, .inr (3, [.ref aA, .ref aB, .int (nI c), .int (bI false), .int (bI false), .int (bI li), .int (bI hn), .int (bI fl), .int lo, .int hi])), (aA, .inl (cy, 64, .inl k)), (aB, .inl (cy, 64, .inl v))] := hD
  refine lv_aload_n hx hb dX3_all_10 rfl (lv_at hl 0 rfl) ?_
  refine lv_iconst (v := bI false) hx hb dX3_all_11 (by decide) ?_
  refine va_put (ci := 3) (v := .int (bI false)) (ty := .boolean) (C := RX3) (T := TX3) (N := 10) hx hb hts hin_X3 tyX3 tyX3_ok nmX3 hown hK hP hD hS 0 rfl rfl 7 (by decide) kf_59 (fun _ h9 => h9) rfl (by decide +kernel) (bI_nar _) (bI_fit _) (Nat.le_of_ble_eq_true rfl) dX3_all_12 (fun H locs hP hD hS => ?_)
  have hP : va_P D vwCl [(aM, .inr (3, [.ref aA, .ref aB, .int (nI c), .int (bI false), .int (bI false), .int (bI li), .int (bI hn), .int (bI false), .int lo, .int hi])), (aA, .inl (cy, 64, .inl k)), (aB, .inl (cy, 64, .inl v))] H := hP
  have hD : va_D _ [(aM, .inr (3, [.ref aA, .ref aB, .int (nI c), .int (bI false), .int (bI false), .int (bI li), .int (bI hn), .int (bI false), .int lo, .int hi])), (aA, .inl (cy, 64, .inl k)), (aB, .inl (cy, 64, .inl v))] := hD
  exact ret_vM hx hb hr hlocks dX3_all_15 hS (hP)

set_option maxHeartbeats 4000000 in
set_option maxRecDepth 100000 in
/-- begin(k, in) -/
theorem c_X3_begin (l : Launch) (D : va_G) (cy : ClassId) (aM aA aB : Nat) (k v : Nat → Int32) (c : Nat) (hc : c ≤ 64) (gl gh li hn fl : Bool) (lo hi : Int32) (nd : ([aM, aA, aB] : List Nat).Nodup) (sz : Nat) (x : Int32) (i : Bool) : Met l yX3_begin wsX3_begin ({ frames := 0, cells := 0, slots := 0, locals := 0 } : Room) (pcZ D [(cy, .int)] [.ref aM, .int x, .int (bI i)] [(aM, .inr (3, [.ref aA, .ref aB, .int (nI c), .int (bI gl), .int (bI gh), .int (bI li), .int (bI hn), .int (bI fl), .int lo, .int hi])), (aA, .inl (cy, 64, .inl k)), (aB, .inl (cy, 64, .inl v))] sz) (qM none (fun H => va_P D vwCl (mW cy aM aA aB k v c true gh i hn fl x hi) H) (mA [aM, aA, aB] sz)) 0 0 (mA [aM, aA, aB] sz) := by
  refine met_Z (cc := cX3_begin) (maxL := 3) (ret := none) (by decide +kernel) rfl (Nat.le_of_ble_eq_true rfl) ?_
  intro pM eM s mM below meth cM ls hx hb hr hts hown hlocks hml hnm hsz hK hP hl
  have hown : s.vm.findClass RX3 = some mM.cls := hown
  have hl : lv_has ls 3 [(0, .ref aM), (1, .int x), (2, .int (bI i))] := hl
  have hin_X3 : ∀ w ∈ wsX30, w ∈ wsX3_begin := by decide +kernel
  have kf_52 := hts (.fieldLink RX3 52 "OrderedDeskModel" "hasLow" "Z") (by decide +kernel)
  have kf_72 := hts (.fieldLink RX3 72 "OrderedDeskModel" "low" "I") (by decide +kernel)
  have kf_75 := hts (.fieldLink RX3 75 "OrderedDeskModel" "lowIn" "Z") (by decide +kernel)
  have hP : va_P D vwCl [(aM, .inr (3, [.ref aA, .ref aB, .int (nI c), .int (bI gl), .int (bI gh), .int (bI li), .int (bI hn), .int (bI fl), .int lo, .int hi])), (aA, .inl (cy, 64, .inl k)), (aB, .inl (cy, 64, .inl v))] s.heap := hP
  subst hsz
  have ndw := nd
  have hA : ∀ q : Nat, s.heap.size ≤ q → mA [aM, aA, aB] s.heap.size q := fun q h => Or.inr h
  have hAw : ∀ q ∈ ([aM, aA, aB] : List Nat), mA [aM, aA, aB] s.heap.size q := fun q h => Or.inl h
  have hS : va_S (mA [aM, aA, aB] s.heap.size) s.heap s.heap [] := va_S.rf
  have hD : va_D (mA [aM, aA, aB] s.heap.size) [(aM, .inr (3, [.ref aA, .ref aB, .int (nI c), .int (bI gl), .int (bI gh), .int (bI li), .int (bI hn), .int (bI fl), .int lo, .int hi])), (aA, .inl (cy, 64, .inl k)), (aB, .inl (cy, 64, .inl v))] := D_of ndw hAw
  simp only [List.nodup_cons, List.mem_cons, List.not_mem_nil, or_false, not_or, not_false_eq_true, List.nodup_nil, and_true] at nd
  refine lv_aload_n hx hb dX3_begin_0 rfl (lv_at hl 0 rfl) ?_
  refine lv_iconst (v := bI true) hx hb dX3_begin_1 (by decide) ?_
  refine va_put (ci := 3) (v := .int (bI true)) (ty := .boolean) (C := RX3) (T := TX3) (N := 10) hx hb hts hin_X3 tyX3 tyX3_ok nmX3 hown hK hP hD hS 0 rfl rfl 3 (by decide) kf_52 (fun _ h9 => h9) rfl (by decide +kernel) (bI_nar _) (bI_fit _) (Nat.le_of_ble_eq_true rfl) dX3_begin_2 (fun H locs hP hD hS => ?_)
  have hP : va_P D vwCl [(aM, .inr (3, [.ref aA, .ref aB, .int (nI c), .int (bI true), .int (bI gh), .int (bI li), .int (bI hn), .int (bI fl), .int lo, .int hi])), (aA, .inl (cy, 64, .inl k)), (aB, .inl (cy, 64, .inl v))] H := hP
  have hD : va_D _ [(aM, .inr (3, [.ref aA, .ref aB, .int (nI c), .int (bI true), .int (bI gh), .int (bI li), .int (bI hn), .int (bI fl), .int lo, .int hi])), (aA, .inl (cy, 64, .inl k)), (aB, .inl (cy, 64, .inl v))] := hD
  refine lv_aload_n hx hb dX3_begin_5 rfl (lv_at hl 0 rfl) ?_
  refine lv_iload_n hx hb dX3_begin_6 rfl (lv_at hl 1 rfl) ?_
  refine va_put (ci := 3) (v := .int x) (ty := .int) (C := RX3) (T := TX3) (N := 10) hx hb hts hin_X3 tyX3 tyX3_ok nmX3 hown hK hP hD hS 0 rfl rfl 8 (by decide) kf_72 (fun _ h9 => h9) rfl (by decide +kernel) rfl rfl (Nat.le_of_ble_eq_true rfl) dX3_begin_7 (fun H locs hP hD hS => ?_)
  have hP : va_P D vwCl [(aM, .inr (3, [.ref aA, .ref aB, .int (nI c), .int (bI true), .int (bI gh), .int (bI li), .int (bI hn), .int (bI fl), .int x, .int hi])), (aA, .inl (cy, 64, .inl k)), (aB, .inl (cy, 64, .inl v))] H := hP
  have hD : va_D _ [(aM, .inr (3, [.ref aA, .ref aB, .int (nI c), .int (bI true), .int (bI gh), .int (bI li), .int (bI hn), .int (bI fl), .int x, .int hi])), (aA, .inl (cy, 64, .inl k)), (aB, .inl (cy, 64, .inl v))] := hD
  refine lv_aload_n hx hb dX3_begin_10 rfl (lv_at hl 0 rfl) ?_
  refine lv_iload_n hx hb dX3_begin_11 rfl (lv_at hl 2 rfl) ?_
  refine va_put (ci := 3) (v := .int (bI i)) (ty := .boolean) (C := RX3) (T := TX3) (N := 10) hx hb hts hin_X3 tyX3 tyX3_ok nmX3 hown hK hP hD hS 0 rfl rfl 5 (by decide) kf_75 (fun _ h9 => h9) rfl (by decide +kernel) (bI_nar _) (bI_fit _) (Nat.le_of_ble_eq_true rfl) dX3_begin_12 (fun H locs hP hD hS => ?_)
  have hP : va_P D vwCl [(aM, .inr (3, [.ref aA, .ref aB, .int (nI c), .int (bI true), .int (bI gh), .int (bI i), .int (bI hn), .int (bI fl), .int x, .int hi])), (aA, .inl (cy, 64, .inl k)), (aB, .inl (cy, 64, .inl v))] H := hP
  have hD : va_D _ [(aM, .inr (3, [.ref aA, .ref aB, .int (nI c), .int (bI true), .int (bI gh), .int (bI i), .int (bI hn), .int (bI fl), .int x, .int hi])), (aA, .inl (cy, 64, .inl k)), (aB, .inl (cy, 64, .inl v))] := hD
  exact ret_vM hx hb hr hlocks dX3_begin_15 hS (hP)

set_option maxHeartbeats 4000000 in
set_option maxRecDepth 100000 in
/-- end(k, in) -/
theorem c_X3_end (l : Launch) (D : va_G) (cy : ClassId) (aM aA aB : Nat) (k v : Nat → Int32) (c : Nat) (hc : c ≤ 64) (gl gh li hn fl : Bool) (lo hi : Int32) (nd : ([aM, aA, aB] : List Nat).Nodup) (sz : Nat) (x : Int32) (i : Bool) : Met l yX3_end wsX3_end ({ frames := 0, cells := 0, slots := 0, locals := 0 } : Room) (pcZ D [(cy, .int)] [.ref aM, .int x, .int (bI i)] [(aM, .inr (3, [.ref aA, .ref aB, .int (nI c), .int (bI gl), .int (bI gh), .int (bI li), .int (bI hn), .int (bI fl), .int lo, .int hi])), (aA, .inl (cy, 64, .inl k)), (aB, .inl (cy, 64, .inl v))] sz) (qM none (fun H => va_P D vwCl (mW cy aM aA aB k v c gl true li i fl lo x) H) (mA [aM, aA, aB] sz)) 0 0 (mA [aM, aA, aB] sz) := by
  refine met_Z (cc := cX3_end) (maxL := 3) (ret := none) (by decide +kernel) rfl (Nat.le_of_ble_eq_true rfl) ?_
  intro pM eM s mM below meth cM ls hx hb hr hts hown hlocks hml hnm hsz hK hP hl
  have hown : s.vm.findClass RX3 = some mM.cls := hown
  have hl : lv_has ls 3 [(0, .ref aM), (1, .int x), (2, .int (bI i))] := hl
  have hin_X3 : ∀ w ∈ wsX30, w ∈ wsX3_end := by decide +kernel
  have kf_56 := hts (.fieldLink RX3 56 "OrderedDeskModel" "hasHigh" "Z") (by decide +kernel)
  have kf_78 := hts (.fieldLink RX3 78 "OrderedDeskModel" "high" "I") (by decide +kernel)
  have kf_81 := hts (.fieldLink RX3 81 "OrderedDeskModel" "highIn" "Z") (by decide +kernel)
  have hP : va_P D vwCl [(aM, .inr (3, [.ref aA, .ref aB, .int (nI c), .int (bI gl), .int (bI gh), .int (bI li), .int (bI hn), .int (bI fl), .int lo, .int hi])), (aA, .inl (cy, 64, .inl k)), (aB, .inl (cy, 64, .inl v))] s.heap := hP
  subst hsz
  have ndw := nd
  have hA : ∀ q : Nat, s.heap.size ≤ q → mA [aM, aA, aB] s.heap.size q := fun q h => Or.inr h
  have hAw : ∀ q ∈ ([aM, aA, aB] : List Nat), mA [aM, aA, aB] s.heap.size q := fun q h => Or.inl h
  have hS : va_S (mA [aM, aA, aB] s.heap.size) s.heap s.heap [] := va_S.rf
  have hD : va_D (mA [aM, aA, aB] s.heap.size) [(aM, .inr (3, [.ref aA, .ref aB, .int (nI c), .int (bI gl), .int (bI gh), .int (bI li), .int (bI hn), .int (bI fl), .int lo, .int hi])), (aA, .inl (cy, 64, .inl k)), (aB, .inl (cy, 64, .inl v))] := D_of ndw hAw
  simp only [List.nodup_cons, List.mem_cons, List.not_mem_nil, or_false, not_or, not_false_eq_true, List.nodup_nil, and_true] at nd
  refine lv_aload_n hx hb dX3_end_0 rfl (lv_at hl 0 rfl) ?_
  refine lv_iconst (v := bI true) hx hb dX3_end_1 (by decide) ?_
  refine va_put (ci := 3) (v := .int (bI true)) (ty := .boolean) (C := RX3) (T := TX3) (N := 10) hx hb hts hin_X3 tyX3 tyX3_ok nmX3 hown hK hP hD hS 0 rfl rfl 4 (by decide) kf_56 (fun _ h9 => h9) rfl (by decide +kernel) (bI_nar _) (bI_fit _) (Nat.le_of_ble_eq_true rfl) dX3_end_2 (fun H locs hP hD hS => ?_)
  have hP : va_P D vwCl [(aM, .inr (3, [.ref aA, .ref aB, .int (nI c), .int (bI gl), .int (bI true), .int (bI li), .int (bI hn), .int (bI fl), .int lo, .int hi])), (aA, .inl (cy, 64, .inl k)), (aB, .inl (cy, 64, .inl v))] H := hP
  have hD : va_D _ [(aM, .inr (3, [.ref aA, .ref aB, .int (nI c), .int (bI gl), .int (bI true), .int (bI li), .int (bI hn), .int (bI fl), .int lo, .int hi])), (aA, .inl (cy, 64, .inl k)), (aB, .inl (cy, 64, .inl v))] := hD
  refine lv_aload_n hx hb dX3_end_5 rfl (lv_at hl 0 rfl) ?_
  refine lv_iload_n hx hb dX3_end_6 rfl (lv_at hl 1 rfl) ?_
  refine va_put (ci := 3) (v := .int x) (ty := .int) (C := RX3) (T := TX3) (N := 10) hx hb hts hin_X3 tyX3 tyX3_ok nmX3 hown hK hP hD hS 0 rfl rfl 9 (by decide) kf_78 (fun _ h9 => h9) rfl (by decide +kernel) rfl rfl (Nat.le_of_ble_eq_true rfl) dX3_end_7 (fun H locs hP hD hS => ?_)
  have hP : va_P D vwCl [(aM, .inr (3, [.ref aA, .ref aB, .int (nI c), .int (bI gl), .int (bI true), .int (bI li), .int (bI hn), .int (bI fl), .int lo, .int x])), (aA, .inl (cy, 64, .inl k)), (aB, .inl (cy, 64, .inl v))] H := hP
  have hD : va_D _ [(aM, .inr (3, [.ref aA, .ref aB, .int (nI c), .int (bI gl), .int (bI true), .int (bI li), .int (bI hn), .int (bI fl), .int lo, .int x])), (aA, .inl (cy, 64, .inl k)), (aB, .inl (cy, 64, .inl v))] := hD
  refine lv_aload_n hx hb dX3_end_10 rfl (lv_at hl 0 rfl) ?_
  refine lv_iload_n hx hb dX3_end_11 rfl (lv_at hl 2 rfl) ?_
  refine va_put (ci := 3) (v := .int (bI i)) (ty := .boolean) (C := RX3) (T := TX3) (N := 10) hx hb hts hin_X3 tyX3 tyX3_ok nmX3 hown hK hP hD hS 0 rfl rfl 6 (by decide) kf_81 (fun _ h9 => h9) rfl (by decide +kernel) (bI_nar _) (bI_fit _) (Nat.le_of_ble_eq_true rfl) dX3_end_12 (fun H locs hP hD hS => ?_)
  have hP : va_P D vwCl [(aM, .inr (3, [.ref aA, .ref aB, .int (nI c), .int (bI gl), .int (bI true), .int (bI li), .int (bI i), .int (bI fl), .int lo, .int x])), (aA, .inl (cy, 64, .inl k)), (aB, .inl (cy, 64, .inl v))] H := hP
  have hD : va_D _ [(aM, .inr (3, [.ref aA, .ref aB, .int (nI c), .int (bI gl), .int (bI true), .int (bI li), .int (bI i), .int (bI fl), .int lo, .int x])), (aA, .inl (cy, 64, .inl k)), (aB, .inl (cy, 64, .inl v))] := hD
  exact ret_vM hx hb hr hlocks dX3_end_15 hS (hP)

set_option maxHeartbeats 4000000 in
set_option maxRecDepth 100000 in
/-- viewPut(k, v) -/
theorem c_X3_viewPut (l : Launch) (D : va_G) (cy : ClassId) (aM aA aB : Nat) (k v : Nat → Int32) (c : Nat) (hc : c ≤ 64) (gl gh li hn fl : Bool) (lo hi : Int32) (nd : ([aM, aA, aB] : List Nat).Nodup) (sz : Nat) (hc2 : c < 64) (x y : Int32) : Met l yX3_viewPut wsX3_viewPut ({ frames := 2, cells := 0, slots := 0, locals := 48 } : Room) (pcZ D [(cy, .int)] [.ref aM, .int x, .int y] [(aM, .inr (3, [.ref aA, .ref aB, .int (nI c), .int (bI gl), .int (bI gh), .int (bI li), .int (bI hn), .int (bI fl), .int lo, .int hi])), (aA, .inl (cy, 64, .inl k)), (aB, .inl (cy, 64, .inl v))] sz) (qM (some (.long (if iM gl lo li gh hi hn x = true then vOf k v c x else OUT))) (fun H => va_P D vwCl (mW cy aM aA aB ((vPT k v c (iM gl lo li gh hi hn x) x y).2.1) ((vPT k v c (iM gl lo li gh hi hn x) x y).2.2) ((vPT k v c (iM gl lo li gh hi hn x) x y).1) gl gh li hn fl lo hi) H) (mA [aM, aA, aB] sz)) 0 0 (mA [aM, aA, aB] sz) := by
  refine met_Z (cc := cX3_viewPut) (maxL := 3) (ret := (some .long)) (by decide +kernel) rfl (Nat.le_of_ble_eq_true rfl) ?_
  intro pM eM s mM below meth cM ls hx hb hr hts hown hlocks hml hnm hsz hK hP hl
  have hown : s.vm.findClass RX3 = some mM.cls := hown
  have hl : lv_has ls 3 [(0, .ref aM), (1, .int x), (2, .int y)] := hl
  have kc_106 := hts (.constantLong RX3 106 (1099511627777)) (by decide +kernel)
  have hP : va_P D vwCl [(aM, .inr (3, [.ref aA, .ref aB, .int (nI c), .int (bI gl), .int (bI gh), .int (bI li), .int (bI hn), .int (bI fl), .int lo, .int hi])), (aA, .inl (cy, 64, .inl k)), (aB, .inl (cy, 64, .inl v))] s.heap := hP
  subst hsz
  have ndw := nd
  have hA : ∀ q : Nat, s.heap.size ≤ q → mA [aM, aA, aB] s.heap.size q := fun q h => Or.inr h
  have hAw : ∀ q ∈ ([aM, aA, aB] : List Nat), mA [aM, aA, aB] s.heap.size q := fun q h => Or.inl h
  have hS : va_S (mA [aM, aA, aB] s.heap.size) s.heap s.heap [] := va_S.rf
  have hD : va_D (mA [aM, aA, aB] s.heap.size) [(aM, .inr (3, [.ref aA, .ref aB, .int (nI c), .int (bI gl), .int (bI gh), .int (bI li), .int (bI hn), .int (bI fl), .int lo, .int hi])), (aA, .inl (cy, 64, .inl k)), (aB, .inl (cy, 64, .inl v))] := D_of ndw hAw
  simp only [List.nodup_cons, List.mem_cons, List.not_mem_nil, or_false, not_or, not_false_eq_true, List.nodup_nil, and_true] at nd
  refine lv_aload_n hx hb dX3_viewPut_0 rfl (lv_at hl 0 rfl) ?_
  refine lv_iload_n hx hb dX3_viewPut_1 rfl (lv_at hl 1 rfl) ?_
  refine go_R (va_runV (As := [.int x]) (rest := []) ⟨hx, hb, hml, hown, hts⟩ (c_X3_isIn l D cy aM aA aB k v c (by omega) gl gh li hn fl lo hi x) (cwV 1 hts gX3_viewPut_X3_isIn rfl rfl rfl (by decide +kernel) ⟨(Nat.le_of_ble_eq_true rfl), (Nat.le_of_ble_eq_true rfl)⟩) (preV_W hK (hP.sub [0, 1, 2] rfl) 0 3 rfl rfl) rfl rfl hl.1 rfl (lv_room (Nat.le_of_ble_eq_true rfl)) dX3_viewPut_2 ⟨(Nat.le_of_ble_eq_true rfl), (Nat.le_of_ble_eq_true rfl)⟩) ?_
  refine b_eq (tgt := 17) hx hb dX3_viewPut_5 (by decide) (fun h5 => ?_) (fun h5 => ?_)
  · have hz : (if iM gl lo li gh hi hn x = true then vOf k v c x else OUT) = OUT := if_neg (by rw [h5]; decide)
    have e1 : vPT k v c (iM gl lo li gh hi hn x) x y = (c, k, v) := if_neg (by rw [h5]; decide)
    refine lv_ldc2 hx hb hown kc_106 dX3_viewPut_17 ?_
    exact ret_lM hx hb hr hlocks dX3_viewPut_20 hS (hz.symm) (by rw [e1]; exact hP)
  · have hz : (if iM gl lo li gh hi hn x = true then vOf k v c x else OUT) = vOf k v c x := if_pos h5
    have e1 : vPT k v c (iM gl lo li gh hi hn x) x y = (stC k c x, stK k c x, stV k v c x y) := if_pos h5
    refine lv_aload_n hx hb dX3_viewPut_8 rfl (lv_at hl 0 rfl) ?_
    refine lv_iload_n hx hb dX3_viewPut_9 rfl (lv_at hl 1 rfl) ?_
    refine lv_iload_n hx hb dX3_viewPut_10 rfl (lv_at hl 2 rfl) ?_
    refine go_M (va_runV (As := [.int x, .int y]) (rest := []) ⟨hx, hb, hml, hown, hts⟩ (c_X3_put l D cy aM aA aB k v c (by omega) gl gh li hn fl lo hi (by simp; omega) _ (by omega) x y) (cwV 2 hts gX3_viewPut_X3_put rfl rfl rfl (by decide +kernel) ⟨(Nat.le_of_ble_eq_true rfl), (Nat.le_of_ble_eq_true rfl)⟩) (preV_Z hK (hP.sub [0, 1, 2] rfl) 0 3 rfl rfl) rfl rfl hl.1 rfl (lv_room (Nat.le_of_ble_eq_true rfl)) dX3_viewPut_11 ⟨(Nat.le_of_ble_eq_true rfl), (Nat.le_of_ble_eq_true rfl)⟩) hS (fun q h => mA_sub [0, 1, 2] rfl hS.1 h) (fun H1 locs1 hB hzz hk hS => ?_)
    have hP : va_P D vwCl [(aM, .inr (3, [.ref aA, .ref aB, .int (nI (stC k c x)), .int (bI gl), .int (bI gh), .int (bI li), .int (bI hn), .int (bI fl), .int lo, .int hi])), (aA, .inl (cy, 64, .inl (stK k c x))), (aB, .inl (cy, 64, .inl (stV k v c x y)))] H1 := va_P.sub hB [0, 1, 2] rfl
    have hD : va_D (mA [aM, aA, aB] s.heap.size) [(aM, .inr (3, [.ref aA, .ref aB, .int (nI (stC k c x)), .int (bI gl), .int (bI gh), .int (bI li), .int (bI hn), .int (bI fl), .int lo, .int hi])), (aA, .inl (cy, 64, .inl (stK k c x))), (aB, .inl (cy, 64, .inl (stV k v c x y)))] := D_of ndw hAw
    clear hB
    generalize H1 = H at hP hS ⊢
    generalize locs1 = locs at hS ⊢
    refine lv_goto (tgt := 20) hx hb dX3_viewPut_14 (by decide) ?_
    exact ret_lM hx hb hr hlocks dX3_viewPut_20 hS (hz.symm) (by rw [e1]; exact hP)

def vMT (k v : Nat → Int32) (c : Nat) (h : Bool) (x : Int32) : Nat × (Nat → Int32) × (Nat → Int32) := if h = true then mdT k v c x else (c, k, v)

set_option maxHeartbeats 4000000 in
set_option maxRecDepth 100000 in
/-- viewRemove(k) -/
theorem c_X3_viewRemove (l : Launch) (D : va_G) (cy : ClassId) (aM aA aB : Nat) (k v : Nat → Int32) (c : Nat) (hc : c ≤ 64) (gl gh li hn fl : Bool) (lo hi : Int32) (nd : ([aM, aA, aB] : List Nat).Nodup) (sz : Nat) (x : Int32) : Met l yX3_viewRemove wsX3_viewRemove ({ frames := 2, cells := 0, slots := 0, locals := 45 } : Room) (pcZ D [(cy, .int)] [.ref aM, .int x] [(aM, .inr (3, [.ref aA, .ref aB, .int (nI c), .int (bI gl), .int (bI gh), .int (bI li), .int (bI hn), .int (bI fl), .int lo, .int hi])), (aA, .inl (cy, 64, .inl k)), (aB, .inl (cy, 64, .inl v))] sz) (qM (some (.long (if iM gl lo li gh hi hn x = true then vOf k v c x else NO))) (fun H => va_P D vwCl (mW cy aM aA aB ((vMT k v c (iM gl lo li gh hi hn x) x).2.1) ((vMT k v c (iM gl lo li gh hi hn x) x).2.2) ((vMT k v c (iM gl lo li gh hi hn x) x).1) gl gh li hn fl lo hi) H) (mA [aM, aA, aB] sz)) 0 0 (mA [aM, aA, aB] sz) := by
  refine met_Z (cc := cX3_viewRemove) (maxL := 2) (ret := (some .long)) (by decide +kernel) rfl (Nat.le_of_ble_eq_true rfl) ?_
  intro pM eM s mM below meth cM ls hx hb hr hts hown hlocks hml hnm hsz hK hP hl
  have hown : s.vm.findClass RX3 = some mM.cls := hown
  have hl : lv_has ls 2 [(0, .ref aM), (1, .int x)] := hl
  have kc_38 := hts (.constantLong RX3 38 (1099511627776)) (by decide +kernel)
  have hP : va_P D vwCl [(aM, .inr (3, [.ref aA, .ref aB, .int (nI c), .int (bI gl), .int (bI gh), .int (bI li), .int (bI hn), .int (bI fl), .int lo, .int hi])), (aA, .inl (cy, 64, .inl k)), (aB, .inl (cy, 64, .inl v))] s.heap := hP
  subst hsz
  have ndw := nd
  have hA : ∀ q : Nat, s.heap.size ≤ q → mA [aM, aA, aB] s.heap.size q := fun q h => Or.inr h
  have hAw : ∀ q ∈ ([aM, aA, aB] : List Nat), mA [aM, aA, aB] s.heap.size q := fun q h => Or.inl h
  have hS : va_S (mA [aM, aA, aB] s.heap.size) s.heap s.heap [] := va_S.rf
  have hD : va_D (mA [aM, aA, aB] s.heap.size) [(aM, .inr (3, [.ref aA, .ref aB, .int (nI c), .int (bI gl), .int (bI gh), .int (bI li), .int (bI hn), .int (bI fl), .int lo, .int hi])), (aA, .inl (cy, 64, .inl k)), (aB, .inl (cy, 64, .inl v))] := D_of ndw hAw
  simp only [List.nodup_cons, List.mem_cons, List.not_mem_nil, or_false, not_or, not_false_eq_true, List.nodup_nil, and_true] at nd
  refine lv_aload_n hx hb dX3_viewRemove_0 rfl (lv_at hl 0 rfl) ?_
  refine lv_iload_n hx hb dX3_viewRemove_1 rfl (lv_at hl 1 rfl) ?_
  refine go_R (va_runV (As := [.int x]) (rest := []) ⟨hx, hb, hml, hown, hts⟩ (c_X3_isIn l D cy aM aA aB k v c (by omega) gl gh li hn fl lo hi x) (cwV 1 hts gX3_viewRemove_X3_isIn rfl rfl rfl (by decide +kernel) ⟨(Nat.le_of_ble_eq_true rfl), (Nat.le_of_ble_eq_true rfl)⟩) (preV_W hK (hP.sub [0, 1, 2] rfl) 0 3 rfl rfl) rfl rfl hl.1 rfl (lv_room (Nat.le_of_ble_eq_true rfl)) dX3_viewRemove_2 ⟨(Nat.le_of_ble_eq_true rfl), (Nat.le_of_ble_eq_true rfl)⟩) ?_
  refine b_eq (tgt := 16) hx hb dX3_viewRemove_5 (by decide) (fun h5 => ?_) (fun h5 => ?_)
  · have hz : (if iM gl lo li gh hi hn x = true then vOf k v c x else NO) = NO := if_neg (by rw [h5]; decide)
    have e1 : vMT k v c (iM gl lo li gh hi hn x) x = (c, k, v) := if_neg (by rw [h5]; decide)
    refine lv_ldc2 hx hb hown kc_38 dX3_viewRemove_16 ?_
    exact ret_lM hx hb hr hlocks dX3_viewRemove_19 hS (hz.symm) (by rw [e1]; exact hP)
  · have hz : (if iM gl lo li gh hi hn x = true then vOf k v c x else NO) = vOf k v c x := if_pos h5
    have e1 : vMT k v c (iM gl lo li gh hi hn x) x = mdT k v c x := if_pos h5
    refine lv_aload_n hx hb dX3_viewRemove_8 rfl (lv_at hl 0 rfl) ?_
    refine lv_iload_n hx hb dX3_viewRemove_9 rfl (lv_at hl 1 rfl) ?_
    refine go_M (va_runV (As := [.int x]) (rest := []) ⟨hx, hb, hml, hown, hts⟩ (c_X3_remove l D cy aM aA aB k v c (by omega) gl gh li hn fl lo hi (by simp; omega) _ x) (cwV 1 hts gX3_viewRemove_X3_remove rfl rfl rfl (by decide +kernel) ⟨(Nat.le_of_ble_eq_true rfl), (Nat.le_of_ble_eq_true rfl)⟩) (preV_Z hK (hP.sub [0, 1, 2] rfl) 0 3 rfl rfl) rfl rfl hl.1 rfl (lv_room (Nat.le_of_ble_eq_true rfl)) dX3_viewRemove_10 ⟨(Nat.le_of_ble_eq_true rfl), (Nat.le_of_ble_eq_true rfl)⟩) hS (fun q h => mA_sub [0, 1, 2] rfl hS.1 h) (fun H1 locs1 hB hzz hk hS => ?_)
    have hP : va_P D vwCl [(aM, .inr (3, [.ref aA, .ref aB, .int (nI ((mdT k v c x).1)), .int (bI gl), .int (bI gh), .int (bI li), .int (bI hn), .int (bI fl), .int lo, .int hi])), (aA, .inl (cy, 64, .inl ((mdT k v c x).2.1))), (aB, .inl (cy, 64, .inl ((mdT k v c x).2.2)))] H1 := va_P.sub hB [0, 1, 2] rfl
    have hD : va_D (mA [aM, aA, aB] s.heap.size) [(aM, .inr (3, [.ref aA, .ref aB, .int (nI ((mdT k v c x).1)), .int (bI gl), .int (bI gh), .int (bI li), .int (bI hn), .int (bI fl), .int lo, .int hi])), (aA, .inl (cy, 64, .inl ((mdT k v c x).2.1))), (aB, .inl (cy, 64, .inl ((mdT k v c x).2.2)))] := D_of ndw hAw
    clear hB
    generalize H1 = H at hP hS ⊢
    generalize locs1 = locs at hS ⊢
    refine lv_goto (tgt := 19) hx hb dX3_viewRemove_13 (by decide) ?_
    exact ret_lM hx hb hr hlocks dX3_viewRemove_19 hS (hz.symm) (by rw [e1]; exact hP)

set_option maxHeartbeats 4000000 in
set_option maxRecDepth 100000 in
/-- poll(last) -/
theorem c_X3_poll (l : Launch) (D : va_G) (cy : ClassId) (aM aA aB : Nat) (k v : Nat → Int32) (c : Nat) (hc : c ≤ 64) (gl gh li hn fl : Bool) (lo hi : Int32) (nd : ([aM, aA, aB] : List Nat).Nodup) (sz : Nat) (g : Bool) : Met l yX3_poll wsX3_poll ({ frames := 1, cells := 0, slots := 0, locals := 22 } : Room) (pcZ D [(cy, .int)] [.ref aM, .int (bI g)] [(aM, .inr (3, [.ref aA, .ref aB, .int (nI c), .int (bI gl), .int (bI gh), .int (bI li), .int (bI hn), .int (bI fl), .int lo, .int hi])), (aA, .inl (cy, 64, .inl k)), (aB, .inl (cy, 64, .inl v))] sz) (qM (some (.long (mpA k g 0 c))) (fun H => va_P D vwCl (mW cy aM aA aB ((mpP k v c g 0 c).2.1) ((mpP k v c g 0 c).2.2) ((mpP k v c g 0 c).1) gl gh li hn fl lo hi) H) (mA [aM, aA, aB] sz)) 0 0 (mA [aM, aA, aB] sz) := by
  refine met_Z (cc := cX3_poll) (maxL := 4) (ret := (some .long)) (by decide +kernel) rfl (Nat.le_of_ble_eq_true rfl) ?_
  intro pM eM s mM below meth cM ls hx hb hr hts hown hlocks hml hnm hsz hK hP hl
  have hown : s.vm.findClass RX3 = some mM.cls := hown
  have hl : lv_has ls 4 [(0, .ref aM), (1, .int (bI g))] := hl
  have hin_X3 : ∀ w ∈ wsX30, w ∈ wsX3_poll := by decide +kernel
  have kf_16 := hts (.fieldLink RX3 16 "OrderedDeskModel" "many" "I") (by decide +kernel)
  have kf_9 := hts (.fieldLink RX3 9 "OrderedDeskModel" "key" "[I") (by decide +kernel)
  have kc_38 := hts (.constantLong RX3 38 (1099511627776)) (by decide +kernel)
  have hP : va_P D vwCl [(aM, .inr (3, [.ref aA, .ref aB, .int (nI c), .int (bI gl), .int (bI gh), .int (bI li), .int (bI hn), .int (bI fl), .int lo, .int hi])), (aA, .inl (cy, 64, .inl k)), (aB, .inl (cy, 64, .inl v))] s.heap := hP
  subst hsz
  have ndw := nd
  have hA : ∀ q : Nat, s.heap.size ≤ q → mA [aM, aA, aB] s.heap.size q := fun q h => Or.inr h
  have hAw : ∀ q ∈ ([aM, aA, aB] : List Nat), mA [aM, aA, aB] s.heap.size q := fun q h => Or.inl h
  have hS : va_S (mA [aM, aA, aB] s.heap.size) s.heap s.heap [] := va_S.rf
  have hD : va_D (mA [aM, aA, aB] s.heap.size) [(aM, .inr (3, [.ref aA, .ref aB, .int (nI c), .int (bI gl), .int (bI gh), .int (bI li), .int (bI hn), .int (bI fl), .int lo, .int hi])), (aA, .inl (cy, 64, .inl k)), (aB, .inl (cy, 64, .inl v))] := D_of ndw hAw
  simp only [List.nodup_cons, List.mem_cons, List.not_mem_nil, or_false, not_or, not_false_eq_true, List.nodup_nil, and_true] at nd
  refine lv_aload_n hx hb dX3_poll_0 rfl (lv_at hl 0 rfl) ?_
  refine va_get (ci := 3) (v := .int (nI c)) (C := RX3) (T := TX3) (N := 10) hx hb hts hin_X3 hown hK hP 0 rfl rfl 2 (by decide) kf_16 (fun _ h9 => h9) rfl dX3_poll_1 ?_
  refine lv_if_ne (tgt := 11) hx hb dX3_poll_4 (by decide) (fun h4 => ?_) (fun h4 => ?_)
  · have hc0 : ¬ 0 = c := fun q => h4 (by rw [← q]; rfl)
    have hz : mpA k g 0 c = (k (if g = true then c - 1 else 0)).toInt64 := if_neg hc0
    have e1 : mpP k v c g 0 c = (c - 1, delA k (if g = true then c - 1 else 0) c, delA v (if g = true then c - 1 else 0) c) := if_neg hc0
    refine lv_iload_n hx hb dX3_poll_11 rfl (lv_at hl 1 rfl) ?_
    refine b_eq (tgt := 24) hx hb dX3_poll_12 (by decide) (fun h12 => ?_) (fun h12 => ?_)
    · rw [if_neg (by rw [h12]; decide)] at hz e1
      refine lv_iconst (v := nI 0) hx hb dX3_poll_24 (by decide) ?_
      refine lv_istore_n (lv' := [(2, .int (nI 0)), (0, .ref aM), (1, .int (bI g))]) hx hb dX3_poll_25 rfl hl (by decide) rfl (fun ls hl => ?_)
      refine lv_aload_n hx hb dX3_poll_26 rfl (lv_at hl 1 rfl) ?_
      refine va_get (ci := 3) (v := .ref aA) (C := RX3) (T := TX3) (N := 10) hx hb hts hin_X3 hown hK hP 0 rfl rfl 0 (by decide) kf_9 (fun _ h9 => h9) rfl dX3_poll_27 ?_
      refine lv_iload_n hx hb dX3_poll_30 rfl (lv_at hl 0 rfl) ?_
      refine a_ld hx hb hK hP 1 0 rfl rfl (by omega) (by decide) dX3_poll_31 ?_
      refine lv_istore_n (lv' := [(3, .int (k 0)), (2, .int (nI 0)), (0, .ref aM), (1, .int (bI g))]) hx hb dX3_poll_32 rfl hl (by decide) rfl (fun ls hl => ?_)
      refine lv_aload_n hx hb dX3_poll_33 rfl (lv_at hl 2 rfl) ?_
      refine lv_iload_n hx hb dX3_poll_34 rfl (lv_at hl 1 rfl) ?_
      refine go_V (va_runV (As := [.int (nI 0)]) (rest := []) ⟨hx, hb, hml, hown, hts⟩ (c_X3_delete l D cy aM aA aB k v c (by omega) gl gh li hn fl lo hi (by simp; omega) _ 0 (by omega)) (cwV 1 hts gX3_poll_X3_delete rfl rfl rfl (by decide +kernel) ⟨(Nat.le_of_ble_eq_true rfl), (Nat.le_of_ble_eq_true rfl)⟩) (preV_Z hK (hP.sub [0, 1, 2] rfl) 0 3 rfl rfl) rfl rfl hl.1 rfl (lv_room (Nat.le_of_ble_eq_true rfl)) dX3_poll_35 ⟨(Nat.le_of_ble_eq_true rfl), (Nat.le_of_ble_eq_true rfl)⟩) hS (fun q h => mA_sub [0, 1, 2] rfl hS.1 h) (fun H1 locs1 hB hzz hk hS => ?_)
      have hP : va_P D vwCl [(aM, .inr (3, [.ref aA, .ref aB, .int (nI (c - 1)), .int (bI gl), .int (bI gh), .int (bI li), .int (bI hn), .int (bI fl), .int lo, .int hi])), (aA, .inl (cy, 64, .inl (delA k 0 c))), (aB, .inl (cy, 64, .inl (delA v 0 c)))] H1 := va_P.sub hB [0, 1, 2] rfl
      have hD : va_D (mA [aM, aA, aB] s.heap.size) [(aM, .inr (3, [.ref aA, .ref aB, .int (nI (c - 1)), .int (bI gl), .int (bI gh), .int (bI li), .int (bI hn), .int (bI fl), .int lo, .int hi])), (aA, .inl (cy, 64, .inl (delA k 0 c))), (aB, .inl (cy, 64, .inl (delA v 0 c)))] := D_of ndw hAw
      clear hB
      generalize H1 = H at hP hS ⊢
      generalize locs1 = locs at hS ⊢
      refine lv_iload_n hx hb dX3_poll_38 rfl (lv_at hl 0 rfl) ?_
      refine lv_i2l hx hb dX3_poll_39 rfl ?_
      exact ret_lM hx hb hr hlocks dX3_poll_40 hS (by rw [hz]) (by rw [e1]; exact hP)
    · rw [if_pos h12] at hz e1
      refine lv_aload_n hx hb dX3_poll_15 rfl (lv_at hl 0 rfl) ?_
      refine va_get (ci := 3) (v := .int (nI c)) (C := RX3) (T := TX3) (N := 10) hx hb hts hin_X3 hown hK hP 0 rfl rfl 2 (by decide) kf_16 (fun _ h9 => h9) rfl dX3_poll_16 ?_
      refine lv_iconst (v := nI 1) hx hb dX3_poll_19 (by decide) ?_
      refine lv_isub hx hb dX3_poll_20 ?_
      refine top_i (y := nI (c - 1)) (pk_sub (by omega)) ?_
      refine lv_goto (tgt := 25) hx hb dX3_poll_21 (by decide) ?_
      refine lv_istore_n (lv' := [(2, .int (nI (c - 1))), (0, .ref aM), (1, .int (bI g))]) hx hb dX3_poll_25 rfl hl (by decide) rfl (fun ls hl => ?_)
      refine lv_aload_n hx hb dX3_poll_26 rfl (lv_at hl 1 rfl) ?_
      refine va_get (ci := 3) (v := .ref aA) (C := RX3) (T := TX3) (N := 10) hx hb hts hin_X3 hown hK hP 0 rfl rfl 0 (by decide) kf_9 (fun _ h9 => h9) rfl dX3_poll_27 ?_
      refine lv_iload_n hx hb dX3_poll_30 rfl (lv_at hl 0 rfl) ?_
      refine a_ld hx hb hK hP 1 0 rfl rfl (by omega) (by decide) dX3_poll_31 ?_
      refine lv_istore_n (lv' := [(3, .int (k (c - 1))), (2, .int (nI (c - 1))), (0, .ref aM), (1, .int (bI g))]) hx hb dX3_poll_32 rfl hl (by decide) rfl (fun ls hl => ?_)
      refine lv_aload_n hx hb dX3_poll_33 rfl (lv_at hl 2 rfl) ?_
      refine lv_iload_n hx hb dX3_poll_34 rfl (lv_at hl 1 rfl) ?_
      refine go_V (va_runV (As := [.int (nI (c - 1))]) (rest := []) ⟨hx, hb, hml, hown, hts⟩ (c_X3_delete l D cy aM aA aB k v c (by omega) gl gh li hn fl lo hi (by simp; omega) _ (c - 1) (by omega)) (cwV 1 hts gX3_poll_X3_delete rfl rfl rfl (by decide +kernel) ⟨(Nat.le_of_ble_eq_true rfl), (Nat.le_of_ble_eq_true rfl)⟩) (preV_Z hK (hP.sub [0, 1, 2] rfl) 0 3 rfl rfl) rfl rfl hl.1 rfl (lv_room (Nat.le_of_ble_eq_true rfl)) dX3_poll_35 ⟨(Nat.le_of_ble_eq_true rfl), (Nat.le_of_ble_eq_true rfl)⟩) hS (fun q h => mA_sub [0, 1, 2] rfl hS.1 h) (fun H1 locs1 hB hzz hk hS => ?_)
      have hP : va_P D vwCl [(aM, .inr (3, [.ref aA, .ref aB, .int (nI (c - 1)), .int (bI gl), .int (bI gh), .int (bI li), .int (bI hn), .int (bI fl), .int lo, .int hi])), (aA, .inl (cy, 64, .inl (delA k (c - 1) c))), (aB, .inl (cy, 64, .inl (delA v (c - 1) c)))] H1 := va_P.sub hB [0, 1, 2] rfl
      have hD : va_D (mA [aM, aA, aB] s.heap.size) [(aM, .inr (3, [.ref aA, .ref aB, .int (nI (c - 1)), .int (bI gl), .int (bI gh), .int (bI li), .int (bI hn), .int (bI fl), .int lo, .int hi])), (aA, .inl (cy, 64, .inl (delA k (c - 1) c))), (aB, .inl (cy, 64, .inl (delA v (c - 1) c)))] := D_of ndw hAw
      clear hB
      generalize H1 = H at hP hS ⊢
      generalize locs1 = locs at hS ⊢
      refine lv_iload_n hx hb dX3_poll_38 rfl (lv_at hl 0 rfl) ?_
      refine lv_i2l hx hb dX3_poll_39 rfl ?_
      exact ret_lM hx hb hr hlocks dX3_poll_40 hS (by rw [hz]) (by rw [e1]; exact hP)
  · have hc0 : 0 = c := by rw [show (0 : Int32) = nI 0 from rfl] at h4; exact ((nI_eq (by omega) (by omega)).mp h4).symm
    have hz : mpA k g 0 c = NO := if_pos hc0
    have e1 : mpP k v c g 0 c = (c, k, v) := if_pos hc0
    refine lv_ldc2 hx hb hown kc_38 dX3_poll_7 ?_
    exact ret_lM hx hb hr hlocks dX3_poll_10 hS (by rw [hz]) (by rw [e1]; exact hP)

set_option maxHeartbeats 4000000 in
set_option maxRecDepth 100000 in
/-- viewPoll(last) -/
theorem c_X3_viewPoll (l : Launch) (D : va_G) (cy : ClassId) (aM aA aB : Nat) (k v : Nat → Int32) (c : Nat) (hc : c ≤ 64) (gl gh li hn fl : Bool) (lo hi : Int32) (nd : ([aM, aA, aB] : List Nat).Nodup) (sz : Nat) (g : Bool) : Met l yX3_viewPoll wsX3_viewPoll ({ frames := 3, cells := 0, slots := 0, locals := 63 } : Room) (pcZ D [(cy, .int)] [.ref aM, .int (bI g)] [(aM, .inr (3, [.ref aA, .ref aB, .int (nI c), .int (bI gl), .int (bI gh), .int (bI li), .int (bI hn), .int (bI fl), .int lo, .int hi])), (aA, .inl (cy, 64, .inl k)), (aB, .inl (cy, 64, .inl v))] sz) (qM (some (.long (mpA k (g != fl) (mF k c gl lo li gh hi hn) (mE k c gl lo li gh hi hn)))) (fun H => va_P D vwCl (mW cy aM aA aB ((mpP k v c (g != fl) (mF k c gl lo li gh hi hn) (mE k c gl lo li gh hi hn)).2.1) ((mpP k v c (g != fl) (mF k c gl lo li gh hi hn) (mE k c gl lo li gh hi hn)).2.2) ((mpP k v c (g != fl) (mF k c gl lo li gh hi hn) (mE k c gl lo li gh hi hn)).1) gl gh li hn fl lo hi) H) (mA [aM, aA, aB] sz)) 0 0 (mA [aM, aA, aB] sz) := by
  refine met_Z (cc := cX3_viewPoll) (maxL := 6) (ret := (some .long)) (by decide +kernel) rfl (Nat.le_of_ble_eq_true rfl) ?_
  intro pM eM s mM below meth cM ls hx hb hr hts hown hlocks hml hnm hsz hK hP hl
  have hown : s.vm.findClass RX3 = some mM.cls := hown
  have hl : lv_has ls 6 [(0, .ref aM), (1, .int (bI g))] := hl
  have hin_X3 : ∀ w ∈ wsX30, w ∈ wsX3_viewPoll := by decide +kernel
  have kf_59 := hts (.fieldLink RX3 59 "OrderedDeskModel" "falls" "Z") (by decide +kernel)
  have kf_9 := hts (.fieldLink RX3 9 "OrderedDeskModel" "key" "[I") (by decide +kernel)
  have kc_38 := hts (.constantLong RX3 38 (1099511627776)) (by decide +kernel)
  have hP : va_P D vwCl [(aM, .inr (3, [.ref aA, .ref aB, .int (nI c), .int (bI gl), .int (bI gh), .int (bI li), .int (bI hn), .int (bI fl), .int lo, .int hi])), (aA, .inl (cy, 64, .inl k)), (aB, .inl (cy, 64, .inl v))] s.heap := hP
  subst hsz
  have ndw := nd
  have hA : ∀ q : Nat, s.heap.size ≤ q → mA [aM, aA, aB] s.heap.size q := fun q h => Or.inr h
  have hAw : ∀ q ∈ ([aM, aA, aB] : List Nat), mA [aM, aA, aB] s.heap.size q := fun q h => Or.inl h
  have hS : va_S (mA [aM, aA, aB] s.heap.size) s.heap s.heap [] := va_S.rf
  have hD : va_D (mA [aM, aA, aB] s.heap.size) [(aM, .inr (3, [.ref aA, .ref aB, .int (nI c), .int (bI gl), .int (bI gh), .int (bI li), .int (bI hn), .int (bI fl), .int lo, .int hi])), (aA, .inl (cy, 64, .inl k)), (aB, .inl (cy, 64, .inl v))] := D_of ndw hAw
  simp only [List.nodup_cons, List.mem_cons, List.not_mem_nil, or_false, not_or, not_false_eq_true, List.nodup_nil, and_true] at nd
  have q1 := mF_le k c gl lo li gh hi hn
  have q2 := mE_le k c gl lo li gh hi hn
  have q3 := mFE k c gl lo li gh hi hn
  refine lv_aload_n hx hb dX3_viewPoll_0 rfl (lv_at hl 0 rfl) ?_
  refine go_R (va_runV (As := []) (rest := []) ⟨hx, hb, hml, hown, hts⟩ (c_X3_first l D cy aM aA aB k v c (by omega) gl gh li hn fl lo hi) (cwV 0 hts gX3_viewPoll_X3_first rfl rfl rfl (by decide +kernel) ⟨(Nat.le_of_ble_eq_true rfl), (Nat.le_of_ble_eq_true rfl)⟩) (preV_W hK (hP.sub [0, 1, 2] rfl) 0 3 rfl rfl) rfl rfl hl.1 rfl (lv_room (Nat.le_of_ble_eq_true rfl)) dX3_viewPoll_1 ⟨(Nat.le_of_ble_eq_true rfl), (Nat.le_of_ble_eq_true rfl)⟩) ?_
  refine lv_istore_n (lv' := [(2, .int (nI (mF k c gl lo li gh hi hn))), (0, .ref aM), (1, .int (bI g))]) hx hb dX3_viewPoll_4 rfl hl (by decide) rfl (fun ls hl => ?_)
  refine lv_aload_n hx hb dX3_viewPoll_5 rfl (lv_at hl 1 rfl) ?_
  refine go_R (va_runV (As := []) (rest := []) ⟨hx, hb, hml, hown, hts⟩ (c_X3_behind l D cy aM aA aB k v c (by omega) gl gh li hn fl lo hi) (cwV 0 hts gX3_viewPoll_X3_behind rfl rfl rfl (by decide +kernel) ⟨(Nat.le_of_ble_eq_true rfl), (Nat.le_of_ble_eq_true rfl)⟩) (preV_W hK (hP.sub [0, 1, 2] rfl) 0 3 rfl rfl) rfl rfl hl.1 rfl (lv_room (Nat.le_of_ble_eq_true rfl)) dX3_viewPoll_6 ⟨(Nat.le_of_ble_eq_true rfl), (Nat.le_of_ble_eq_true rfl)⟩) ?_
  refine lv_istore_n (lv' := [(3, .int (nI (mE k c gl lo li gh hi hn))), (2, .int (nI (mF k c gl lo li gh hi hn))), (0, .ref aM), (1, .int (bI g))]) hx hb dX3_viewPoll_9 rfl hl (by decide) rfl (fun ls hl => ?_)
  refine lv_iload_n hx hb dX3_viewPoll_10 rfl (lv_at hl 1 rfl) ?_
  refine lv_iload_n hx hb dX3_viewPoll_11 rfl (lv_at hl 0 rfl) ?_
  refine n_ne (tgt := 19) (by omega) (by omega) hx hb dX3_viewPoll_12 (by decide) (fun h12 => ?_) (fun h12 => ?_)
  · have hz : mpA k (g != fl) (mF k c gl lo li gh hi hn) (mE k c gl lo li gh hi hn) = (k (if (g != fl) = true then (mE k c gl lo li gh hi hn) - 1 else (mF k c gl lo li gh hi hn))).toInt64 := if_neg h12
    have e1 : mpP k v c (g != fl) (mF k c gl lo li gh hi hn) (mE k c gl lo li gh hi hn) = (c - 1, delA k (if (g != fl) = true then (mE k c gl lo li gh hi hn) - 1 else (mF k c gl lo li gh hi hn)) c, delA v (if (g != fl) = true then (mE k c gl lo li gh hi hn) - 1 else (mF k c gl lo li gh hi hn)) c) := if_neg h12
    refine lv_iload_n hx hb dX3_viewPoll_19 rfl (lv_at hl 3 rfl) ?_
    refine lv_aload_n hx hb dX3_viewPoll_20 rfl (lv_at hl 2 rfl) ?_
    refine va_get (ci := 3) (v := .int (bI fl)) (C := RX3) (T := TX3) (N := 10) hx hb hts hin_X3 hown hK hP 0 rfl rfl 7 (by decide) kf_59 (fun _ h9 => h9) rfl dX3_viewPoll_21 ?_
    refine lv_icmp_eq (tgt := 33) hx hb dX3_viewPoll_24 (by decide) (fun h24 => ?_) (fun h24 => ?_)
    · rw [if_neg (by rw [bI_inj.mp h24]; simp)] at hz e1
      refine lv_iload_n hx hb dX3_viewPoll_33 rfl (lv_at hl 1 rfl) ?_
      refine lv_istore (lv' := [(4, .int (nI (mF k c gl lo li gh hi hn))), (3, .int (nI (mE k c gl lo li gh hi hn))), (2, .int (nI (mF k c gl lo li gh hi hn))), (0, .ref aM), (1, .int (bI g))]) hx hb dX3_viewPoll_34 hl (by decide) rfl (fun ls hl => ?_)
      refine lv_aload_n hx hb dX3_viewPoll_36 rfl (lv_at hl 3 rfl) ?_
      refine va_get (ci := 3) (v := .ref aA) (C := RX3) (T := TX3) (N := 10) hx hb hts hin_X3 hown hK hP 0 rfl rfl 0 (by decide) kf_9 (fun _ h9 => h9) rfl dX3_viewPoll_37 ?_
      refine lv_iload hx hb dX3_viewPoll_40 (lv_at hl 0 rfl) ?_
      refine a_ld hx hb hK hP 1 0 rfl rfl (by omega) (by decide) dX3_viewPoll_42 ?_
      refine lv_istore (lv' := [(5, .int (k (mF k c gl lo li gh hi hn))), (4, .int (nI (mF k c gl lo li gh hi hn))), (3, .int (nI (mE k c gl lo li gh hi hn))), (2, .int (nI (mF k c gl lo li gh hi hn))), (0, .ref aM), (1, .int (bI g))]) hx hb dX3_viewPoll_43 hl (by decide) rfl (fun ls hl => ?_)
      refine lv_aload_n hx hb dX3_viewPoll_45 rfl (lv_at hl 4 rfl) ?_
      refine lv_iload hx hb dX3_viewPoll_46 (lv_at hl 1 rfl) ?_
      refine go_V (va_runV (As := [.int (nI (mF k c gl lo li gh hi hn))]) (rest := []) ⟨hx, hb, hml, hown, hts⟩ (c_X3_delete l D cy aM aA aB k v c (by omega) gl gh li hn fl lo hi (by simp; omega) _ (mF k c gl lo li gh hi hn) (by omega)) (cwV 1 hts gX3_viewPoll_X3_delete rfl rfl rfl (by decide +kernel) ⟨(Nat.le_of_ble_eq_true rfl), (Nat.le_of_ble_eq_true rfl)⟩) (preV_Z hK (hP.sub [0, 1, 2] rfl) 0 3 rfl rfl) rfl rfl hl.1 rfl (lv_room (Nat.le_of_ble_eq_true rfl)) dX3_viewPoll_48 ⟨(Nat.le_of_ble_eq_true rfl), (Nat.le_of_ble_eq_true rfl)⟩) hS (fun q h => mA_sub [0, 1, 2] rfl hS.1 h) (fun H1 locs1 hB hzz hk hS => ?_)
      have hP : va_P D vwCl [(aM, .inr (3, [.ref aA, .ref aB, .int (nI (c - 1)), .int (bI gl), .int (bI gh), .int (bI li), .int (bI hn), .int (bI fl), .int lo, .int hi])), (aA, .inl (cy, 64, .inl (delA k (mF k c gl lo li gh hi hn) c))), (aB, .inl (cy, 64, .inl (delA v (mF k c gl lo li gh hi hn) c)))] H1 := va_P.sub hB [0, 1, 2] rfl
      have hD : va_D (mA [aM, aA, aB] s.heap.size) [(aM, .inr (3, [.ref aA, .ref aB, .int (nI (c - 1)), .int (bI gl), .int (bI gh), .int (bI li), .int (bI hn), .int (bI fl), .int lo, .int hi])), (aA, .inl (cy, 64, .inl (delA k (mF k c gl lo li gh hi hn) c))), (aB, .inl (cy, 64, .inl (delA v (mF k c gl lo li gh hi hn) c)))] := D_of ndw hAw
      clear hB
      generalize H1 = H at hP hS ⊢
      generalize locs1 = locs at hS ⊢
      refine lv_iload hx hb dX3_viewPoll_51 (lv_at hl 0 rfl) ?_
      refine lv_i2l hx hb dX3_viewPoll_53 rfl ?_
      exact ret_lM hx hb hr hlocks dX3_viewPoll_54 hS (by rw [hz]) (by rw [e1]; exact hP)
    · rw [if_pos (by simpa using fun q => h24 (by rw [q]))] at hz e1
      refine lv_iload_n hx hb dX3_viewPoll_27 rfl (lv_at hl 0 rfl) ?_
      refine lv_iconst (v := nI 1) hx hb dX3_viewPoll_28 (by decide) ?_
      refine lv_isub hx hb dX3_viewPoll_29 ?_
      refine top_i (y := nI ((mE k c gl lo li gh hi hn) - 1)) (pk_sub (by omega)) ?_
      refine lv_goto (tgt := 34) hx hb dX3_viewPoll_30 (by decide) ?_
      refine lv_istore (lv' := [(4, .int (nI ((mE k c gl lo li gh hi hn) - 1))), (3, .int (nI (mE k c gl lo li gh hi hn))), (2, .int (nI (mF k c gl lo li gh hi hn))), (0, .ref aM), (1, .int (bI g))]) hx hb dX3_viewPoll_34 hl (by decide) rfl (fun ls hl => ?_)
      refine lv_aload_n hx hb dX3_viewPoll_36 rfl (lv_at hl 3 rfl) ?_
      refine va_get (ci := 3) (v := .ref aA) (C := RX3) (T := TX3) (N := 10) hx hb hts hin_X3 hown hK hP 0 rfl rfl 0 (by decide) kf_9 (fun _ h9 => h9) rfl dX3_viewPoll_37 ?_
      refine lv_iload hx hb dX3_viewPoll_40 (lv_at hl 0 rfl) ?_
      refine a_ld hx hb hK hP 1 0 rfl rfl (by omega) (by decide) dX3_viewPoll_42 ?_
      refine lv_istore (lv' := [(5, .int (k ((mE k c gl lo li gh hi hn) - 1))), (4, .int (nI ((mE k c gl lo li gh hi hn) - 1))), (3, .int (nI (mE k c gl lo li gh hi hn))), (2, .int (nI (mF k c gl lo li gh hi hn))), (0, .ref aM), (1, .int (bI g))]) hx hb dX3_viewPoll_43 hl (by decide) rfl (fun ls hl => ?_)
      refine lv_aload_n hx hb dX3_viewPoll_45 rfl (lv_at hl 4 rfl) ?_
      refine lv_iload hx hb dX3_viewPoll_46 (lv_at hl 1 rfl) ?_
      refine go_V (va_runV (As := [.int (nI ((mE k c gl lo li gh hi hn) - 1))]) (rest := []) ⟨hx, hb, hml, hown, hts⟩ (c_X3_delete l D cy aM aA aB k v c (by omega) gl gh li hn fl lo hi (by simp; omega) _ ((mE k c gl lo li gh hi hn) - 1) (by omega)) (cwV 1 hts gX3_viewPoll_X3_delete rfl rfl rfl (by decide +kernel) ⟨(Nat.le_of_ble_eq_true rfl), (Nat.le_of_ble_eq_true rfl)⟩) (preV_Z hK (hP.sub [0, 1, 2] rfl) 0 3 rfl rfl) rfl rfl hl.1 rfl (lv_room (Nat.le_of_ble_eq_true rfl)) dX3_viewPoll_48 ⟨(Nat.le_of_ble_eq_true rfl), (Nat.le_of_ble_eq_true rfl)⟩) hS (fun q h => mA_sub [0, 1, 2] rfl hS.1 h) (fun H1 locs1 hB hzz hk hS => ?_)
      have hP : va_P D vwCl [(aM, .inr (3, [.ref aA, .ref aB, .int (nI (c - 1)), .int (bI gl), .int (bI gh), .int (bI li), .int (bI hn), .int (bI fl), .int lo, .int hi])), (aA, .inl (cy, 64, .inl (delA k ((mE k c gl lo li gh hi hn) - 1) c))), (aB, .inl (cy, 64, .inl (delA v ((mE k c gl lo li gh hi hn) - 1) c)))] H1 := va_P.sub hB [0, 1, 2] rfl
      have hD : va_D (mA [aM, aA, aB] s.heap.size) [(aM, .inr (3, [.ref aA, .ref aB, .int (nI (c - 1)), .int (bI gl), .int (bI gh), .int (bI li), .int (bI hn), .int (bI fl), .int lo, .int hi])), (aA, .inl (cy, 64, .inl (delA k ((mE k c gl lo li gh hi hn) - 1) c))), (aB, .inl (cy, 64, .inl (delA v ((mE k c gl lo li gh hi hn) - 1) c)))] := D_of ndw hAw
      clear hB
      generalize H1 = H at hP hS ⊢
      generalize locs1 = locs at hS ⊢
      refine lv_iload hx hb dX3_viewPoll_51 (lv_at hl 0 rfl) ?_
      refine lv_i2l hx hb dX3_viewPoll_53 rfl ?_
      exact ret_lM hx hb hr hlocks dX3_viewPoll_54 hS (by rw [hz]) (by rw [e1]; exact hP)
  · have hz : mpA k (g != fl) (mF k c gl lo li gh hi hn) (mE k c gl lo li gh hi hn) = NO := if_pos h12
    have e1 : mpP k v c (g != fl) (mF k c gl lo li gh hi hn) (mE k c gl lo li gh hi hn) = (c, k, v) := if_pos h12
    refine lv_ldc2 hx hb hown kc_38 dX3_viewPoll_15 ?_
    exact ret_lM hx hb hr hlocks dX3_viewPoll_18 hS (by rw [hz]) (by rw [e1]; exact hP)

set_option maxHeartbeats 4000000 in
set_option maxRecDepth 100000 in
/-- again() -/
theorem c_X3_again (l : Launch) (D : va_G) (cy : ClassId) (aM aA aB : Nat) (k v : Nat → Int32) (c : Nat) (hc : c ≤ 64) (gl gh li hn fl : Bool) (lo hi : Int32) (nd : ([aM, aA, aB] : List Nat).Nodup) (sz : Nat) : Met l yX3_again wsX3_again ({ frames := 1, cells := 0, slots := 0, locals := 20 } : Room) (pcZ D [(cy, .int)] [.ref aM] [(aM, .inr (3, [.ref aA, .ref aB, .int (nI c), .int (bI gl), .int (bI gh), .int (bI li), .int (bI hn), .int (bI fl), .int lo, .int hi])), (aA, .inl (cy, 64, .inl k)), (aB, .inl (cy, 64, .inl v))] sz) (qM (some (.int (if 100 < c then (-1) else nI c))) (fun H => va_P D vwCl (mW cy aM aA aB k v c (if 100 < c then gl else false) (if 100 < c then gh else false) li hn (if 100 < c then fl else false) lo hi) H) (mA [aM, aA, aB] sz)) 0 0 (mA [aM, aA, aB] sz) := by
  refine met_Z (cc := cX3_again) (maxL := 1) (ret := (some .int)) (by decide +kernel) rfl (Nat.le_of_ble_eq_true rfl) ?_
  intro pM eM s mM below meth cM ls hx hb hr hts hown hlocks hml hnm hsz hK hP hl
  have hown : s.vm.findClass RX3 = some mM.cls := hown
  have hl : lv_has ls 1 [(0, .ref aM)] := hl
  have hin_X3 : ∀ w ∈ wsX30, w ∈ wsX3_again := by decide +kernel
  have kf_16 := hts (.fieldLink RX3 16 "OrderedDeskModel" "many" "I") (by decide +kernel)
  have hP : va_P D vwCl [(aM, .inr (3, [.ref aA, .ref aB, .int (nI c), .int (bI gl), .int (bI gh), .int (bI li), .int (bI hn), .int (bI fl), .int lo, .int hi])), (aA, .inl (cy, 64, .inl k)), (aB, .inl (cy, 64, .inl v))] s.heap := hP
  subst hsz
  have ndw := nd
  have hA : ∀ q : Nat, s.heap.size ≤ q → mA [aM, aA, aB] s.heap.size q := fun q h => Or.inr h
  have hAw : ∀ q ∈ ([aM, aA, aB] : List Nat), mA [aM, aA, aB] s.heap.size q := fun q h => Or.inl h
  have hS : va_S (mA [aM, aA, aB] s.heap.size) s.heap s.heap [] := va_S.rf
  have hD : va_D (mA [aM, aA, aB] s.heap.size) [(aM, .inr (3, [.ref aA, .ref aB, .int (nI c), .int (bI gl), .int (bI gh), .int (bI li), .int (bI hn), .int (bI fl), .int lo, .int hi])), (aA, .inl (cy, 64, .inl k)), (aB, .inl (cy, 64, .inl v))] := D_of ndw hAw
  simp only [List.nodup_cons, List.mem_cons, List.not_mem_nil, or_false, not_or, not_false_eq_true, List.nodup_nil, and_true] at nd
  refine lv_aload_n hx hb dX3_again_0 rfl (lv_at hl 0 rfl) ?_
  refine va_get (ci := 3) (v := .int (nI c)) (C := RX3) (T := TX3) (N := 10) hx hb hts hin_X3 hown hK hP 0 rfl rfl 2 (by decide) kf_16 (fun _ h9 => h9) rfl dX3_again_1 ?_
  refine lv_bipush (v := nI 100) hx hb dX3_again_4 (by decide) ?_
  refine n_le (tgt := 11) (by omega) (by omega) hx hb dX3_again_6 (by decide) (fun h6 => ?_) (fun h6 => ?_)
  · have h6n : ¬ 100 < c := by omega
    refine lv_aload_n hx hb dX3_again_11 rfl (lv_at hl 0 rfl) ?_
    refine go_V (va_runV (As := []) (rest := []) ⟨hx, hb, hml, hown, hts⟩ (c_X3_all l D cy aM aA aB k v c (by omega) gl gh li hn fl lo hi (by simp; omega) _) (cwV 0 hts gX3_again_X3_all rfl rfl rfl (by decide +kernel) ⟨(Nat.le_of_ble_eq_true rfl), (Nat.le_of_ble_eq_true rfl)⟩) (preV_Z hK (hP.sub [0, 1, 2] rfl) 0 3 rfl rfl) rfl rfl hl.1 rfl (lv_room (Nat.le_of_ble_eq_true rfl)) dX3_again_12 ⟨(Nat.le_of_ble_eq_true rfl), (Nat.le_of_ble_eq_true rfl)⟩) hS (fun q h => mA_sub [0, 1, 2] rfl hS.1 h) (fun H1 locs1 hB hzz hk hS => ?_)
    have hP : va_P D vwCl [(aM, .inr (3, [.ref aA, .ref aB, .int (nI c), .int (bI false), .int (bI false), .int (bI li), .int (bI hn), .int (bI false), .int lo, .int hi])), (aA, .inl (cy, 64, .inl k)), (aB, .inl (cy, 64, .inl v))] H1 := va_P.sub hB [0, 1, 2] rfl
    have hD : va_D (mA [aM, aA, aB] s.heap.size) [(aM, .inr (3, [.ref aA, .ref aB, .int (nI c), .int (bI false), .int (bI false), .int (bI li), .int (bI hn), .int (bI false), .int lo, .int hi])), (aA, .inl (cy, 64, .inl k)), (aB, .inl (cy, 64, .inl v))] := D_of ndw hAw
    clear hB
    generalize H1 = H at hP hS ⊢
    generalize locs1 = locs at hS ⊢
    refine lv_aload_n hx hb dX3_again_15 rfl (lv_at hl 0 rfl) ?_
    refine va_get (ci := 3) (v := .int (nI c)) (C := RX3) (T := TX3) (N := 10) hx hb hts hin_X3 hown hK hP 0 rfl rfl 2 (by decide) kf_16 (fun _ h9 => h9) rfl dX3_again_16 ?_
    exact ret_iM hx hb hr hlocks dX3_again_19 hS (by rw [if_neg h6n]) (by rw [if_neg h6n, if_neg h6n, if_neg h6n]; exact hP)
  · exact absurd h6 (by omega)
