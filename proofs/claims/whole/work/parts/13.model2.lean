/-! the rest of the model's methods: sweep, viewClear, turn, look, narrow (written by wip/gen/x3b.py) -/
theorem swp_s {G : Int32 → Bool} {f i m c : Nat} {k v : Nat → Int32} (h : f < i) : swp G f (i - f) m c k v = if G (k (i - 1)) = true then swp G f (i - 1 - f) (m + 1) (c - 1) (delA k (i - 1) c) (delA v (i - 1) c) else swp G f (i - 1 - f) m c k v := by
  obtain ⟨n, hn⟩ : ∃ n, i - f = n + 1 := ⟨i - f - 1, by omega⟩
  rw [hn, show i - 1 - f = n by omega, swp, show f + n = i - 1 by omega]
theorem vcl_s {f n i c : Nat} {k v : Nat → Int32} (h : i < n) : vcl f (n - i) c k v = vcl f (n - (i + 1)) (c - 1) (delA k f c) (delA v f c) := by
  obtain ⟨q, hq⟩ : ∃ q, n - i = q + 1 := ⟨n - i - 1, by omega⟩
  rw [hq, show n - (i + 1) = q by omega, vcl]
abbrev mS : Type := Bool × Bool × Bool × Bool × Bool × Int32 × Int32
def mLS (kind f : Int32) (fi : Bool) (t : Int32) (ti : Bool) (gl gh li hn fl : Bool) (lo hi : Int32) : mS :=
  if kind = 0 then (false, false, li, hn, false, lo, hi)
  else if kind = 1 then (false, true, li, ti, false, lo, t)
  else if kind = 2 then (true, false, fi, hn, false, f, hi)
  else if kind = 3 then (if t < f then (gl, gh, li, hn, fl, lo, hi) else (true, true, fi, ti, false, f, t))
  else (gl, gh, li, hn, fl, lo, hi)
def mLA (kind f t : Int32) : Int32 := if kind = 0 then 0 else if kind = 1 then 0 else if kind = 2 then 0 else if kind = 3 then (if t < f then 1 else 0) else 1
def mNS (kind f : Int32) (fi : Bool) (t : Int32) (ti : Bool) (gl gh li hn fl : Bool) (lo hi : Int32) : mS :=
  if kind = 0 then (gl, gh, li, hn, fl, lo, hi)
  else if kind = 1 then (if mayM gl lo li gh hi hn t ti = true then (if fl = true then (true, gh, ti, hn, fl, t, hi) else (gl, true, li, ti, fl, lo, t)) else (gl, gh, li, hn, fl, lo, hi))
  else if kind = 2 then (if mayM gl lo li gh hi hn f fi = true then (if fl = true then (gl, true, li, fi, fl, lo, f) else (true, gh, fi, hn, fl, f, hi)) else (gl, gh, li, hn, fl, lo, hi))
  else if kind = 3 then (if mayM gl lo li gh hi hn f fi = true then (if mayM gl lo li gh hi hn t ti = true then (if (if fl = true then f < t else t < f) then (gl, gh, li, hn, fl, lo, hi) else if fl = true then (true, true, ti, fi, fl, t, f) else (true, true, fi, ti, fl, f, t)) else (gl, gh, li, hn, fl, lo, hi)) else (gl, gh, li, hn, fl, lo, hi))
  else (gl, gh, li, hn, fl, lo, hi)
def mNA (kind f : Int32) (fi : Bool) (t : Int32) (ti : Bool) (gl gh li hn fl : Bool) (lo hi : Int32) : Int32 :=
  if kind = 0 then 0
  else if kind = 1 then (if mayM gl lo li gh hi hn t ti = true then 0 else 1)
  else if kind = 2 then (if mayM gl lo li gh hi hn f fi = true then 0 else 1)
  else if kind = 3 then (if mayM gl lo li gh hi hn f fi = true then (if mayM gl lo li gh hi hn t ti = true then (if (if fl = true then f < t else t < f) then 1 else 0) else 1) else 1)
  else 1
theorem k_lt {kind : Int32} (h : kind < 0) : ¬ kind = 0 ∧ ¬ kind = 1 ∧ ¬ kind = 2 ∧ ¬ kind = 3 := ⟨fun q => by rw [q] at h; exact absurd h (by decide), fun q => by rw [q] at h; exact absurd h (by decide), fun q => by rw [q] at h; exact absurd h (by decide), fun q => by rw [q] at h; exact absurd h (by decide)⟩
theorem k_gt {kind : Int32} (h : 3 < kind) : ¬ kind = 0 ∧ ¬ kind = 1 ∧ ¬ kind = 2 ∧ ¬ kind = 3 := ⟨fun q => by rw [q] at h; exact absurd h (by decide), fun q => by rw [q] at h; exact absurd h (by decide), fun q => by rw [q] at h; exact absurd h (by decide), fun q => by rw [q] at h; exact absurd h (by decide)⟩
set_option maxHeartbeats 4000000 in
set_option maxRecDepth 100000 in
/-- sweep(step, rest) -/
theorem c_X3_sweep (l : Launch) (D : va_G) (cy : ClassId) (aM aA aB : Nat) (k v : Nat → Int32) (c : Nat) (hc : c ≤ 64) (gl gh li hn fl : Bool) (lo hi : Int32) (nd : ([aM, aA, aB] : List Nat).Nodup) (sz : Nat) (step rest : Int32) : Met l yX3_sweep wsX3_sweep ({ frames := 3, cells := 0, slots := 0, locals := 63 } : Room) (pcZ D [(cy, .int)] [.ref aM, .int step, .int rest] [(aM, .inr (3, [.ref aA, .ref aB, .int (nI c), .int (bI gl), .int (bI gh), .int (bI li), .int (bI hn), .int (bI fl), .int lo, .int hi])), (aA, .inl (cy, 64, .inl k)), (aB, .inl (cy, 64, .inl v))] sz) (qM (some (.int (if step < 1 then (-1) else nI (msT step rest (mF k c gl lo li gh hi hn) (mE k c gl lo li gh hi hn) c k v).1))) (fun H => va_P D vwCl (mW cy aM aA aB ((msT step rest (mF k c gl lo li gh hi hn) (mE k c gl lo li gh hi hn) c k v).2.2.1) ((msT step rest (mF k c gl lo li gh hi hn) (mE k c gl lo li gh hi hn) c k v).2.2.2) ((msT step rest (mF k c gl lo li gh hi hn) (mE k c gl lo li gh hi hn) c k v).2.1) gl gh li hn fl lo hi) H) (mA [aM, aA, aB] sz)) 0 0 (mA [aM, aA, aB] sz) := by
  refine met_Z (cc := cX3_sweep) (maxL := 6) (ret := (some .int)) (by decide +kernel) rfl (Nat.le_of_ble_eq_true rfl) ?_
  intro pM eM s mM below meth cM ls hx hb hr hts hown hlocks hml hnm hsz hK hP hl
  have hown : s.vm.findClass RX3 = some mM.cls := hown
  have hl : lv_has ls 6 [(0, .ref aM), (1, .int step), (2, .int rest)] := hl
  have hin_X3 : ∀ w ∈ wsX30, w ∈ wsX3_sweep := by decide +kernel
  have kf_9 := hts (.fieldLink RX3 9 "OrderedDeskModel" "key" "[I") (by decide +kernel)
  have hP : va_P D vwCl [(aM, .inr (3, [.ref aA, .ref aB, .int (nI c), .int (bI gl), .int (bI gh), .int (bI li), .int (bI hn), .int (bI fl), .int lo, .int hi])), (aA, .inl (cy, 64, .inl k)), (aB, .inl (cy, 64, .inl v))] s.heap := hP
  subst hsz
  have ndw := nd
  have hA : ∀ q : Nat, s.heap.size ≤ q → mA [aM, aA, aB] s.heap.size q := fun q h => Or.inr h
  have hAw : ∀ q ∈ ([aM, aA, aB] : List Nat), mA [aM, aA, aB] s.heap.size q := fun q h => Or.inl h
  have hS : va_S (mA [aM, aA, aB] s.heap.size) s.heap s.heap [] := va_S.rf
  have hD : va_D (mA [aM, aA, aB] s.heap.size) [(aM, .inr (3, [.ref aA, .ref aB, .int (nI c), .int (bI gl), .int (bI gh), .int (bI li), .int (bI hn), .int (bI fl), .int lo, .int hi])), (aA, .inl (cy, 64, .inl k)), (aB, .inl (cy, 64, .inl v))] := D_of ndw hAw
  simp only [List.nodup_cons, List.mem_cons, List.not_mem_nil, or_false, not_or, not_false_eq_true, List.nodup_nil, and_true] at nd
  have q1 := mF_le k c gl lo li gh hi hn
  have q2 := mE_le k c gl lo li gh hi hn
  have q3 := mFE k c gl lo li gh hi hn
  refine lv_iload_n hx hb dX3_sweep_0 rfl (lv_at hl 1 rfl) ?_
  refine lv_iconst (v := 1) hx hb dX3_sweep_1 (by decide) ?_
  refine lv_icmp_ge (tgt := 7) hx hb dX3_sweep_2 (by decide) (fun h2 => ?_) (fun h2 => ?_)
  · have e0 : msT step rest (mF k c gl lo li gh hi hn) (mE k c gl lo li gh hi hn) c k v = swp (gLeav step rest) (mF k c gl lo li gh hi hn) ((mE k c gl lo li gh hi hn) - (mF k c gl lo li gh hi hn)) 0 c k v := if_neg (Int32.not_lt.mpr h2)
    have hz : (if step < 1 then (-1) else nI (msT step rest (mF k c gl lo li gh hi hn) (mE k c gl lo li gh hi hn) c k v).1) = nI (msT step rest (mF k c gl lo li gh hi hn) (mE k c gl lo li gh hi hn) c k v).1 := if_neg (Int32.not_lt.mpr h2)
    refine lv_aload_n hx hb dX3_sweep_7 rfl (lv_at hl 0 rfl) ?_
    refine go_R (va_runV (As := []) (rest := []) ⟨hx, hb, hml, hown, hts⟩ (c_X3_first l D cy aM aA aB k v c (by omega) gl gh li hn fl lo hi) (cwV 0 hts gX3_sweep_X3_first rfl rfl rfl (by decide +kernel) ⟨(Nat.le_of_ble_eq_true rfl), (Nat.le_of_ble_eq_true rfl)⟩) (preV_W hK (hP.sub [0, 1, 2] rfl) 0 3 rfl rfl) rfl rfl hl.1 rfl (lv_room (Nat.le_of_ble_eq_true rfl)) dX3_sweep_8 ⟨(Nat.le_of_ble_eq_true rfl), (Nat.le_of_ble_eq_true rfl)⟩) ?_
    refine lv_istore_n (lv' := [(3, .int (nI (mF k c gl lo li gh hi hn))), (0, .ref aM), (1, .int step), (2, .int rest)]) hx hb dX3_sweep_11 rfl hl (by decide) rfl (fun ls hl => ?_)
    refine lv_iconst (v := nI 0) hx hb dX3_sweep_12 (by decide) ?_
    refine lv_istore (lv' := [(4, .int (nI 0)), (3, .int (nI (mF k c gl lo li gh hi hn))), (0, .ref aM), (1, .int step), (2, .int rest)]) hx hb dX3_sweep_13 hl (by decide) rfl (fun ls hl => ?_)
    refine lv_aload_n hx hb dX3_sweep_15 rfl (lv_at hl 2 rfl) ?_
    refine go_R (va_runV (As := []) (rest := []) ⟨hx, hb, hml, hown, hts⟩ (c_X3_behind l D cy aM aA aB k v c (by omega) gl gh li hn fl lo hi) (cwV 0 hts gX3_sweep_X3_behind rfl rfl rfl (by decide +kernel) ⟨(Nat.le_of_ble_eq_true rfl), (Nat.le_of_ble_eq_true rfl)⟩) (preV_W hK (hP.sub [0, 1, 2] rfl) 0 3 rfl rfl) rfl rfl hl.1 rfl (lv_room (Nat.le_of_ble_eq_true rfl)) dX3_sweep_16 ⟨(Nat.le_of_ble_eq_true rfl), (Nat.le_of_ble_eq_true rfl)⟩) ?_
    refine lv_iconst (v := 1) hx hb dX3_sweep_19 (by decide) ?_
    refine lv_isub hx hb dX3_sweep_20 ?_
    refine lv_istore (lv' := [(5, .int ((nI (mE k c gl lo li gh hi hn)) - 1)), (4, .int (nI 0)), (3, .int (nI (mF k c gl lo li gh hi hn))), (0, .ref aM), (1, .int step), (2, .int rest)]) hx hb dX3_sweep_21 hl (by decide) rfl (fun ls hl => ?_)
    refine W_loop (I := fun (i : Nat) (H : Heap) (locs : List Loc) (ls : Array Slot) => ∃ (m : Nat) (c2 : Nat) (k2 : Nat → Int32) (v2 : Nat → Int32), lv_has ls 6 [(0, .ref aM), (1, .int step), (2, .int rest), (3, .int (nI (mF k c gl lo li gh hi hn))), (4, .int (nI m)), (5, .int (nI i - 1))] ∧ va_P D vwCl [(aM, .inr (3, [.ref aA, .ref aB, .int (nI c2), .int (bI gl), .int (bI gh), .int (bI li), .int (bI hn), .int (bI fl), .int lo, .int hi])), (aA, .inl (cy, 64, .inl k2)), (aB, .inl (cy, 64, .inl v2))] H ∧ va_S (mA [aM, aA, aB] s.heap.size) s.heap H locs ∧ (mF k c gl lo li gh hi hn) ≤ i ∧ i ≤ c2 ∧ c2 ≤ c ∧ swp (gLeav step rest) (mF k c gl lo li gh hi hn) ((mE k c gl lo li gh hi hn) - (mF k c gl lo li gh hi hn)) 0 c k v = swp (gLeav step rest) (mF k c gl lo li gh hi hn) (i - (mF k c gl lo li gh hi hn)) m c2 k2 v2) (μ := fun i => i - (mF k c gl lo li gh hi hn)) (fun i H locs ls h ih => ?_) (mE k c gl lo li gh hi hn) ⟨0, c, k, v, lv_sub hl [3, 4, 5, 2, 1, 0] rfl, hP, hS, q3, q2, Nat.le_refl _, rfl⟩
    obtain ⟨m, c2, k2, v2, hl, hP, hS, hi1, hi2, hi3, hv⟩ := h
    have hD : va_D (mA [aM, aA, aB] s.heap.size) [(aM, .inr (3, [.ref aA, .ref aB, .int (nI c2), .int (bI gl), .int (bI gh), .int (bI li), .int (bI hn), .int (bI fl), .int lo, .int hi])), (aA, .inl (cy, 64, .inl k2)), (aB, .inl (cy, 64, .inl v2))] := D_of ndw hAw
    refine lv_iload hx hb dX3_sweep_23 (lv_at hl 5 rfl) ?_
    refine lv_iload_n hx hb dX3_sweep_25 rfl (lv_at hl 3 rfl) ?_
    refine lv_icmp_lt (tgt := 62) hx hb dX3_sweep_26 (by decide) (fun h26 => ?_) (fun h26 => ?_)
    · have hif : i = (mF k c gl lo li gh hi hn) := by rw [Int32.lt_iff_toInt_lt, nI_m1I (by omega), nI_toInt (by omega)] at h26; omega
      have e1 : msT step rest (mF k c gl lo li gh hi hn) (mE k c gl lo li gh hi hn) c k v = (m, c2, k2, v2) := by rw [e0, hv, hif, Nat.sub_self]; rfl
      refine lv_iload hx hb dX3_sweep_62 (lv_at hl 4 rfl) ?_
      exact ret_iM hx hb hr hlocks dX3_sweep_64 hS (by rw [hz, e1]) (by rw [e1]; exact hP)
    · have hlt : (mF k c gl lo li gh hi hn) < i := by rw [Int32.lt_iff_toInt_lt, nI_m1I (by omega), nI_toInt (by omega)] at h26; omega
      have hl : lv_has ls 6 [(0, .ref aM), (1, .int step), (2, .int rest), (3, .int (nI (mF k c gl lo li gh hi hn))), (4, .int (nI m)), (5, .int (nI (i - 1)))] := by rw [← nI_dm (by omega)]; exact hl
      refine lv_aload_n hx hb dX3_sweep_29 rfl (lv_at hl 0 rfl) ?_
      refine va_get (ci := 3) (v := .ref aA) (C := RX3) (T := TX3) (N := 10) hx hb hts hin_X3 hown hK hP 0 rfl rfl 0 (by decide) kf_9 (fun _ h9 => h9) rfl dX3_sweep_30 ?_
      refine lv_iload hx hb dX3_sweep_33 (lv_at hl 5 rfl) ?_
      refine a_ld hx hb hK hP 1 0 rfl rfl (by omega) (by decide) dX3_sweep_35 ?_
      refine lv_iload_n hx hb dX3_sweep_36 rfl (lv_at hl 1 rfl) ?_
      refine go_R (va_runS (As := [.int (k2 (i - 1)), .int step]) (rest := []) ⟨hx, hb, hml, hown, hts⟩ (c_J9_floorMod_7cf53 l D (k2 (i - 1)) step (by intro q; rw [q] at h2; exact absurd h2 (by decide))) (va_cwS 2 hts gX3_sweep_J9_floorMod_7cf53 rfl rfl rfl (by decide +kernel) ⟨(Nat.le_of_ble_eq_true rfl), (Nat.le_of_ble_eq_true rfl)⟩) (preS_W (hK.sub [] rfl) (hP.sub [] rfl)) rfl rfl hl.1 rfl (lv_room (Nat.le_of_ble_eq_true rfl)) dX3_sweep_37 ⟨(Nat.le_of_ble_eq_true rfl), (Nat.le_of_ble_eq_true rfl)⟩) ?_
      refine lv_iload_n hx hb dX3_sweep_40 rfl (lv_at hl 2 rfl) ?_
      refine lv_icmp_eq (tgt := 47) hx hb dX3_sweep_41 (by decide) (fun h41 => ?_) (fun h41 => ?_)
      · have hg : gLeav step rest (k2 (i - 1)) = true := decide_eq_true h41
        refine lv_aload_n hx hb dX3_sweep_47 rfl (lv_at hl 0 rfl) ?_
        refine lv_iload hx hb dX3_sweep_48 (lv_at hl 5 rfl) ?_
        refine go_V (va_runV (As := [.int (nI (i - 1))]) (rest := []) ⟨hx, hb, hml, hown, hts⟩ (c_X3_delete l D cy aM aA aB k2 v2 c2 (by omega) gl gh li hn fl lo hi (by simp; omega) _ (i - 1) (by omega)) (cwV 1 hts gX3_sweep_X3_delete rfl rfl rfl (by decide +kernel) ⟨(Nat.le_of_ble_eq_true rfl), (Nat.le_of_ble_eq_true rfl)⟩) (preV_Z hK (hP.sub [0, 1, 2] rfl) 0 3 rfl rfl) rfl rfl hl.1 rfl (lv_room (Nat.le_of_ble_eq_true rfl)) dX3_sweep_50 ⟨(Nat.le_of_ble_eq_true rfl), (Nat.le_of_ble_eq_true rfl)⟩) hS (fun q h => mA_sub [0, 1, 2] rfl hS.1 h) (fun H1 locs1 hB hzz hk hS => ?_)
        have hP : va_P D vwCl [(aM, .inr (3, [.ref aA, .ref aB, .int (nI (c2 - 1)), .int (bI gl), .int (bI gh), .int (bI li), .int (bI hn), .int (bI fl), .int lo, .int hi])), (aA, .inl (cy, 64, .inl (delA k2 (i - 1) c2))), (aB, .inl (cy, 64, .inl (delA v2 (i - 1) c2)))] H1 := va_P.sub hB [0, 1, 2] rfl
        have hD : va_D (mA [aM, aA, aB] s.heap.size) [(aM, .inr (3, [.ref aA, .ref aB, .int (nI (c2 - 1)), .int (bI gl), .int (bI gh), .int (bI li), .int (bI hn), .int (bI fl), .int lo, .int hi])), (aA, .inl (cy, 64, .inl (delA k2 (i - 1) c2))), (aB, .inl (cy, 64, .inl (delA v2 (i - 1) c2)))] := D_of ndw hAw
        clear hB
        generalize H1 = H at hP hS ⊢
        generalize locs1 = locs at hS ⊢
        refine lv_iinc (v := nI (m + 1)) (lv' := [(4, .int (nI (m + 1))), (0, .ref aM), (1, .int step), (2, .int rest), (3, .int (nI (mF k c gl lo li gh hi hn))), (5, .int (nI (i - 1)))]) hx hb dX3_sweep_53 hl (k := 4) rfl (by first | exact nI_1 _ | exact nI_add _ _) (by decide) rfl (fun ls hl => ?_)
        refine lv_iinc (v := nI (i - 1) - 1) (lv' := [(5, .int (nI (i - 1) - 1)), (4, .int (nI (m + 1))), (0, .ref aM), (1, .int step), (2, .int rest), (3, .int (nI (mF k c gl lo li gh hi hn)))]) hx hb dX3_sweep_56 hl (k := 5) rfl (by rw [Int32.sub_eq_add_neg]; rfl) (by decide) rfl (fun ls hl => ?_)
        refine lv_goto (tgt := 23) hx hb dX3_sweep_59 (by decide) ?_
        exact ih (i - 1) _ _ _ (by omega) ⟨_, _, _, _, lv_sub hl [2, 3, 4, 5, 1, 0] rfl, by exact hP, hS, by omega, by omega, by omega, by rw [hv, swp_s hlt, hg]; rfl⟩
      · have hg : gLeav step rest (k2 (i - 1)) = false := decide_eq_false h41
        refine lv_goto (tgt := 56) hx hb dX3_sweep_44 (by decide) ?_
        refine lv_iinc (v := nI (i - 1) - 1) (lv' := [(5, .int (nI (i - 1) - 1)), (0, .ref aM), (1, .int step), (2, .int rest), (3, .int (nI (mF k c gl lo li gh hi hn))), (4, .int (nI m))]) hx hb dX3_sweep_56 hl (k := 5) rfl (by rw [Int32.sub_eq_add_neg]; rfl) (by decide) rfl (fun ls hl => ?_)
        refine lv_goto (tgt := 23) hx hb dX3_sweep_59 (by decide) ?_
        exact ih (i - 1) _ _ _ (by omega) ⟨_, _, _, _, lv_sub hl [1, 2, 3, 4, 5, 0] rfl, by exact hP, hS, by omega, by omega, by omega, by rw [hv, swp_s hlt, hg]; rfl⟩
  · have h2n : step < 1 := Int32.not_le.mp h2
    have hz : (if step < 1 then (-1) else nI (msT step rest (mF k c gl lo li gh hi hn) (mE k c gl lo li gh hi hn) c k v).1) = (-1) := if_pos h2n
    have e0 : msT step rest (mF k c gl lo li gh hi hn) (mE k c gl lo li gh hi hn) c k v = (0, c, k, v) := if_pos h2n
    refine lv_iconst (v := (-1)) hx hb dX3_sweep_5 (by decide) ?_
    exact ret_iM hx hb hr hlocks dX3_sweep_6 hS (by rw [hz]) (by rw [e0]; exact hP)

set_option maxHeartbeats 4000000 in
set_option maxRecDepth 100000 in
/-- viewClear() -/
theorem c_X3_viewClear (l : Launch) (D : va_G) (cy : ClassId) (aM aA aB : Nat) (k v : Nat → Int32) (c : Nat) (hc : c ≤ 64) (gl gh li hn fl : Bool) (lo hi : Int32) (nd : ([aM, aA, aB] : List Nat).Nodup) (sz : Nat) : Met l yX3_viewClear wsX3_viewClear ({ frames := 3, cells := 0, slots := 0, locals := 63 } : Room) (pcZ D [(cy, .int)] [.ref aM] [(aM, .inr (3, [.ref aA, .ref aB, .int (nI c), .int (bI gl), .int (bI gh), .int (bI li), .int (bI hn), .int (bI fl), .int lo, .int hi])), (aA, .inl (cy, 64, .inl k)), (aB, .inl (cy, 64, .inl v))] sz) (qM (some (.int (nI ((mE k c gl lo li gh hi hn) - (mF k c gl lo li gh hi hn))))) (fun H => va_P D vwCl (mW cy aM aA aB ((vcl (mF k c gl lo li gh hi hn) ((mE k c gl lo li gh hi hn) - (mF k c gl lo li gh hi hn)) c k v).2.1) ((vcl (mF k c gl lo li gh hi hn) ((mE k c gl lo li gh hi hn) - (mF k c gl lo li gh hi hn)) c k v).2.2) ((vcl (mF k c gl lo li gh hi hn) ((mE k c gl lo li gh hi hn) - (mF k c gl lo li gh hi hn)) c k v).1) gl gh li hn fl lo hi) H) (mA [aM, aA, aB] sz)) 0 0 (mA [aM, aA, aB] sz) := by
  refine met_Z (cc := cX3_viewClear) (maxL := 4) (ret := (some .int)) (by decide +kernel) rfl (Nat.le_of_ble_eq_true rfl) ?_
  intro pM eM s mM below meth cM ls hx hb hr hts hown hlocks hml hnm hsz hK hP hl
  have hown : s.vm.findClass RX3 = some mM.cls := hown
  have hl : lv_has ls 4 [(0, .ref aM)] := hl
  have hP : va_P D vwCl [(aM, .inr (3, [.ref aA, .ref aB, .int (nI c), .int (bI gl), .int (bI gh), .int (bI li), .int (bI hn), .int (bI fl), .int lo, .int hi])), (aA, .inl (cy, 64, .inl k)), (aB, .inl (cy, 64, .inl v))] s.heap := hP
  subst hsz
  have ndw := nd
  have hA : ∀ q : Nat, s.heap.size ≤ q → mA [aM, aA, aB] s.heap.size q := fun q h => Or.inr h
  have hAw : ∀ q ∈ ([aM, aA, aB] : List Nat), mA [aM, aA, aB] s.heap.size q := fun q h => Or.inl h
  have hS : va_S (mA [aM, aA, aB] s.heap.size) s.heap s.heap [] := va_S.rf
  have hD : va_D (mA [aM, aA, aB] s.heap.size) [(aM, .inr (3, [.ref aA, .ref aB, .int (nI c), .int (bI gl), .int (bI gh), .int (bI li), .int (bI hn), .int (bI fl), .int lo, .int hi])), (aA, .inl (cy, 64, .inl k)), (aB, .inl (cy, 64, .inl v))] := D_of ndw hAw
  simp only [List.nodup_cons, List.mem_cons, List.not_mem_nil, or_false, not_or, not_false_eq_true, List.nodup_nil, and_true] at nd
  have q1 := mF_le k c gl lo li gh hi hn
  have q2 := mE_le k c gl lo li gh hi hn
  have q3 := mFE k c gl lo li gh hi hn
  refine lv_aload_n hx hb dX3_viewClear_0 rfl (lv_at hl 0 rfl) ?_
  refine go_R (va_runV (As := []) (rest := []) ⟨hx, hb, hml, hown, hts⟩ (c_X3_first l D cy aM aA aB k v c (by omega) gl gh li hn fl lo hi) (cwV 0 hts gX3_viewClear_X3_first rfl rfl rfl (by decide +kernel) ⟨(Nat.le_of_ble_eq_true rfl), (Nat.le_of_ble_eq_true rfl)⟩) (preV_W hK (hP.sub [0, 1, 2] rfl) 0 3 rfl rfl) rfl rfl hl.1 rfl (lv_room (Nat.le_of_ble_eq_true rfl)) dX3_viewClear_1 ⟨(Nat.le_of_ble_eq_true rfl), (Nat.le_of_ble_eq_true rfl)⟩) ?_
  refine lv_istore_n (lv' := [(1, .int (nI (mF k c gl lo li gh hi hn))), (0, .ref aM)]) hx hb dX3_viewClear_4 rfl hl (by decide) rfl (fun ls hl => ?_)
  refine lv_aload_n hx hb dX3_viewClear_5 rfl (lv_at hl 1 rfl) ?_
  refine go_R (va_runV (As := []) (rest := []) ⟨hx, hb, hml, hown, hts⟩ (c_X3_behind l D cy aM aA aB k v c (by omega) gl gh li hn fl lo hi) (cwV 0 hts gX3_viewClear_X3_behind rfl rfl rfl (by decide +kernel) ⟨(Nat.le_of_ble_eq_true rfl), (Nat.le_of_ble_eq_true rfl)⟩) (preV_W hK (hP.sub [0, 1, 2] rfl) 0 3 rfl rfl) rfl rfl hl.1 rfl (lv_room (Nat.le_of_ble_eq_true rfl)) dX3_viewClear_6 ⟨(Nat.le_of_ble_eq_true rfl), (Nat.le_of_ble_eq_true rfl)⟩) ?_
  refine lv_iload_n hx hb dX3_viewClear_9 rfl (lv_at hl 0 rfl) ?_
  refine lv_isub hx hb dX3_viewClear_10 ?_
  refine top_i (y := nI ((mE k c gl lo li gh hi hn) - (mF k c gl lo li gh hi hn))) (pk_sub (by omega)) ?_
  refine lv_istore_n (lv' := [(2, .int (nI ((mE k c gl lo li gh hi hn) - (mF k c gl lo li gh hi hn)))), (1, .int (nI (mF k c gl lo li gh hi hn))), (0, .ref aM)]) hx hb dX3_viewClear_11 rfl hl (by decide) rfl (fun ls hl => ?_)
  refine lv_iconst (v := nI 0) hx hb dX3_viewClear_12 (by decide) ?_
  refine lv_istore_n (lv' := [(3, .int (nI 0)), (2, .int (nI ((mE k c gl lo li gh hi hn) - (mF k c gl lo li gh hi hn)))), (1, .int (nI (mF k c gl lo li gh hi hn))), (0, .ref aM)]) hx hb dX3_viewClear_13 rfl hl (by decide) rfl (fun ls hl => ?_)
  refine W_loop (I := fun (i : Nat) (H : Heap) (locs : List Loc) (ls : Array Slot) => ∃ (c2 : Nat) (k2 : Nat → Int32) (v2 : Nat → Int32), lv_has ls 4 [(0, .ref aM), (1, .int (nI (mF k c gl lo li gh hi hn))), (2, .int (nI (mE k c gl lo li gh hi hn - mF k c gl lo li gh hi hn))), (3, .int (nI i))] ∧ va_P D vwCl [(aM, .inr (3, [.ref aA, .ref aB, .int (nI c2), .int (bI gl), .int (bI gh), .int (bI li), .int (bI hn), .int (bI fl), .int lo, .int hi])), (aA, .inl (cy, 64, .inl k2)), (aB, .inl (cy, 64, .inl v2))] H ∧ va_S (mA [aM, aA, aB] s.heap.size) s.heap H locs ∧ i ≤ (mE k c gl lo li gh hi hn) - (mF k c gl lo li gh hi hn) ∧ c2 + i = c ∧ vcl (mF k c gl lo li gh hi hn) ((mE k c gl lo li gh hi hn) - (mF k c gl lo li gh hi hn)) c k v = vcl (mF k c gl lo li gh hi hn) ((mE k c gl lo li gh hi hn) - (mF k c gl lo li gh hi hn) - i) c2 k2 v2) (μ := fun i => (mE k c gl lo li gh hi hn) - (mF k c gl lo li gh hi hn) - i) (fun i H locs ls h ih => ?_) 0 ⟨c, k, v, lv_sub hl [3, 2, 1, 0] rfl, hP, hS, Nat.zero_le _, rfl, rfl⟩
  obtain ⟨c2, k2, v2, hl, hP, hS, hi1, hi2, hv⟩ := h
  have hD : va_D (mA [aM, aA, aB] s.heap.size) [(aM, .inr (3, [.ref aA, .ref aB, .int (nI c2), .int (bI gl), .int (bI gh), .int (bI li), .int (bI hn), .int (bI fl), .int lo, .int hi])), (aA, .inl (cy, 64, .inl k2)), (aB, .inl (cy, 64, .inl v2))] := D_of ndw hAw
  refine lv_iload_n hx hb dX3_viewClear_14 rfl (lv_at hl 3 rfl) ?_
  refine lv_iload_n hx hb dX3_viewClear_15 rfl (lv_at hl 2 rfl) ?_
  refine n_ge (tgt := 30) (by omega) (by omega) hx hb dX3_viewClear_16 (by decide) (fun h16 => ?_) (fun h16 => ?_)
  · have e1 : vcl (mF k c gl lo li gh hi hn) ((mE k c gl lo li gh hi hn) - (mF k c gl lo li gh hi hn)) c k v = (c2, k2, v2) := by rw [hv, show (mE k c gl lo li gh hi hn) - (mF k c gl lo li gh hi hn) - i = 0 by omega]; rfl
    refine lv_iload_n hx hb dX3_viewClear_30 rfl (lv_at hl 2 rfl) ?_
    exact ret_iM hx hb hr hlocks dX3_viewClear_31 hS (rfl) (by rw [e1]; exact hP)
  · refine lv_aload_n hx hb dX3_viewClear_19 rfl (lv_at hl 0 rfl) ?_
    refine lv_iload_n hx hb dX3_viewClear_20 rfl (lv_at hl 1 rfl) ?_
    refine go_V (va_runV (As := [.int (nI (mF k c gl lo li gh hi hn))]) (rest := []) ⟨hx, hb, hml, hown, hts⟩ (c_X3_delete l D cy aM aA aB k2 v2 c2 (by omega) gl gh li hn fl lo hi (by simp; omega) _ (mF k c gl lo li gh hi hn) (by omega)) (cwV 1 hts gX3_viewClear_X3_delete rfl rfl rfl (by decide +kernel) ⟨(Nat.le_of_ble_eq_true rfl), (Nat.le_of_ble_eq_true rfl)⟩) (preV_Z hK (hP.sub [0, 1, 2] rfl) 0 3 rfl rfl) rfl rfl hl.1 rfl (lv_room (Nat.le_of_ble_eq_true rfl)) dX3_viewClear_21 ⟨(Nat.le_of_ble_eq_true rfl), (Nat.le_of_ble_eq_true rfl)⟩) hS (fun q h => mA_sub [0, 1, 2] rfl hS.1 h) (fun H1 locs1 hB hzz hk hS => ?_)
    have hP : va_P D vwCl [(aM, .inr (3, [.ref aA, .ref aB, .int (nI (c2 - 1)), .int (bI gl), .int (bI gh), .int (bI li), .int (bI hn), .int (bI fl), .int lo, .int hi])), (aA, .inl (cy, 64, .inl (delA k2 (mF k c gl lo li gh hi hn) c2))), (aB, .inl (cy, 64, .inl (delA v2 (mF k c gl lo li gh hi hn) c2)))] H1 := va_P.sub hB [0, 1, 2] rfl
    have hD : va_D (mA [aM, aA, aB] s.heap.size) [(aM, .inr (3, [.ref aA, .ref aB, .int (nI (c2 - 1)), .int (bI gl), .int (bI gh), .int (bI li), .int (bI hn), .int (bI fl), .int lo, .int hi])), (aA, .inl (cy, 64, .inl (delA k2 (mF k c gl lo li gh hi hn) c2))), (aB, .inl (cy, 64, .inl (delA v2 (mF k c gl lo li gh hi hn) c2)))] := D_of ndw hAw
    clear hB
    generalize H1 = H at hP hS ⊢
    generalize locs1 = locs at hS ⊢
    refine lv_iinc (v := nI (i + 1)) (lv' := [(3, .int (nI (i + 1))), (0, .ref aM), (1, .int (nI (mF k c gl lo li gh hi hn))), (2, .int (nI (mE k c gl lo li gh hi hn - mF k c gl lo li gh hi hn)))]) hx hb dX3_viewClear_24 hl (k := 3) rfl (by first | exact nI_1 _ | exact nI_add _ _) (by decide) rfl (fun ls hl => ?_)
    refine lv_goto (tgt := 14) hx hb dX3_viewClear_27 (by decide) ?_
    exact ih (i + 1) _ _ _ (by omega) ⟨_, _, _, lv_sub hl [1, 2, 3, 0] rfl, by exact hP, hS, by omega, by omega, by rw [hv, vcl_s h16]⟩

set_option maxHeartbeats 4000000 in
set_option maxRecDepth 100000 in
/-- turn() -/
theorem c_X3_turn (l : Launch) (D : va_G) (cy : ClassId) (aM aA aB : Nat) (k v : Nat → Int32) (c : Nat) (hc : c ≤ 64) (gl gh li hn fl : Bool) (lo hi : Int32) (nd : ([aM, aA, aB] : List Nat).Nodup) (sz : Nat) : Met l yX3_turn wsX3_turn ({ frames := 4, cells := 0, slots := 0, locals := 83 } : Room) (pcZ D [(cy, .int)] [.ref aM] [(aM, .inr (3, [.ref aA, .ref aB, .int (nI c), .int (bI gl), .int (bI gh), .int (bI li), .int (bI hn), .int (bI fl), .int lo, .int hi])), (aA, .inl (cy, 64, .inl k)), (aB, .inl (cy, 64, .inl v))] sz) (qM (some (.int (nI ((mE k c gl lo li gh hi hn) - (mF k c gl lo li gh hi hn))))) (fun H => va_P D vwCl (mW cy aM aA aB k v c gl gh li hn (!fl) lo hi) H) (mA [aM, aA, aB] sz)) 0 0 (mA [aM, aA, aB] sz) := by
  refine met_Z (cc := cX3_turn) (maxL := 1) (ret := (some .int)) (by decide +kernel) rfl (Nat.le_of_ble_eq_true rfl) ?_
  intro pM eM s mM below meth cM ls hx hb hr hts hown hlocks hml hnm hsz hK hP hl
  have hown : s.vm.findClass RX3 = some mM.cls := hown
  have hl : lv_has ls 1 [(0, .ref aM)] := hl
  have hin_X3 : ∀ w ∈ wsX30, w ∈ wsX3_turn := by decide +kernel
  have kf_59 := hts (.fieldLink RX3 59 "OrderedDeskModel" "falls" "Z") (by decide +kernel)
  have hP : va_P D vwCl [(aM, .inr (3, [.ref aA, .ref aB, .int (nI c), .int (bI gl), .int (bI gh), .int (bI li), .int (bI hn), .int (bI fl), .int lo, .int hi])), (aA, .inl (cy, 64, .inl k)), (aB, .inl (cy, 64, .inl v))] s.heap := hP
  subst hsz
  have ndw := nd
  have hA : ∀ q : Nat, s.heap.size ≤ q → mA [aM, aA, aB] s.heap.size q := fun q h => Or.inr h
  have hAw : ∀ q ∈ ([aM, aA, aB] : List Nat), mA [aM, aA, aB] s.heap.size q := fun q h => Or.inl h
  have hS : va_S (mA [aM, aA, aB] s.heap.size) s.heap s.heap [] := va_S.rf
  have hD : va_D (mA [aM, aA, aB] s.heap.size) [(aM, .inr (3, [.ref aA, .ref aB, .int (nI c), .int (bI gl), .int (bI gh), .int (bI li), .int (bI hn), .int (bI fl), .int lo, .int hi])), (aA, .inl (cy, 64, .inl k)), (aB, .inl (cy, 64, .inl v))] := D_of ndw hAw
  simp only [List.nodup_cons, List.mem_cons, List.not_mem_nil, or_false, not_or, not_false_eq_true, List.nodup_nil, and_true] at nd
  have q1 := mF_le k c gl lo li gh hi hn
  have q2 := mE_le k c gl lo li gh hi hn
  have q3 := mFE k c gl lo li gh hi hn
  refine lv_aload_n hx hb dX3_turn_0 rfl (lv_at hl 0 rfl) ?_
  refine lv_aload_n hx hb dX3_turn_1 rfl (lv_at hl 0 rfl) ?_
  refine va_get (ci := 3) (v := .int (bI fl)) (C := RX3) (T := TX3) (N := 10) hx hb hts hin_X3 hown hK hP 0 rfl rfl 7 (by decide) kf_59 (fun _ h9 => h9) rfl dX3_turn_2 ?_
  refine lv_not (tgt := 12) (J := 13) hx hb dX3_turn_5 (by decide) dX3_turn_8 dX3_turn_9 (by decide) dX3_turn_12 rfl ?_
  refine va_put (ci := 3) (v := .int (bI (!fl))) (ty := .boolean) (C := RX3) (T := TX3) (N := 10) hx hb hts hin_X3 tyX3 tyX3_ok nmX3 hown hK hP hD hS 0 rfl rfl 7 (by decide) kf_59 (fun _ h9 => h9) rfl (by decide +kernel) (bI_nar _) (bI_fit _) (Nat.le_of_ble_eq_true rfl) dX3_turn_13 (fun H locs hP hD hS => ?_)
  have hP : va_P D vwCl [(aM, .inr (3, [.ref aA, .ref aB, .int (nI c), .int (bI gl), .int (bI gh), .int (bI li), .int (bI hn), .int (bI (!fl)), .int lo, .int hi])), (aA, .inl (cy, 64, .inl k)), (aB, .inl (cy, 64, .inl v))] H := hP
  have hD : va_D _ [(aM, .inr (3, [.ref aA, .ref aB, .int (nI c), .int (bI gl), .int (bI gh), .int (bI li), .int (bI hn), .int (bI (!fl)), .int lo, .int hi])), (aA, .inl (cy, 64, .inl k)), (aB, .inl (cy, 64, .inl v))] := hD
  refine lv_aload_n hx hb dX3_turn_16 rfl (lv_at hl 0 rfl) ?_
  refine go_R (va_runV (As := []) (rest := []) ⟨hx, hb, hml, hown, hts⟩ (c_X3_viewSize l D cy aM aA aB k v c (by omega) gl gh li hn ((!fl)) lo hi) (cwV 0 hts gX3_turn_X3_viewSize rfl rfl rfl (by decide +kernel) ⟨(Nat.le_of_ble_eq_true rfl), (Nat.le_of_ble_eq_true rfl)⟩) (preV_W hK (hP.sub [0, 1, 2] rfl) 0 3 rfl rfl) rfl rfl hl.1 rfl (lv_room (Nat.le_of_ble_eq_true rfl)) dX3_turn_17 ⟨(Nat.le_of_ble_eq_true rfl), (Nat.le_of_ble_eq_true rfl)⟩) ?_
  exact ret_iM hx hb hr hlocks dX3_turn_20 hS (rfl) (hP)

set_option maxHeartbeats 4000000 in
set_option maxRecDepth 100000 in
/-- look(kind, from, fromIn, to, toIn) -/
theorem c_X3_look (l : Launch) (D : va_G) (cy : ClassId) (aM aA aB : Nat) (k v : Nat → Int32) (c : Nat) (hc : c ≤ 64) (gl gh li hn fl : Bool) (lo hi : Int32) (nd : ([aM, aA, aB] : List Nat).Nodup) (sz : Nat) (kind f : Int32) (fi : Bool) (t : Int32) (ti : Bool) : Met l yX3_look wsX3_look ({ frames := 1, cells := 0, slots := 0, locals := 22 } : Room) (pcZ D [(cy, .int)] [.ref aM, .int kind, .int f, .int (bI fi), .int t, .int (bI ti)] [(aM, .inr (3, [.ref aA, .ref aB, .int (nI c), .int (bI gl), .int (bI gh), .int (bI li), .int (bI hn), .int (bI fl), .int lo, .int hi])), (aA, .inl (cy, 64, .inl k)), (aB, .inl (cy, 64, .inl v))] sz) (qM (some (.int (mLA kind f t))) (fun H => va_P D vwCl (mW cy aM aA aB k v c ((mLS kind f fi t ti gl gh li hn fl lo hi).1) ((mLS kind f fi t ti gl gh li hn fl lo hi).2.1) ((mLS kind f fi t ti gl gh li hn fl lo hi).2.2.1) ((mLS kind f fi t ti gl gh li hn fl lo hi).2.2.2.1) ((mLS kind f fi t ti gl gh li hn fl lo hi).2.2.2.2.1) ((mLS kind f fi t ti gl gh li hn fl lo hi).2.2.2.2.2.1) ((mLS kind f fi t ti gl gh li hn fl lo hi).2.2.2.2.2.2)) H) (mA [aM, aA, aB] sz)) 0 0 (mA [aM, aA, aB] sz) := by
  refine met_Z (cc := cX3_look) (maxL := 6) (ret := (some .int)) (by decide +kernel) rfl (Nat.le_of_ble_eq_true rfl) ?_
  intro pM eM s mM below meth cM ls hx hb hr hts hown hlocks hml hnm hsz hK hP hl
  have hown : s.vm.findClass RX3 = some mM.cls := hown
  have hl : lv_has ls 6 [(0, .ref aM), (1, .int kind), (2, .int f), (3, .int (bI fi)), (4, .int t), (5, .int (bI ti))] := hl
  have hP : va_P D vwCl [(aM, .inr (3, [.ref aA, .ref aB, .int (nI c), .int (bI gl), .int (bI gh), .int (bI li), .int (bI hn), .int (bI fl), .int lo, .int hi])), (aA, .inl (cy, 64, .inl k)), (aB, .inl (cy, 64, .inl v))] s.heap := hP
  subst hsz
  have ndw := nd
  have hA : ∀ q : Nat, s.heap.size ≤ q → mA [aM, aA, aB] s.heap.size q := fun q h => Or.inr h
  have hAw : ∀ q ∈ ([aM, aA, aB] : List Nat), mA [aM, aA, aB] s.heap.size q := fun q h => Or.inl h
  have hS : va_S (mA [aM, aA, aB] s.heap.size) s.heap s.heap [] := va_S.rf
  have hD : va_D (mA [aM, aA, aB] s.heap.size) [(aM, .inr (3, [.ref aA, .ref aB, .int (nI c), .int (bI gl), .int (bI gh), .int (bI li), .int (bI hn), .int (bI fl), .int lo, .int hi])), (aA, .inl (cy, 64, .inl k)), (aB, .inl (cy, 64, .inl v))] := D_of ndw hAw
  simp only [List.nodup_cons, List.mem_cons, List.not_mem_nil, or_false, not_or, not_false_eq_true, List.nodup_nil, and_true] at nd
  refine lv_iload_n hx hb dX3_look_0 rfl (lv_at hl 1 rfl) ?_
  refine lv_if_lt (tgt := 20) hx hb dX3_look_1 (by decide) (fun h1 => ?_) (fun h1 => ?_)
  · refine lv_iconst (v := 1) hx hb dX3_look_20 (by decide) ?_
    have hS2 : mLS kind f fi t ti gl gh li hn fl lo hi = (gl, gh, li, hn, fl, lo, hi) := by unfold mLS; first | rw [if_neg (k_lt h1).1, if_neg (k_lt h1).2.1, if_neg (k_lt h1).2.2.1, if_neg (k_lt h1).2.2.2] | rw [if_neg (k_gt h6).1, if_neg (k_gt h6).2.1, if_neg (k_gt h6).2.2.1, if_neg (k_gt h6).2.2.2]
    have hA2 : mLA kind f t = 1 := by unfold mLA; first | rw [if_neg (k_lt h1).1, if_neg (k_lt h1).2.1, if_neg (k_lt h1).2.2.1, if_neg (k_lt h1).2.2.2] | rw [if_neg (k_gt h6).1, if_neg (k_gt h6).2.1, if_neg (k_gt h6).2.2.1, if_neg (k_gt h6).2.2.2]
    exact ret_iM hx hb hr hlocks dX3_look_21 hS (by rw [hA2]) (by rw [hS2]; exact hP)
  · refine lv_iload_n hx hb dX3_look_4 rfl (lv_at hl 1 rfl) ?_
    refine lv_iconst (v := 3) hx hb dX3_look_5 (by decide) ?_
    refine lv_icmp_gt (tgt := 20) hx hb dX3_look_6 (by decide) (fun h6 => ?_) (fun h6 => ?_)
    · refine lv_iconst (v := 1) hx hb dX3_look_20 (by decide) ?_
      have hS2 : mLS kind f fi t ti gl gh li hn fl lo hi = (gl, gh, li, hn, fl, lo, hi) := by unfold mLS; first | rw [if_neg (k_lt h1).1, if_neg (k_lt h1).2.1, if_neg (k_lt h1).2.2.1, if_neg (k_lt h1).2.2.2] | rw [if_neg (k_gt h6).1, if_neg (k_gt h6).2.1, if_neg (k_gt h6).2.2.1, if_neg (k_gt h6).2.2.2]
      have hA2 : mLA kind f t = 1 := by unfold mLA; first | rw [if_neg (k_lt h1).1, if_neg (k_lt h1).2.1, if_neg (k_lt h1).2.2.1, if_neg (k_lt h1).2.2.2] | rw [if_neg (k_gt h6).1, if_neg (k_gt h6).2.1, if_neg (k_gt h6).2.2.1, if_neg (k_gt h6).2.2.2]
      exact ret_iM hx hb hr hlocks dX3_look_21 hS (by rw [hA2]) (by rw [hS2]; exact hP)
    · rcases pt_k h1 (Int32.not_lt.mp h6) with rfl | rfl | rfl | rfl
      · have hk0 : True := trivial
        refine lv_iload_n hx hb dX3_look_9 rfl (lv_at hl 1 rfl) ?_
        refine lv_iconst (v := 3) hx hb dX3_look_10 (by decide) ?_
        refine lv_icmp_ne (tgt := 22) hx hb dX3_look_11 (by decide) (fun c_3 => ?_) (fun c_3 => ?_)
        · refine lv_aload_n hx hb dX3_look_22 rfl (lv_at hl 0 rfl) ?_
          refine go_V (va_runV (As := []) (rest := []) ⟨hx, hb, hml, hown, hts⟩ (c_X3_all l D cy aM aA aB k v c (by omega) gl gh li hn fl lo hi (by simp; omega) _) (cwV 0 hts gX3_look_X3_all rfl rfl rfl (by decide +kernel) ⟨(Nat.le_of_ble_eq_true rfl), (Nat.le_of_ble_eq_true rfl)⟩) (preV_Z hK (hP.sub [0, 1, 2] rfl) 0 3 rfl rfl) rfl rfl hl.1 rfl (lv_room (Nat.le_of_ble_eq_true rfl)) dX3_look_23 ⟨(Nat.le_of_ble_eq_true rfl), (Nat.le_of_ble_eq_true rfl)⟩) hS (fun q h => mA_sub [0, 1, 2] rfl hS.1 h) (fun H1 locs1 hB hzz hk hS => ?_)
          have hP : va_P D vwCl [(aM, .inr (3, [.ref aA, .ref aB, .int (nI c), .int (bI false), .int (bI false), .int (bI li), .int (bI hn), .int (bI false), .int lo, .int hi])), (aA, .inl (cy, 64, .inl k)), (aB, .inl (cy, 64, .inl v))] H1 := va_P.sub hB [0, 1, 2] rfl
          have hD : va_D (mA [aM, aA, aB] s.heap.size) [(aM, .inr (3, [.ref aA, .ref aB, .int (nI c), .int (bI false), .int (bI false), .int (bI li), .int (bI hn), .int (bI false), .int lo, .int hi])), (aA, .inl (cy, 64, .inl k)), (aB, .inl (cy, 64, .inl v))] := D_of ndw hAw
          clear hB
          generalize H1 = H at hP hS ⊢
          generalize locs1 = locs at hS ⊢
          refine lv_iload_n hx hb dX3_look_26 rfl (lv_at hl 1 rfl) ?_
          refine lv_iconst (v := 1) hx hb dX3_look_27 (by decide) ?_
          refine lv_icmp_le (tgt := 37) hx hb dX3_look_28 (by decide) (fun c_4 => ?_) (fun c_4 => ?_)
          · refine lv_iload_n hx hb dX3_look_37 rfl (lv_at hl 1 rfl) ?_
            refine lv_iconst (v := 1) hx hb dX3_look_38 (by decide) ?_
            refine lv_iand hx hb dX3_look_39 ?_
            refine top_i (y := 0) (by decide) ?_
            refine lv_iconst (v := 1) hx hb dX3_look_40 (by decide) ?_
            refine lv_icmp_ne (tgt := 52) hx hb dX3_look_41 (by decide) (fun c_5 => ?_) (fun c_5 => ?_)
            · refine lv_iconst (v := 0) hx hb dX3_look_52 (by decide) ?_
              have hS2 : mLS 0 f fi t ti gl gh li hn fl lo hi = (false, false, li, hn, false, lo, hi) := by first | (simp [mLS]; done) | (simp [mLS, Int32.not_lt.mpr h17]; done) | (simp [mLS, Int32.not_le.mp h17]; done)
              have hA2 : mLA 0 f t = 0 := by first | (simp [mLA]; done) | (simp [mLA, Int32.not_lt.mpr h17]; done) | (simp [mLA, Int32.not_le.mp h17]; done)
              exact ret_iM hx hb hr hlocks dX3_look_53 hS (by rw [hA2]) (by rw [hS2]; exact hP)
            · exact absurd c_5 (by decide)
          · exact absurd c_4 (by decide)
        · exact absurd c_3 (by decide)
      · have hk0 : True := trivial
        refine lv_iload_n hx hb dX3_look_9 rfl (lv_at hl 1 rfl) ?_
        refine lv_iconst (v := 3) hx hb dX3_look_10 (by decide) ?_
        refine lv_icmp_ne (tgt := 22) hx hb dX3_look_11 (by decide) (fun c_6 => ?_) (fun c_6 => ?_)
        · refine lv_aload_n hx hb dX3_look_22 rfl (lv_at hl 0 rfl) ?_
          refine go_V (va_runV (As := []) (rest := []) ⟨hx, hb, hml, hown, hts⟩ (c_X3_all l D cy aM aA aB k v c (by omega) gl gh li hn fl lo hi (by simp; omega) _) (cwV 0 hts gX3_look_X3_all rfl rfl rfl (by decide +kernel) ⟨(Nat.le_of_ble_eq_true rfl), (Nat.le_of_ble_eq_true rfl)⟩) (preV_Z hK (hP.sub [0, 1, 2] rfl) 0 3 rfl rfl) rfl rfl hl.1 rfl (lv_room (Nat.le_of_ble_eq_true rfl)) dX3_look_23 ⟨(Nat.le_of_ble_eq_true rfl), (Nat.le_of_ble_eq_true rfl)⟩) hS (fun q h => mA_sub [0, 1, 2] rfl hS.1 h) (fun H1 locs1 hB hzz hk hS => ?_)
          have hP : va_P D vwCl [(aM, .inr (3, [.ref aA, .ref aB, .int (nI c), .int (bI false), .int (bI false), .int (bI li), .int (bI hn), .int (bI false), .int lo, .int hi])), (aA, .inl (cy, 64, .inl k)), (aB, .inl (cy, 64, .inl v))] H1 := va_P.sub hB [0, 1, 2] rfl
          have hD : va_D (mA [aM, aA, aB] s.heap.size) [(aM, .inr (3, [.ref aA, .ref aB, .int (nI c), .int (bI false), .int (bI false), .int (bI li), .int (bI hn), .int (bI false), .int lo, .int hi])), (aA, .inl (cy, 64, .inl k)), (aB, .inl (cy, 64, .inl v))] := D_of ndw hAw
          clear hB
          generalize H1 = H at hP hS ⊢
          generalize locs1 = locs at hS ⊢
          refine lv_iload_n hx hb dX3_look_26 rfl (lv_at hl 1 rfl) ?_
          refine lv_iconst (v := 1) hx hb dX3_look_27 (by decide) ?_
          refine lv_icmp_le (tgt := 37) hx hb dX3_look_28 (by decide) (fun c_7 => ?_) (fun c_7 => ?_)
          · refine lv_iload_n hx hb dX3_look_37 rfl (lv_at hl 1 rfl) ?_
            refine lv_iconst (v := 1) hx hb dX3_look_38 (by decide) ?_
            refine lv_iand hx hb dX3_look_39 ?_
            refine top_i (y := 1) (by decide) ?_
            refine lv_iconst (v := 1) hx hb dX3_look_40 (by decide) ?_
            refine lv_icmp_ne (tgt := 52) hx hb dX3_look_41 (by decide) (fun c_8 => ?_) (fun c_8 => ?_)
            · exact absurd c_8 (by decide)
            · refine lv_aload_n hx hb dX3_look_44 rfl (lv_at hl 0 rfl) ?_
              refine lv_iload hx hb dX3_look_45 (lv_at hl 4 rfl) ?_
              refine lv_iload hx hb dX3_look_47 (lv_at hl 5 rfl) ?_
              refine go_V (va_runV (As := [.int t, .int (bI ti)]) (rest := []) ⟨hx, hb, hml, hown, hts⟩ (c_X3_end l D cy aM aA aB k v c (by omega) false false li hn false lo hi (by simp; omega) _ t ti) (cwV 2 hts gX3_look_X3_end rfl rfl rfl (by decide +kernel) ⟨(Nat.le_of_ble_eq_true rfl), (Nat.le_of_ble_eq_true rfl)⟩) (preV_Z hK (hP.sub [0, 1, 2] rfl) 0 3 rfl rfl) rfl rfl hl.1 rfl (lv_room (Nat.le_of_ble_eq_true rfl)) dX3_look_49 ⟨(Nat.le_of_ble_eq_true rfl), (Nat.le_of_ble_eq_true rfl)⟩) hS (fun q h => mA_sub [0, 1, 2] rfl hS.1 h) (fun H1 locs1 hB hzz hk hS => ?_)
              have hP : va_P D vwCl [(aM, .inr (3, [.ref aA, .ref aB, .int (nI c), .int (bI false), .int (bI true), .int (bI li), .int (bI ti), .int (bI false), .int lo, .int t])), (aA, .inl (cy, 64, .inl k)), (aB, .inl (cy, 64, .inl v))] H1 := va_P.sub hB [0, 1, 2] rfl
              have hD : va_D (mA [aM, aA, aB] s.heap.size) [(aM, .inr (3, [.ref aA, .ref aB, .int (nI c), .int (bI false), .int (bI true), .int (bI li), .int (bI ti), .int (bI false), .int lo, .int t])), (aA, .inl (cy, 64, .inl k)), (aB, .inl (cy, 64, .inl v))] := D_of ndw hAw
              clear hB
              generalize H1 = H at hP hS ⊢
              generalize locs1 = locs at hS ⊢
              refine lv_iconst (v := 0) hx hb dX3_look_52 (by decide) ?_
              have hS2 : mLS 1 f fi t ti gl gh li hn fl lo hi = (false, true, li, ti, false, lo, t) := by first | (simp [mLS]; done) | (simp [mLS, Int32.not_lt.mpr h17]; done) | (simp [mLS, Int32.not_le.mp h17]; done)
              have hA2 : mLA 1 f t = 0 := by first | (simp [mLA]; done) | (simp [mLA, Int32.not_lt.mpr h17]; done) | (simp [mLA, Int32.not_le.mp h17]; done)
              exact ret_iM hx hb hr hlocks dX3_look_53 hS (by rw [hA2]) (by rw [hS2]; exact hP)
          · exact absurd c_7 (by decide)
        · exact absurd c_6 (by decide)
      · have hk0 : True := trivial
        refine lv_iload_n hx hb dX3_look_9 rfl (lv_at hl 1 rfl) ?_
        refine lv_iconst (v := 3) hx hb dX3_look_10 (by decide) ?_
        refine lv_icmp_ne (tgt := 22) hx hb dX3_look_11 (by decide) (fun c_9 => ?_) (fun c_9 => ?_)
        · refine lv_aload_n hx hb dX3_look_22 rfl (lv_at hl 0 rfl) ?_
          refine go_V (va_runV (As := []) (rest := []) ⟨hx, hb, hml, hown, hts⟩ (c_X3_all l D cy aM aA aB k v c (by omega) gl gh li hn fl lo hi (by simp; omega) _) (cwV 0 hts gX3_look_X3_all rfl rfl rfl (by decide +kernel) ⟨(Nat.le_of_ble_eq_true rfl), (Nat.le_of_ble_eq_true rfl)⟩) (preV_Z hK (hP.sub [0, 1, 2] rfl) 0 3 rfl rfl) rfl rfl hl.1 rfl (lv_room (Nat.le_of_ble_eq_true rfl)) dX3_look_23 ⟨(Nat.le_of_ble_eq_true rfl), (Nat.le_of_ble_eq_true rfl)⟩) hS (fun q h => mA_sub [0, 1, 2] rfl hS.1 h) (fun H1 locs1 hB hzz hk hS => ?_)
          have hP : va_P D vwCl [(aM, .inr (3, [.ref aA, .ref aB, .int (nI c), .int (bI false), .int (bI false), .int (bI li), .int (bI hn), .int (bI false), .int lo, .int hi])), (aA, .inl (cy, 64, .inl k)), (aB, .inl (cy, 64, .inl v))] H1 := va_P.sub hB [0, 1, 2] rfl
          have hD : va_D (mA [aM, aA, aB] s.heap.size) [(aM, .inr (3, [.ref aA, .ref aB, .int (nI c), .int (bI false), .int (bI false), .int (bI li), .int (bI hn), .int (bI false), .int lo, .int hi])), (aA, .inl (cy, 64, .inl k)), (aB, .inl (cy, 64, .inl v))] := D_of ndw hAw
          clear hB
          generalize H1 = H at hP hS ⊢
          generalize locs1 = locs at hS ⊢
          refine lv_iload_n hx hb dX3_look_26 rfl (lv_at hl 1 rfl) ?_
          refine lv_iconst (v := 1) hx hb dX3_look_27 (by decide) ?_
          refine lv_icmp_le (tgt := 37) hx hb dX3_look_28 (by decide) (fun c_10 => ?_) (fun c_10 => ?_)
          · exact absurd c_10 (by decide)
          · refine lv_aload_n hx hb dX3_look_31 rfl (lv_at hl 0 rfl) ?_
            refine lv_iload_n hx hb dX3_look_32 rfl (lv_at hl 2 rfl) ?_
            refine lv_iload_n hx hb dX3_look_33 rfl (lv_at hl 3 rfl) ?_
            refine go_V (va_runV (As := [.int f, .int (bI fi)]) (rest := []) ⟨hx, hb, hml, hown, hts⟩ (c_X3_begin l D cy aM aA aB k v c (by omega) false false li hn false lo hi (by simp; omega) _ f fi) (cwV 2 hts gX3_look_X3_begin rfl rfl rfl (by decide +kernel) ⟨(Nat.le_of_ble_eq_true rfl), (Nat.le_of_ble_eq_true rfl)⟩) (preV_Z hK (hP.sub [0, 1, 2] rfl) 0 3 rfl rfl) rfl rfl hl.1 rfl (lv_room (Nat.le_of_ble_eq_true rfl)) dX3_look_34 ⟨(Nat.le_of_ble_eq_true rfl), (Nat.le_of_ble_eq_true rfl)⟩) hS (fun q h => mA_sub [0, 1, 2] rfl hS.1 h) (fun H1 locs1 hB hzz hk hS => ?_)
            have hP : va_P D vwCl [(aM, .inr (3, [.ref aA, .ref aB, .int (nI c), .int (bI true), .int (bI false), .int (bI fi), .int (bI hn), .int (bI false), .int f, .int hi])), (aA, .inl (cy, 64, .inl k)), (aB, .inl (cy, 64, .inl v))] H1 := va_P.sub hB [0, 1, 2] rfl
            have hD : va_D (mA [aM, aA, aB] s.heap.size) [(aM, .inr (3, [.ref aA, .ref aB, .int (nI c), .int (bI true), .int (bI false), .int (bI fi), .int (bI hn), .int (bI false), .int f, .int hi])), (aA, .inl (cy, 64, .inl k)), (aB, .inl (cy, 64, .inl v))] := D_of ndw hAw
            clear hB
            generalize H1 = H at hP hS ⊢
            generalize locs1 = locs at hS ⊢
            refine lv_iload_n hx hb dX3_look_37 rfl (lv_at hl 1 rfl) ?_
            refine lv_iconst (v := 1) hx hb dX3_look_38 (by decide) ?_
            refine lv_iand hx hb dX3_look_39 ?_
            refine top_i (y := 0) (by decide) ?_
            refine lv_iconst (v := 1) hx hb dX3_look_40 (by decide) ?_
            refine lv_icmp_ne (tgt := 52) hx hb dX3_look_41 (by decide) (fun c_11 => ?_) (fun c_11 => ?_)
            · refine lv_iconst (v := 0) hx hb dX3_look_52 (by decide) ?_
              have hS2 : mLS 2 f fi t ti gl gh li hn fl lo hi = (true, false, fi, hn, false, f, hi) := by first | (simp [mLS]; done) | (simp [mLS, Int32.not_lt.mpr h17]; done) | (simp [mLS, Int32.not_le.mp h17]; done)
              have hA2 : mLA 2 f t = 0 := by first | (simp [mLA]; done) | (simp [mLA, Int32.not_lt.mpr h17]; done) | (simp [mLA, Int32.not_le.mp h17]; done)
              exact ret_iM hx hb hr hlocks dX3_look_53 hS (by rw [hA2]) (by rw [hS2]; exact hP)
            · exact absurd c_11 (by decide)
        · exact absurd c_9 (by decide)
      · have hk0 : True := trivial
        refine lv_iload_n hx hb dX3_look_9 rfl (lv_at hl 1 rfl) ?_
        refine lv_iconst (v := 3) hx hb dX3_look_10 (by decide) ?_
        refine lv_icmp_ne (tgt := 22) hx hb dX3_look_11 (by decide) (fun c_12 => ?_) (fun c_12 => ?_)
        · exact absurd c_12 (by decide)
        · refine lv_iload_n hx hb dX3_look_14 rfl (lv_at hl 2 rfl) ?_
          refine lv_iload hx hb dX3_look_15 (lv_at hl 4 rfl) ?_
          refine lv_icmp_le (tgt := 22) hx hb dX3_look_17 (by decide) (fun h17 => ?_) (fun h17 => ?_)
          · refine lv_aload_n hx hb dX3_look_22 rfl (lv_at hl 0 rfl) ?_
            refine go_V (va_runV (As := []) (rest := []) ⟨hx, hb, hml, hown, hts⟩ (c_X3_all l D cy aM aA aB k v c (by omega) gl gh li hn fl lo hi (by simp; omega) _) (cwV 0 hts gX3_look_X3_all rfl rfl rfl (by decide +kernel) ⟨(Nat.le_of_ble_eq_true rfl), (Nat.le_of_ble_eq_true rfl)⟩) (preV_Z hK (hP.sub [0, 1, 2] rfl) 0 3 rfl rfl) rfl rfl hl.1 rfl (lv_room (Nat.le_of_ble_eq_true rfl)) dX3_look_23 ⟨(Nat.le_of_ble_eq_true rfl), (Nat.le_of_ble_eq_true rfl)⟩) hS (fun q h => mA_sub [0, 1, 2] rfl hS.1 h) (fun H1 locs1 hB hzz hk hS => ?_)
            have hP : va_P D vwCl [(aM, .inr (3, [.ref aA, .ref aB, .int (nI c), .int (bI false), .int (bI false), .int (bI li), .int (bI hn), .int (bI false), .int lo, .int hi])), (aA, .inl (cy, 64, .inl k)), (aB, .inl (cy, 64, .inl v))] H1 := va_P.sub hB [0, 1, 2] rfl
            have hD : va_D (mA [aM, aA, aB] s.heap.size) [(aM, .inr (3, [.ref aA, .ref aB, .int (nI c), .int (bI false), .int (bI false), .int (bI li), .int (bI hn), .int (bI false), .int lo, .int hi])), (aA, .inl (cy, 64, .inl k)), (aB, .inl (cy, 64, .inl v))] := D_of ndw hAw
            clear hB
            generalize H1 = H at hP hS ⊢
            generalize locs1 = locs at hS ⊢
            refine lv_iload_n hx hb dX3_look_26 rfl (lv_at hl 1 rfl) ?_
            refine lv_iconst (v := 1) hx hb dX3_look_27 (by decide) ?_
            refine lv_icmp_le (tgt := 37) hx hb dX3_look_28 (by decide) (fun c_14 => ?_) (fun c_14 => ?_)
            · exact absurd c_14 (by decide)
            · refine lv_aload_n hx hb dX3_look_31 rfl (lv_at hl 0 rfl) ?_
              refine lv_iload_n hx hb dX3_look_32 rfl (lv_at hl 2 rfl) ?_
              refine lv_iload_n hx hb dX3_look_33 rfl (lv_at hl 3 rfl) ?_
              refine go_V (va_runV (As := [.int f, .int (bI fi)]) (rest := []) ⟨hx, hb, hml, hown, hts⟩ (c_X3_begin l D cy aM aA aB k v c (by omega) false false li hn false lo hi (by simp; omega) _ f fi) (cwV 2 hts gX3_look_X3_begin rfl rfl rfl (by decide +kernel) ⟨(Nat.le_of_ble_eq_true rfl), (Nat.le_of_ble_eq_true rfl)⟩) (preV_Z hK (hP.sub [0, 1, 2] rfl) 0 3 rfl rfl) rfl rfl hl.1 rfl (lv_room (Nat.le_of_ble_eq_true rfl)) dX3_look_34 ⟨(Nat.le_of_ble_eq_true rfl), (Nat.le_of_ble_eq_true rfl)⟩) hS (fun q h => mA_sub [0, 1, 2] rfl hS.1 h) (fun H1 locs1 hB hzz hk hS => ?_)
              have hP : va_P D vwCl [(aM, .inr (3, [.ref aA, .ref aB, .int (nI c), .int (bI true), .int (bI false), .int (bI fi), .int (bI hn), .int (bI false), .int f, .int hi])), (aA, .inl (cy, 64, .inl k)), (aB, .inl (cy, 64, .inl v))] H1 := va_P.sub hB [0, 1, 2] rfl
              have hD : va_D (mA [aM, aA, aB] s.heap.size) [(aM, .inr (3, [.ref aA, .ref aB, .int (nI c), .int (bI true), .int (bI false), .int (bI fi), .int (bI hn), .int (bI false), .int f, .int hi])), (aA, .inl (cy, 64, .inl k)), (aB, .inl (cy, 64, .inl v))] := D_of ndw hAw
              clear hB
              generalize H1 = H at hP hS ⊢
              generalize locs1 = locs at hS ⊢
              refine lv_iload_n hx hb dX3_look_37 rfl (lv_at hl 1 rfl) ?_
              refine lv_iconst (v := 1) hx hb dX3_look_38 (by decide) ?_
              refine lv_iand hx hb dX3_look_39 ?_
              refine top_i (y := 1) (by decide) ?_
              refine lv_iconst (v := 1) hx hb dX3_look_40 (by decide) ?_
              refine lv_icmp_ne (tgt := 52) hx hb dX3_look_41 (by decide) (fun c_15 => ?_) (fun c_15 => ?_)
              · exact absurd c_15 (by decide)
              · refine lv_aload_n hx hb dX3_look_44 rfl (lv_at hl 0 rfl) ?_
                refine lv_iload hx hb dX3_look_45 (lv_at hl 4 rfl) ?_
                refine lv_iload hx hb dX3_look_47 (lv_at hl 5 rfl) ?_
                refine go_V (va_runV (As := [.int t, .int (bI ti)]) (rest := []) ⟨hx, hb, hml, hown, hts⟩ (c_X3_end l D cy aM aA aB k v c (by omega) true false fi hn false f hi (by simp; omega) _ t ti) (cwV 2 hts gX3_look_X3_end rfl rfl rfl (by decide +kernel) ⟨(Nat.le_of_ble_eq_true rfl), (Nat.le_of_ble_eq_true rfl)⟩) (preV_Z hK (hP.sub [0, 1, 2] rfl) 0 3 rfl rfl) rfl rfl hl.1 rfl (lv_room (Nat.le_of_ble_eq_true rfl)) dX3_look_49 ⟨(Nat.le_of_ble_eq_true rfl), (Nat.le_of_ble_eq_true rfl)⟩) hS (fun q h => mA_sub [0, 1, 2] rfl hS.1 h) (fun H1 locs1 hB hzz hk hS => ?_)
                have hP : va_P D vwCl [(aM, .inr (3, [.ref aA, .ref aB, .int (nI c), .int (bI true), .int (bI true), .int (bI fi), .int (bI ti), .int (bI false), .int f, .int t])), (aA, .inl (cy, 64, .inl k)), (aB, .inl (cy, 64, .inl v))] H1 := va_P.sub hB [0, 1, 2] rfl
                have hD : va_D (mA [aM, aA, aB] s.heap.size) [(aM, .inr (3, [.ref aA, .ref aB, .int (nI c), .int (bI true), .int (bI true), .int (bI fi), .int (bI ti), .int (bI false), .int f, .int t])), (aA, .inl (cy, 64, .inl k)), (aB, .inl (cy, 64, .inl v))] := D_of ndw hAw
                clear hB
                generalize H1 = H at hP hS ⊢
                generalize locs1 = locs at hS ⊢
                refine lv_iconst (v := 0) hx hb dX3_look_52 (by decide) ?_
                have hS2 : mLS 3 f fi t ti gl gh li hn fl lo hi = (true, true, fi, ti, false, f, t) := by first | (simp [mLS]; done) | (simp [mLS, Int32.not_lt.mpr h17]; done) | (simp [mLS, Int32.not_le.mp h17]; done)
                have hA2 : mLA 3 f t = 0 := by first | (simp [mLA]; done) | (simp [mLA, Int32.not_lt.mpr h17]; done) | (simp [mLA, Int32.not_le.mp h17]; done)
                exact ret_iM hx hb hr hlocks dX3_look_53 hS (by rw [hA2]) (by rw [hS2]; exact hP)
          · refine lv_iconst (v := 1) hx hb dX3_look_20 (by decide) ?_
            have hS2 : mLS 3 f fi t ti gl gh li hn fl lo hi = (gl, gh, li, hn, fl, lo, hi) := by first | (simp [mLS]; done) | (simp [mLS, Int32.not_lt.mpr h17]; done) | (simp [mLS, Int32.not_le.mp h17]; done)
            have hA2 : mLA 3 f t = 1 := by first | (simp [mLA]; done) | (simp [mLA, Int32.not_lt.mpr h17]; done) | (simp [mLA, Int32.not_le.mp h17]; done)
            exact ret_iM hx hb hr hlocks dX3_look_21 hS (by rw [hA2]) (by rw [hS2]; exact hP)

set_option maxHeartbeats 4000000 in
set_option maxRecDepth 100000 in
/-- narrow(kind, from, fromIn, to, toIn) -/
theorem c_X3_narrow (l : Launch) (D : va_G) (cy : ClassId) (aM aA aB : Nat) (k v : Nat → Int32) (c : Nat) (hc : c ≤ 64) (gl gh li hn fl : Bool) (lo hi : Int32) (nd : ([aM, aA, aB] : List Nat).Nodup) (sz : Nat) (kind f : Int32) (fi : Bool) (t : Int32) (ti : Bool) : Met l yX3_narrow wsX3_narrow ({ frames := 2, cells := 0, slots := 0, locals := 43 } : Room) (pcZ D [(cy, .int)] [.ref aM, .int kind, .int f, .int (bI fi), .int t, .int (bI ti)] [(aM, .inr (3, [.ref aA, .ref aB, .int (nI c), .int (bI gl), .int (bI gh), .int (bI li), .int (bI hn), .int (bI fl), .int lo, .int hi])), (aA, .inl (cy, 64, .inl k)), (aB, .inl (cy, 64, .inl v))] sz) (qM (some (.int (mNA kind f fi t ti gl gh li hn fl lo hi))) (fun H => va_P D vwCl (mW cy aM aA aB k v c ((mNS kind f fi t ti gl gh li hn fl lo hi).1) ((mNS kind f fi t ti gl gh li hn fl lo hi).2.1) ((mNS kind f fi t ti gl gh li hn fl lo hi).2.2.1) ((mNS kind f fi t ti gl gh li hn fl lo hi).2.2.2.1) ((mNS kind f fi t ti gl gh li hn fl lo hi).2.2.2.2.1) ((mNS kind f fi t ti gl gh li hn fl lo hi).2.2.2.2.2.1) ((mNS kind f fi t ti gl gh li hn fl lo hi).2.2.2.2.2.2)) H) (mA [aM, aA, aB] sz)) 0 0 (mA [aM, aA, aB] sz) := by
  refine met_Z (cc := cX3_narrow) (maxL := 6) (ret := (some .int)) (by decide +kernel) rfl (Nat.le_of_ble_eq_true rfl) ?_
  intro pM eM s mM below meth cM ls hx hb hr hts hown hlocks hml hnm hsz hK hP hl
  have hown : s.vm.findClass RX3 = some mM.cls := hown
  have hl : lv_has ls 6 [(0, .ref aM), (1, .int kind), (2, .int f), (3, .int (bI fi)), (4, .int t), (5, .int (bI ti))] := hl
  have hin_X3 : ∀ w ∈ wsX30, w ∈ wsX3_narrow := by decide +kernel
  have kf_59 := hts (.fieldLink RX3 59 "OrderedDeskModel" "falls" "Z") (by decide +kernel)
  have hP : va_P D vwCl [(aM, .inr (3, [.ref aA, .ref aB, .int (nI c), .int (bI gl), .int (bI gh), .int (bI li), .int (bI hn), .int (bI fl), .int lo, .int hi])), (aA, .inl (cy, 64, .inl k)), (aB, .inl (cy, 64, .inl v))] s.heap := hP
  subst hsz
  have ndw := nd
  have hA : ∀ q : Nat, s.heap.size ≤ q → mA [aM, aA, aB] s.heap.size q := fun q h => Or.inr h
  have hAw : ∀ q ∈ ([aM, aA, aB] : List Nat), mA [aM, aA, aB] s.heap.size q := fun q h => Or.inl h
  have hS : va_S (mA [aM, aA, aB] s.heap.size) s.heap s.heap [] := va_S.rf
  have hD : va_D (mA [aM, aA, aB] s.heap.size) [(aM, .inr (3, [.ref aA, .ref aB, .int (nI c), .int (bI gl), .int (bI gh), .int (bI li), .int (bI hn), .int (bI fl), .int lo, .int hi])), (aA, .inl (cy, 64, .inl k)), (aB, .inl (cy, 64, .inl v))] := D_of ndw hAw
  simp only [List.nodup_cons, List.mem_cons, List.not_mem_nil, or_false, not_or, not_false_eq_true, List.nodup_nil, and_true] at nd
  refine lv_iload_n hx hb dX3_narrow_0 rfl (lv_at hl 1 rfl) ?_
  refine lv_if_lt (tgt := 41) hx hb dX3_narrow_1 (by decide) (fun h1 => ?_) (fun h1 => ?_)
  · refine lv_iconst (v := 1) hx hb dX3_narrow_41 (by decide) ?_
    have hS2 : mNS kind f fi t ti gl gh li hn fl lo hi = (gl, gh, li, hn, fl, lo, hi) := by unfold mNS; first | rw [if_neg (k_lt h1).1, if_neg (k_lt h1).2.1, if_neg (k_lt h1).2.2.1, if_neg (k_lt h1).2.2.2] | rw [if_neg (k_gt h6).1, if_neg (k_gt h6).2.1, if_neg (k_gt h6).2.2.1, if_neg (k_gt h6).2.2.2]
    have hA2 : mNA kind f fi t ti gl gh li hn fl lo hi = 1 := by unfold mNA; first | rw [if_neg (k_lt h1).1, if_neg (k_lt h1).2.1, if_neg (k_lt h1).2.2.1, if_neg (k_lt h1).2.2.2] | rw [if_neg (k_gt h6).1, if_neg (k_gt h6).2.1, if_neg (k_gt h6).2.2.1, if_neg (k_gt h6).2.2.2]
    exact ret_iM hx hb hr hlocks dX3_narrow_42 hS (by rw [hA2]) (by rw [hS2]; exact hP)
  · refine lv_iload_n hx hb dX3_narrow_4 rfl (lv_at hl 1 rfl) ?_
    refine lv_iconst (v := 3) hx hb dX3_narrow_5 (by decide) ?_
    refine lv_icmp_gt (tgt := 41) hx hb dX3_narrow_6 (by decide) (fun h6 => ?_) (fun h6 => ?_)
    · refine lv_iconst (v := 1) hx hb dX3_narrow_41 (by decide) ?_
      have hS2 : mNS kind f fi t ti gl gh li hn fl lo hi = (gl, gh, li, hn, fl, lo, hi) := by unfold mNS; first | rw [if_neg (k_lt h1).1, if_neg (k_lt h1).2.1, if_neg (k_lt h1).2.2.1, if_neg (k_lt h1).2.2.2] | rw [if_neg (k_gt h6).1, if_neg (k_gt h6).2.1, if_neg (k_gt h6).2.2.1, if_neg (k_gt h6).2.2.2]
      have hA2 : mNA kind f fi t ti gl gh li hn fl lo hi = 1 := by unfold mNA; first | rw [if_neg (k_lt h1).1, if_neg (k_lt h1).2.1, if_neg (k_lt h1).2.2.1, if_neg (k_lt h1).2.2.2] | rw [if_neg (k_gt h6).1, if_neg (k_gt h6).2.1, if_neg (k_gt h6).2.2.1, if_neg (k_gt h6).2.2.2]
      exact ret_iM hx hb hr hlocks dX3_narrow_42 hS (by rw [hA2]) (by rw [hS2]; exact hP)
    · rcases pt_k h1 (Int32.not_lt.mp h6) with rfl | rfl | rfl | rfl
      · have hk0 : True := trivial
        refine lv_iload_n hx hb dX3_narrow_9 rfl (lv_at hl 1 rfl) ?_
        refine lv_iconst (v := 1) hx hb dX3_narrow_10 (by decide) ?_
        refine lv_icmp_le (tgt := 23) hx hb dX3_narrow_11 (by decide) (fun c_3 => ?_) (fun c_3 => ?_)
        · refine lv_iload_n hx hb dX3_narrow_23 rfl (lv_at hl 1 rfl) ?_
          refine lv_iconst (v := 1) hx hb dX3_narrow_24 (by decide) ?_
          refine lv_iand hx hb dX3_narrow_25 ?_
          refine top_i (y := 0) (by decide) ?_
          refine lv_iconst (v := 1) hx hb dX3_narrow_26 (by decide) ?_
          refine lv_icmp_ne (tgt := 43) hx hb dX3_narrow_27 (by decide) (fun c_4 => ?_) (fun c_4 => ?_)
          · refine lv_iload_n hx hb dX3_narrow_43 rfl (lv_at hl 1 rfl) ?_
            refine lv_iconst (v := 3) hx hb dX3_narrow_44 (by decide) ?_
            refine lv_icmp_ne (tgt := 72) hx hb dX3_narrow_45 (by decide) (fun c_5 => ?_) (fun c_5 => ?_)
            · refine lv_iload_n hx hb dX3_narrow_72 rfl (lv_at hl 1 rfl) ?_
              refine lv_iconst (v := 1) hx hb dX3_narrow_73 (by decide) ?_
              refine lv_icmp_le (tgt := 93) hx hb dX3_narrow_74 (by decide) (fun c_6 => ?_) (fun c_6 => ?_)
              · refine lv_iload_n hx hb dX3_narrow_93 rfl (lv_at hl 1 rfl) ?_
                refine lv_iconst (v := 1) hx hb dX3_narrow_94 (by decide) ?_
                refine lv_icmp_le (tgt := 104) hx hb dX3_narrow_95 (by decide) (fun c_7 => ?_) (fun c_7 => ?_)
                · refine lv_iload_n hx hb dX3_narrow_104 rfl (lv_at hl 1 rfl) ?_
                  refine lv_iconst (v := 1) hx hb dX3_narrow_105 (by decide) ?_
                  refine lv_iand hx hb dX3_narrow_106 ?_
                  refine top_i (y := 0) (by decide) ?_
                  refine lv_iconst (v := 1) hx hb dX3_narrow_107 (by decide) ?_
                  refine lv_icmp_ne (tgt := 129) hx hb dX3_narrow_108 (by decide) (fun c_8 => ?_) (fun c_8 => ?_)
                  · refine lv_iload_n hx hb dX3_narrow_129 rfl (lv_at hl 1 rfl) ?_
                    refine lv_iconst (v := 1) hx hb dX3_narrow_130 (by decide) ?_
                    refine lv_iand hx hb dX3_narrow_131 ?_
                    refine top_i (y := 0) (by decide) ?_
                    refine lv_iconst (v := 1) hx hb dX3_narrow_132 (by decide) ?_
                    refine lv_icmp_ne (tgt := 144) hx hb dX3_narrow_133 (by decide) (fun c_9 => ?_) (fun c_9 => ?_)
                    · refine lv_iconst (v := 0) hx hb dX3_narrow_144 (by decide) ?_
                      have hS2 : mNS 0 f fi t ti gl gh li hn fl lo hi = (gl, gh, li, hn, fl, lo, hi) := by first | (simp [mNS]; done) | (simp [mNS, hf]; done) | (simp [mNS, ht1]; done) | (simp [mNS, hf, hfl]; done) | (simp [mNS, ht1, hfl]; done) | (simp [mNS, hf, ht1]; done) | (simp [mNS, hf, ht1, hfl, Int32.not_lt.mpr hft]; done) | (simp [mNS, hf, ht1, hfl, Int32.not_le.mp hft]; done)
                      have hA2 : mNA 0 f fi t ti gl gh li hn fl lo hi = 0 := by first | (simp [mNA]; done) | (simp [mNA, hf]; done) | (simp [mNA, ht1]; done) | (simp [mNA, hf, hfl]; done) | (simp [mNA, ht1, hfl]; done) | (simp [mNA, hf, ht1]; done) | (simp [mNA, hf, ht1, hfl, Int32.not_lt.mpr hft]; done) | (simp [mNA, hf, ht1, hfl, Int32.not_le.mp hft]; done)
                      exact ret_iM hx hb hr hlocks dX3_narrow_145 hS (by rw [hA2]) (by rw [hS2]; exact hP)
                    · exact absurd c_9 (by decide)
                  · exact absurd c_8 (by decide)
                · exact absurd c_7 (by decide)
              · exact absurd c_6 (by decide)
            · exact absurd c_5 (by decide)
          · exact absurd c_4 (by decide)
        · exact absurd c_3 (by decide)
      · have hk0 : True := trivial
        refine lv_iload_n hx hb dX3_narrow_9 rfl (lv_at hl 1 rfl) ?_
        refine lv_iconst (v := 1) hx hb dX3_narrow_10 (by decide) ?_
        refine lv_icmp_le (tgt := 23) hx hb dX3_narrow_11 (by decide) (fun c_10 => ?_) (fun c_10 => ?_)
        · refine lv_iload_n hx hb dX3_narrow_23 rfl (lv_at hl 1 rfl) ?_
          refine lv_iconst (v := 1) hx hb dX3_narrow_24 (by decide) ?_
          refine lv_iand hx hb dX3_narrow_25 ?_
          refine top_i (y := 1) (by decide) ?_
          refine lv_iconst (v := 1) hx hb dX3_narrow_26 (by decide) ?_
          refine lv_icmp_ne (tgt := 43) hx hb dX3_narrow_27 (by decide) (fun c_11 => ?_) (fun c_11 => ?_)
          · exact absurd c_11 (by decide)
          · refine lv_aload_n hx hb dX3_narrow_30 rfl (lv_at hl 0 rfl) ?_
            refine lv_iload hx hb dX3_narrow_31 (lv_at hl 4 rfl) ?_
            refine lv_iload hx hb dX3_narrow_33 (lv_at hl 5 rfl) ?_
            refine go_R (va_runV (As := [.int t, .int (bI ti)]) (rest := []) ⟨hx, hb, hml, hown, hts⟩ (c_X3_mayEnd l D cy aM aA aB k v c (by omega) gl gh li hn fl lo hi t ti) (cwV 2 hts gX3_narrow_X3_mayEnd rfl rfl rfl (by decide +kernel) ⟨(Nat.le_of_ble_eq_true rfl), (Nat.le_of_ble_eq_true rfl)⟩) (preV_W hK (hP.sub [0, 1, 2] rfl) 0 3 rfl rfl) rfl rfl hl.1 rfl (lv_room (Nat.le_of_ble_eq_true rfl)) dX3_narrow_35 ⟨(Nat.le_of_ble_eq_true rfl), (Nat.le_of_ble_eq_true rfl)⟩) ?_
            refine b_ne (tgt := 43) hx hb dX3_narrow_38 (by decide) (fun ht1 => ?_) (fun ht1 => ?_)
            · refine lv_iload_n hx hb dX3_narrow_43 rfl (lv_at hl 1 rfl) ?_
              refine lv_iconst (v := 3) hx hb dX3_narrow_44 (by decide) ?_
              refine lv_icmp_ne (tgt := 72) hx hb dX3_narrow_45 (by decide) (fun c_13 => ?_) (fun c_13 => ?_)
              · refine lv_iload_n hx hb dX3_narrow_72 rfl (lv_at hl 1 rfl) ?_
                refine lv_iconst (v := 1) hx hb dX3_narrow_73 (by decide) ?_
                refine lv_icmp_le (tgt := 93) hx hb dX3_narrow_74 (by decide) (fun c_14 => ?_) (fun c_14 => ?_)
                · refine lv_iload_n hx hb dX3_narrow_93 rfl (lv_at hl 1 rfl) ?_
                  refine lv_iconst (v := 1) hx hb dX3_narrow_94 (by decide) ?_
                  refine lv_icmp_le (tgt := 104) hx hb dX3_narrow_95 (by decide) (fun c_15 => ?_) (fun c_15 => ?_)
                  · refine lv_iload_n hx hb dX3_narrow_104 rfl (lv_at hl 1 rfl) ?_
                    refine lv_iconst (v := 1) hx hb dX3_narrow_105 (by decide) ?_
                    refine lv_iand hx hb dX3_narrow_106 ?_
                    refine top_i (y := 1) (by decide) ?_
                    refine lv_iconst (v := 1) hx hb dX3_narrow_107 (by decide) ?_
                    refine lv_icmp_ne (tgt := 129) hx hb dX3_narrow_108 (by decide) (fun c_16 => ?_) (fun c_16 => ?_)
                    · exact absurd c_16 (by decide)
                    · refine lv_aload_n hx hb dX3_narrow_111 rfl (lv_at hl 0 rfl) ?_
                      refine va_get (ci := 3) (v := .int (bI fl)) (C := RX3) (T := TX3) (N := 10) hx hb hts hin_X3 hown hK hP 0 rfl rfl 7 (by decide) kf_59 (fun _ h9 => h9) rfl dX3_narrow_112 ?_
                      refine b_eq (tgt := 129) hx hb dX3_narrow_115 (by decide) (fun c_17 => ?_) (fun c_17 => ?_)
                      · have hfl := c_17
                        refine lv_iload_n hx hb dX3_narrow_129 rfl (lv_at hl 1 rfl) ?_
                        refine lv_iconst (v := 1) hx hb dX3_narrow_130 (by decide) ?_
                        refine lv_iand hx hb dX3_narrow_131 ?_
                        refine top_i (y := 1) (by decide) ?_
                        refine lv_iconst (v := 1) hx hb dX3_narrow_132 (by decide) ?_
                        refine lv_icmp_ne (tgt := 144) hx hb dX3_narrow_133 (by decide) (fun c_18 => ?_) (fun c_18 => ?_)
                        · exact absurd c_18 (by decide)
                        · refine lv_aload_n hx hb dX3_narrow_136 rfl (lv_at hl 0 rfl) ?_
                          refine lv_iload hx hb dX3_narrow_137 (lv_at hl 4 rfl) ?_
                          refine lv_iload hx hb dX3_narrow_139 (lv_at hl 5 rfl) ?_
                          refine go_V (va_runV (As := [.int t, .int (bI ti)]) (rest := []) ⟨hx, hb, hml, hown, hts⟩ (c_X3_end l D cy aM aA aB k v c (by omega) gl gh li hn fl lo hi (by simp; omega) _ t ti) (cwV 2 hts gX3_narrow_X3_end rfl rfl rfl (by decide +kernel) ⟨(Nat.le_of_ble_eq_true rfl), (Nat.le_of_ble_eq_true rfl)⟩) (preV_Z hK (hP.sub [0, 1, 2] rfl) 0 3 rfl rfl) rfl rfl hl.1 rfl (lv_room (Nat.le_of_ble_eq_true rfl)) dX3_narrow_141 ⟨(Nat.le_of_ble_eq_true rfl), (Nat.le_of_ble_eq_true rfl)⟩) hS (fun q h => mA_sub [0, 1, 2] rfl hS.1 h) (fun H1 locs1 hB hzz hk hS => ?_)
                          have hP : va_P D vwCl [(aM, .inr (3, [.ref aA, .ref aB, .int (nI c), .int (bI gl), .int (bI true), .int (bI li), .int (bI ti), .int (bI fl), .int lo, .int t])), (aA, .inl (cy, 64, .inl k)), (aB, .inl (cy, 64, .inl v))] H1 := va_P.sub hB [0, 1, 2] rfl
                          have hD : va_D (mA [aM, aA, aB] s.heap.size) [(aM, .inr (3, [.ref aA, .ref aB, .int (nI c), .int (bI gl), .int (bI true), .int (bI li), .int (bI ti), .int (bI fl), .int lo, .int t])), (aA, .inl (cy, 64, .inl k)), (aB, .inl (cy, 64, .inl v))] := D_of ndw hAw
                          clear hB
                          generalize H1 = H at hP hS ⊢
                          generalize locs1 = locs at hS ⊢
                          refine lv_iconst (v := 0) hx hb dX3_narrow_144 (by decide) ?_
                          have hS2 : mNS 1 f fi t ti gl gh li hn fl lo hi = (gl, true, li, ti, fl, lo, t) := by first | (simp [mNS]; done) | (simp [mNS, hf]; done) | (simp [mNS, ht1]; done) | (simp [mNS, hf, hfl]; done) | (simp [mNS, ht1, hfl]; done) | (simp [mNS, hf, ht1]; done) | (simp [mNS, hf, ht1, hfl, Int32.not_lt.mpr hft]; done) | (simp [mNS, hf, ht1, hfl, Int32.not_le.mp hft]; done)
                          have hA2 : mNA 1 f fi t ti gl gh li hn fl lo hi = 0 := by first | (simp [mNA]; done) | (simp [mNA, hf]; done) | (simp [mNA, ht1]; done) | (simp [mNA, hf, hfl]; done) | (simp [mNA, ht1, hfl]; done) | (simp [mNA, hf, ht1]; done) | (simp [mNA, hf, ht1, hfl, Int32.not_lt.mpr hft]; done) | (simp [mNA, hf, ht1, hfl, Int32.not_le.mp hft]; done)
                          exact ret_iM hx hb hr hlocks dX3_narrow_145 hS (by rw [hA2]) (by rw [hS2]; exact hP)
                      · have hfl := c_17
                        refine lv_aload_n hx hb dX3_narrow_118 rfl (lv_at hl 0 rfl) ?_
                        refine lv_iload hx hb dX3_narrow_119 (lv_at hl 4 rfl) ?_
                        refine lv_iload hx hb dX3_narrow_121 (lv_at hl 5 rfl) ?_
                        refine go_V (va_runV (As := [.int t, .int (bI ti)]) (rest := []) ⟨hx, hb, hml, hown, hts⟩ (c_X3_begin l D cy aM aA aB k v c (by omega) gl gh li hn fl lo hi (by simp; omega) _ t ti) (cwV 2 hts gX3_narrow_X3_begin rfl rfl rfl (by decide +kernel) ⟨(Nat.le_of_ble_eq_true rfl), (Nat.le_of_ble_eq_true rfl)⟩) (preV_Z hK (hP.sub [0, 1, 2] rfl) 0 3 rfl rfl) rfl rfl hl.1 rfl (lv_room (Nat.le_of_ble_eq_true rfl)) dX3_narrow_123 ⟨(Nat.le_of_ble_eq_true rfl), (Nat.le_of_ble_eq_true rfl)⟩) hS (fun q h => mA_sub [0, 1, 2] rfl hS.1 h) (fun H1 locs1 hB hzz hk hS => ?_)
                        have hP : va_P D vwCl [(aM, .inr (3, [.ref aA, .ref aB, .int (nI c), .int (bI true), .int (bI gh), .int (bI ti), .int (bI hn), .int (bI fl), .int t, .int hi])), (aA, .inl (cy, 64, .inl k)), (aB, .inl (cy, 64, .inl v))] H1 := va_P.sub hB [0, 1, 2] rfl
                        have hD : va_D (mA [aM, aA, aB] s.heap.size) [(aM, .inr (3, [.ref aA, .ref aB, .int (nI c), .int (bI true), .int (bI gh), .int (bI ti), .int (bI hn), .int (bI fl), .int t, .int hi])), (aA, .inl (cy, 64, .inl k)), (aB, .inl (cy, 64, .inl v))] := D_of ndw hAw
                        clear hB
                        generalize H1 = H at hP hS ⊢
                        generalize locs1 = locs at hS ⊢
                        refine lv_goto (tgt := 144) hx hb dX3_narrow_126 (by decide) ?_
                        refine lv_iconst (v := 0) hx hb dX3_narrow_144 (by decide) ?_
                        have hS2 : mNS 1 f fi t ti gl gh li hn fl lo hi = (true, gh, ti, hn, fl, t, hi) := by first | (simp [mNS]; done) | (simp [mNS, hf]; done) | (simp [mNS, ht1]; done) | (simp [mNS, hf, hfl]; done) | (simp [mNS, ht1, hfl]; done) | (simp [mNS, hf, ht1]; done) | (simp [mNS, hf, ht1, hfl, Int32.not_lt.mpr hft]; done) | (simp [mNS, hf, ht1, hfl, Int32.not_le.mp hft]; done)
                        have hA2 : mNA 1 f fi t ti gl gh li hn fl lo hi = 0 := by first | (simp [mNA]; done) | (simp [mNA, hf]; done) | (simp [mNA, ht1]; done) | (simp [mNA, hf, hfl]; done) | (simp [mNA, ht1, hfl]; done) | (simp [mNA, hf, ht1]; done) | (simp [mNA, hf, ht1, hfl, Int32.not_lt.mpr hft]; done) | (simp [mNA, hf, ht1, hfl, Int32.not_le.mp hft]; done)
                        exact ret_iM hx hb hr hlocks dX3_narrow_145 hS (by rw [hA2]) (by rw [hS2]; exact hP)
                  · exact absurd c_15 (by decide)
                · exact absurd c_14 (by decide)
              · exact absurd c_13 (by decide)
            · refine lv_iconst (v := 1) hx hb dX3_narrow_41 (by decide) ?_
              have hS2 : mNS 1 f fi t ti gl gh li hn fl lo hi = (gl, gh, li, hn, fl, lo, hi) := by first | (simp [mNS]; done) | (simp [mNS, hf]; done) | (simp [mNS, ht1]; done) | (simp [mNS, hf, hfl]; done) | (simp [mNS, ht1, hfl]; done) | (simp [mNS, hf, ht1]; done) | (simp [mNS, hf, ht1, hfl, Int32.not_lt.mpr hft]; done) | (simp [mNS, hf, ht1, hfl, Int32.not_le.mp hft]; done)
              have hA2 : mNA 1 f fi t ti gl gh li hn fl lo hi = 1 := by first | (simp [mNA]; done) | (simp [mNA, hf]; done) | (simp [mNA, ht1]; done) | (simp [mNA, hf, hfl]; done) | (simp [mNA, ht1, hfl]; done) | (simp [mNA, hf, ht1]; done) | (simp [mNA, hf, ht1, hfl, Int32.not_lt.mpr hft]; done) | (simp [mNA, hf, ht1, hfl, Int32.not_le.mp hft]; done)
              exact ret_iM hx hb hr hlocks dX3_narrow_42 hS (by rw [hA2]) (by rw [hS2]; exact hP)
        · exact absurd c_10 (by decide)
      · have hk0 : True := trivial
        refine lv_iload_n hx hb dX3_narrow_9 rfl (lv_at hl 1 rfl) ?_
        refine lv_iconst (v := 1) hx hb dX3_narrow_10 (by decide) ?_
        refine lv_icmp_le (tgt := 23) hx hb dX3_narrow_11 (by decide) (fun c_19 => ?_) (fun c_19 => ?_)
        · exact absurd c_19 (by decide)
        · refine lv_aload_n hx hb dX3_narrow_14 rfl (lv_at hl 0 rfl) ?_
          refine lv_iload_n hx hb dX3_narrow_15 rfl (lv_at hl 2 rfl) ?_
          refine lv_iload_n hx hb dX3_narrow_16 rfl (lv_at hl 3 rfl) ?_
          refine go_R (va_runV (As := [.int f, .int (bI fi)]) (rest := []) ⟨hx, hb, hml, hown, hts⟩ (c_X3_mayEnd l D cy aM aA aB k v c (by omega) gl gh li hn fl lo hi f fi) (cwV 2 hts gX3_narrow_X3_mayEnd rfl rfl rfl (by decide +kernel) ⟨(Nat.le_of_ble_eq_true rfl), (Nat.le_of_ble_eq_true rfl)⟩) (preV_W hK (hP.sub [0, 1, 2] rfl) 0 3 rfl rfl) rfl rfl hl.1 rfl (lv_room (Nat.le_of_ble_eq_true rfl)) dX3_narrow_17 ⟨(Nat.le_of_ble_eq_true rfl), (Nat.le_of_ble_eq_true rfl)⟩) ?_
          refine b_eq (tgt := 41) hx hb dX3_narrow_20 (by decide) (fun hf => ?_) (fun hf => ?_)
          · refine lv_iconst (v := 1) hx hb dX3_narrow_41 (by decide) ?_
            have hS2 : mNS 2 f fi t ti gl gh li hn fl lo hi = (gl, gh, li, hn, fl, lo, hi) := by first | (simp [mNS]; done) | (simp [mNS, hf]; done) | (simp [mNS, ht1]; done) | (simp [mNS, hf, hfl]; done) | (simp [mNS, ht1, hfl]; done) | (simp [mNS, hf, ht1]; done) | (simp [mNS, hf, ht1, hfl, Int32.not_lt.mpr hft]; done) | (simp [mNS, hf, ht1, hfl, Int32.not_le.mp hft]; done)
            have hA2 : mNA 2 f fi t ti gl gh li hn fl lo hi = 1 := by first | (simp [mNA]; done) | (simp [mNA, hf]; done) | (simp [mNA, ht1]; done) | (simp [mNA, hf, hfl]; done) | (simp [mNA, ht1, hfl]; done) | (simp [mNA, hf, ht1]; done) | (simp [mNA, hf, ht1, hfl, Int32.not_lt.mpr hft]; done) | (simp [mNA, hf, ht1, hfl, Int32.not_le.mp hft]; done)
            exact ret_iM hx hb hr hlocks dX3_narrow_42 hS (by rw [hA2]) (by rw [hS2]; exact hP)
          · refine lv_iload_n hx hb dX3_narrow_23 rfl (lv_at hl 1 rfl) ?_
            refine lv_iconst (v := 1) hx hb dX3_narrow_24 (by decide) ?_
            refine lv_iand hx hb dX3_narrow_25 ?_
            refine top_i (y := 0) (by decide) ?_
            refine lv_iconst (v := 1) hx hb dX3_narrow_26 (by decide) ?_
            refine lv_icmp_ne (tgt := 43) hx hb dX3_narrow_27 (by decide) (fun c_21 => ?_) (fun c_21 => ?_)
            · refine lv_iload_n hx hb dX3_narrow_43 rfl (lv_at hl 1 rfl) ?_
              refine lv_iconst (v := 3) hx hb dX3_narrow_44 (by decide) ?_
              refine lv_icmp_ne (tgt := 72) hx hb dX3_narrow_45 (by decide) (fun c_22 => ?_) (fun c_22 => ?_)
              · refine lv_iload_n hx hb dX3_narrow_72 rfl (lv_at hl 1 rfl) ?_
                refine lv_iconst (v := 1) hx hb dX3_narrow_73 (by decide) ?_
                refine lv_icmp_le (tgt := 93) hx hb dX3_narrow_74 (by decide) (fun c_23 => ?_) (fun c_23 => ?_)
                · exact absurd c_23 (by decide)
                · refine lv_aload_n hx hb dX3_narrow_77 rfl (lv_at hl 0 rfl) ?_
                  refine va_get (ci := 3) (v := .int (bI fl)) (C := RX3) (T := TX3) (N := 10) hx hb hts hin_X3 hown hK hP 0 rfl rfl 7 (by decide) kf_59 (fun _ h9 => h9) rfl dX3_narrow_78 ?_
                  refine b_eq (tgt := 93) hx hb dX3_narrow_81 (by decide) (fun c_24 => ?_) (fun c_24 => ?_)
                  · have hfl := c_24
                    refine lv_iload_n hx hb dX3_narrow_93 rfl (lv_at hl 1 rfl) ?_
                    refine lv_iconst (v := 1) hx hb dX3_narrow_94 (by decide) ?_
                    refine lv_icmp_le (tgt := 104) hx hb dX3_narrow_95 (by decide) (fun c_25 => ?_) (fun c_25 => ?_)
                    · exact absurd c_25 (by decide)
                    · refine lv_aload_n hx hb dX3_narrow_98 rfl (lv_at hl 0 rfl) ?_
                      refine lv_iload_n hx hb dX3_narrow_99 rfl (lv_at hl 2 rfl) ?_
                      refine lv_iload_n hx hb dX3_narrow_100 rfl (lv_at hl 3 rfl) ?_
                      refine go_V (va_runV (As := [.int f, .int (bI fi)]) (rest := []) ⟨hx, hb, hml, hown, hts⟩ (c_X3_begin l D cy aM aA aB k v c (by omega) gl gh li hn fl lo hi (by simp; omega) _ f fi) (cwV 2 hts gX3_narrow_X3_begin rfl rfl rfl (by decide +kernel) ⟨(Nat.le_of_ble_eq_true rfl), (Nat.le_of_ble_eq_true rfl)⟩) (preV_Z hK (hP.sub [0, 1, 2] rfl) 0 3 rfl rfl) rfl rfl hl.1 rfl (lv_room (Nat.le_of_ble_eq_true rfl)) dX3_narrow_101 ⟨(Nat.le_of_ble_eq_true rfl), (Nat.le_of_ble_eq_true rfl)⟩) hS (fun q h => mA_sub [0, 1, 2] rfl hS.1 h) (fun H1 locs1 hB hzz hk hS => ?_)
                      have hP : va_P D vwCl [(aM, .inr (3, [.ref aA, .ref aB, .int (nI c), .int (bI true), .int (bI gh), .int (bI fi), .int (bI hn), .int (bI fl), .int f, .int hi])), (aA, .inl (cy, 64, .inl k)), (aB, .inl (cy, 64, .inl v))] H1 := va_P.sub hB [0, 1, 2] rfl
                      have hD : va_D (mA [aM, aA, aB] s.heap.size) [(aM, .inr (3, [.ref aA, .ref aB, .int (nI c), .int (bI true), .int (bI gh), .int (bI fi), .int (bI hn), .int (bI fl), .int f, .int hi])), (aA, .inl (cy, 64, .inl k)), (aB, .inl (cy, 64, .inl v))] := D_of ndw hAw
                      clear hB
                      generalize H1 = H at hP hS ⊢
                      generalize locs1 = locs at hS ⊢
                      refine lv_iload_n hx hb dX3_narrow_104 rfl (lv_at hl 1 rfl) ?_
                      refine lv_iconst (v := 1) hx hb dX3_narrow_105 (by decide) ?_
                      refine lv_iand hx hb dX3_narrow_106 ?_
                      refine top_i (y := 0) (by decide) ?_
                      refine lv_iconst (v := 1) hx hb dX3_narrow_107 (by decide) ?_
                      refine lv_icmp_ne (tgt := 129) hx hb dX3_narrow_108 (by decide) (fun c_26 => ?_) (fun c_26 => ?_)
                      · refine lv_iload_n hx hb dX3_narrow_129 rfl (lv_at hl 1 rfl) ?_
                        refine lv_iconst (v := 1) hx hb dX3_narrow_130 (by decide) ?_
                        refine lv_iand hx hb dX3_narrow_131 ?_
                        refine top_i (y := 0) (by decide) ?_
                        refine lv_iconst (v := 1) hx hb dX3_narrow_132 (by decide) ?_
                        refine lv_icmp_ne (tgt := 144) hx hb dX3_narrow_133 (by decide) (fun c_27 => ?_) (fun c_27 => ?_)
                        · refine lv_iconst (v := 0) hx hb dX3_narrow_144 (by decide) ?_
                          have hS2 : mNS 2 f fi t ti gl gh li hn fl lo hi = (true, gh, fi, hn, fl, f, hi) := by first | (simp [mNS]; done) | (simp [mNS, hf]; done) | (simp [mNS, ht1]; done) | (simp [mNS, hf, hfl]; done) | (simp [mNS, ht1, hfl]; done) | (simp [mNS, hf, ht1]; done) | (simp [mNS, hf, ht1, hfl, Int32.not_lt.mpr hft]; done) | (simp [mNS, hf, ht1, hfl, Int32.not_le.mp hft]; done)
                          have hA2 : mNA 2 f fi t ti gl gh li hn fl lo hi = 0 := by first | (simp [mNA]; done) | (simp [mNA, hf]; done) | (simp [mNA, ht1]; done) | (simp [mNA, hf, hfl]; done) | (simp [mNA, ht1, hfl]; done) | (simp [mNA, hf, ht1]; done) | (simp [mNA, hf, ht1, hfl, Int32.not_lt.mpr hft]; done) | (simp [mNA, hf, ht1, hfl, Int32.not_le.mp hft]; done)
                          exact ret_iM hx hb hr hlocks dX3_narrow_145 hS (by rw [hA2]) (by rw [hS2]; exact hP)
                        · exact absurd c_27 (by decide)
                      · exact absurd c_26 (by decide)
                  · have hfl := c_24
                    refine lv_aload_n hx hb dX3_narrow_84 rfl (lv_at hl 0 rfl) ?_
                    refine lv_iload_n hx hb dX3_narrow_85 rfl (lv_at hl 2 rfl) ?_
                    refine lv_iload_n hx hb dX3_narrow_86 rfl (lv_at hl 3 rfl) ?_
                    refine go_V (va_runV (As := [.int f, .int (bI fi)]) (rest := []) ⟨hx, hb, hml, hown, hts⟩ (c_X3_end l D cy aM aA aB k v c (by omega) gl gh li hn fl lo hi (by simp; omega) _ f fi) (cwV 2 hts gX3_narrow_X3_end rfl rfl rfl (by decide +kernel) ⟨(Nat.le_of_ble_eq_true rfl), (Nat.le_of_ble_eq_true rfl)⟩) (preV_Z hK (hP.sub [0, 1, 2] rfl) 0 3 rfl rfl) rfl rfl hl.1 rfl (lv_room (Nat.le_of_ble_eq_true rfl)) dX3_narrow_87 ⟨(Nat.le_of_ble_eq_true rfl), (Nat.le_of_ble_eq_true rfl)⟩) hS (fun q h => mA_sub [0, 1, 2] rfl hS.1 h) (fun H1 locs1 hB hzz hk hS => ?_)
                    have hP : va_P D vwCl [(aM, .inr (3, [.ref aA, .ref aB, .int (nI c), .int (bI gl), .int (bI true), .int (bI li), .int (bI fi), .int (bI fl), .int lo, .int f])), (aA, .inl (cy, 64, .inl k)), (aB, .inl (cy, 64, .inl v))] H1 := va_P.sub hB [0, 1, 2] rfl
                    have hD : va_D (mA [aM, aA, aB] s.heap.size) [(aM, .inr (3, [.ref aA, .ref aB, .int (nI c), .int (bI gl), .int (bI true), .int (bI li), .int (bI fi), .int (bI fl), .int lo, .int f])), (aA, .inl (cy, 64, .inl k)), (aB, .inl (cy, 64, .inl v))] := D_of ndw hAw
                    clear hB
                    generalize H1 = H at hP hS ⊢
                    generalize locs1 = locs at hS ⊢
                    refine lv_goto (tgt := 104) hx hb dX3_narrow_90 (by decide) ?_
                    refine lv_iload_n hx hb dX3_narrow_104 rfl (lv_at hl 1 rfl) ?_
                    refine lv_iconst (v := 1) hx hb dX3_narrow_105 (by decide) ?_
                    refine lv_iand hx hb dX3_narrow_106 ?_
                    refine top_i (y := 0) (by decide) ?_
                    refine lv_iconst (v := 1) hx hb dX3_narrow_107 (by decide) ?_
                    refine lv_icmp_ne (tgt := 129) hx hb dX3_narrow_108 (by decide) (fun c_28 => ?_) (fun c_28 => ?_)
                    · refine lv_iload_n hx hb dX3_narrow_129 rfl (lv_at hl 1 rfl) ?_
                      refine lv_iconst (v := 1) hx hb dX3_narrow_130 (by decide) ?_
                      refine lv_iand hx hb dX3_narrow_131 ?_
                      refine top_i (y := 0) (by decide) ?_
                      refine lv_iconst (v := 1) hx hb dX3_narrow_132 (by decide) ?_
                      refine lv_icmp_ne (tgt := 144) hx hb dX3_narrow_133 (by decide) (fun c_29 => ?_) (fun c_29 => ?_)
                      · refine lv_iconst (v := 0) hx hb dX3_narrow_144 (by decide) ?_
                        have hS2 : mNS 2 f fi t ti gl gh li hn fl lo hi = (gl, true, li, fi, fl, lo, f) := by first | (simp [mNS]; done) | (simp [mNS, hf]; done) | (simp [mNS, ht1]; done) | (simp [mNS, hf, hfl]; done) | (simp [mNS, ht1, hfl]; done) | (simp [mNS, hf, ht1]; done) | (simp [mNS, hf, ht1, hfl, Int32.not_lt.mpr hft]; done) | (simp [mNS, hf, ht1, hfl, Int32.not_le.mp hft]; done)
                        have hA2 : mNA 2 f fi t ti gl gh li hn fl lo hi = 0 := by first | (simp [mNA]; done) | (simp [mNA, hf]; done) | (simp [mNA, ht1]; done) | (simp [mNA, hf, hfl]; done) | (simp [mNA, ht1, hfl]; done) | (simp [mNA, hf, ht1]; done) | (simp [mNA, hf, ht1, hfl, Int32.not_lt.mpr hft]; done) | (simp [mNA, hf, ht1, hfl, Int32.not_le.mp hft]; done)
                        exact ret_iM hx hb hr hlocks dX3_narrow_145 hS (by rw [hA2]) (by rw [hS2]; exact hP)
                      · exact absurd c_29 (by decide)
                    · exact absurd c_28 (by decide)
              · exact absurd c_22 (by decide)
            · exact absurd c_21 (by decide)
      · have hk0 : True := trivial
        refine lv_iload_n hx hb dX3_narrow_9 rfl (lv_at hl 1 rfl) ?_
        refine lv_iconst (v := 1) hx hb dX3_narrow_10 (by decide) ?_
        refine lv_icmp_le (tgt := 23) hx hb dX3_narrow_11 (by decide) (fun c_30 => ?_) (fun c_30 => ?_)
        · exact absurd c_30 (by decide)
        · refine lv_aload_n hx hb dX3_narrow_14 rfl (lv_at hl 0 rfl) ?_
          refine lv_iload_n hx hb dX3_narrow_15 rfl (lv_at hl 2 rfl) ?_
          refine lv_iload_n hx hb dX3_narrow_16 rfl (lv_at hl 3 rfl) ?_
          refine go_R (va_runV (As := [.int f, .int (bI fi)]) (rest := []) ⟨hx, hb, hml, hown, hts⟩ (c_X3_mayEnd l D cy aM aA aB k v c (by omega) gl gh li hn fl lo hi f fi) (cwV 2 hts gX3_narrow_X3_mayEnd rfl rfl rfl (by decide +kernel) ⟨(Nat.le_of_ble_eq_true rfl), (Nat.le_of_ble_eq_true rfl)⟩) (preV_W hK (hP.sub [0, 1, 2] rfl) 0 3 rfl rfl) rfl rfl hl.1 rfl (lv_room (Nat.le_of_ble_eq_true rfl)) dX3_narrow_17 ⟨(Nat.le_of_ble_eq_true rfl), (Nat.le_of_ble_eq_true rfl)⟩) ?_
          refine b_eq (tgt := 41) hx hb dX3_narrow_20 (by decide) (fun hf => ?_) (fun hf => ?_)
          · refine lv_iconst (v := 1) hx hb dX3_narrow_41 (by decide) ?_
            have hS2 : mNS 3 f fi t ti gl gh li hn fl lo hi = (gl, gh, li, hn, fl, lo, hi) := by first | (simp [mNS]; done) | (simp [mNS, hf]; done) | (simp [mNS, ht1]; done) | (simp [mNS, hf, hfl]; done) | (simp [mNS, ht1, hfl]; done) | (simp [mNS, hf, ht1]; done) | (simp [mNS, hf, ht1, hfl, Int32.not_lt.mpr hft]; done) | (simp [mNS, hf, ht1, hfl, Int32.not_le.mp hft]; done)
            have hA2 : mNA 3 f fi t ti gl gh li hn fl lo hi = 1 := by first | (simp [mNA]; done) | (simp [mNA, hf]; done) | (simp [mNA, ht1]; done) | (simp [mNA, hf, hfl]; done) | (simp [mNA, ht1, hfl]; done) | (simp [mNA, hf, ht1]; done) | (simp [mNA, hf, ht1, hfl, Int32.not_lt.mpr hft]; done) | (simp [mNA, hf, ht1, hfl, Int32.not_le.mp hft]; done)
            exact ret_iM hx hb hr hlocks dX3_narrow_42 hS (by rw [hA2]) (by rw [hS2]; exact hP)
          · refine lv_iload_n hx hb dX3_narrow_23 rfl (lv_at hl 1 rfl) ?_
            refine lv_iconst (v := 1) hx hb dX3_narrow_24 (by decide) ?_
            refine lv_iand hx hb dX3_narrow_25 ?_
            refine top_i (y := 1) (by decide) ?_
            refine lv_iconst (v := 1) hx hb dX3_narrow_26 (by decide) ?_
            refine lv_icmp_ne (tgt := 43) hx hb dX3_narrow_27 (by decide) (fun c_32 => ?_) (fun c_32 => ?_)
            · exact absurd c_32 (by decide)
            · refine lv_aload_n hx hb dX3_narrow_30 rfl (lv_at hl 0 rfl) ?_
              refine lv_iload hx hb dX3_narrow_31 (lv_at hl 4 rfl) ?_
              refine lv_iload hx hb dX3_narrow_33 (lv_at hl 5 rfl) ?_
              refine go_R (va_runV (As := [.int t, .int (bI ti)]) (rest := []) ⟨hx, hb, hml, hown, hts⟩ (c_X3_mayEnd l D cy aM aA aB k v c (by omega) gl gh li hn fl lo hi t ti) (cwV 2 hts gX3_narrow_X3_mayEnd rfl rfl rfl (by decide +kernel) ⟨(Nat.le_of_ble_eq_true rfl), (Nat.le_of_ble_eq_true rfl)⟩) (preV_W hK (hP.sub [0, 1, 2] rfl) 0 3 rfl rfl) rfl rfl hl.1 rfl (lv_room (Nat.le_of_ble_eq_true rfl)) dX3_narrow_35 ⟨(Nat.le_of_ble_eq_true rfl), (Nat.le_of_ble_eq_true rfl)⟩) ?_
              refine b_ne (tgt := 43) hx hb dX3_narrow_38 (by decide) (fun ht1 => ?_) (fun ht1 => ?_)
              · refine lv_iload_n hx hb dX3_narrow_43 rfl (lv_at hl 1 rfl) ?_
                refine lv_iconst (v := 3) hx hb dX3_narrow_44 (by decide) ?_
                refine lv_icmp_ne (tgt := 72) hx hb dX3_narrow_45 (by decide) (fun c_34 => ?_) (fun c_34 => ?_)
                · exact absurd c_34 (by decide)
                · refine lv_aload_n hx hb dX3_narrow_48 rfl (lv_at hl 0 rfl) ?_
                  refine va_get (ci := 3) (v := .int (bI fl)) (C := RX3) (T := TX3) (N := 10) hx hb hts hin_X3 hown hK hP 0 rfl rfl 7 (by decide) kf_59 (fun _ h9 => h9) rfl dX3_narrow_49 ?_
                  refine b_eq (tgt := 64) hx hb dX3_narrow_52 (by decide) (fun c_35 => ?_) (fun c_35 => ?_)
                  · have hfl := c_35
                    refine lv_iload_n hx hb dX3_narrow_64 rfl (lv_at hl 2 rfl) ?_
                    refine lv_iload hx hb dX3_narrow_65 (lv_at hl 4 rfl) ?_
                    refine lv_icmp_le (tgt := 72) hx hb dX3_narrow_67 (by decide) (fun hft => ?_) (fun hft => ?_)
                    · refine lv_iload_n hx hb dX3_narrow_72 rfl (lv_at hl 1 rfl) ?_
                      refine lv_iconst (v := 1) hx hb dX3_narrow_73 (by decide) ?_
                      refine lv_icmp_le (tgt := 93) hx hb dX3_narrow_74 (by decide) (fun c_37 => ?_) (fun c_37 => ?_)
                      · exact absurd c_37 (by decide)
                      · refine lv_aload_n hx hb dX3_narrow_77 rfl (lv_at hl 0 rfl) ?_
                        refine va_get (ci := 3) (v := .int (bI fl)) (C := RX3) (T := TX3) (N := 10) hx hb hts hin_X3 hown hK hP 0 rfl rfl 7 (by decide) kf_59 (fun _ h9 => h9) rfl dX3_narrow_78 ?_
                        refine b_eq (tgt := 93) hx hb dX3_narrow_81 (by decide) (fun c_38 => ?_) (fun c_38 => ?_)
                        · refine lv_iload_n hx hb dX3_narrow_93 rfl (lv_at hl 1 rfl) ?_
                          refine lv_iconst (v := 1) hx hb dX3_narrow_94 (by decide) ?_
                          refine lv_icmp_le (tgt := 104) hx hb dX3_narrow_95 (by decide) (fun c_39 => ?_) (fun c_39 => ?_)
                          · exact absurd c_39 (by decide)
                          · refine lv_aload_n hx hb dX3_narrow_98 rfl (lv_at hl 0 rfl) ?_
                            refine lv_iload_n hx hb dX3_narrow_99 rfl (lv_at hl 2 rfl) ?_
                            refine lv_iload_n hx hb dX3_narrow_100 rfl (lv_at hl 3 rfl) ?_
                            refine go_V (va_runV (As := [.int f, .int (bI fi)]) (rest := []) ⟨hx, hb, hml, hown, hts⟩ (c_X3_begin l D cy aM aA aB k v c (by omega) gl gh li hn fl lo hi (by simp; omega) _ f fi) (cwV 2 hts gX3_narrow_X3_begin rfl rfl rfl (by decide +kernel) ⟨(Nat.le_of_ble_eq_true rfl), (Nat.le_of_ble_eq_true rfl)⟩) (preV_Z hK (hP.sub [0, 1, 2] rfl) 0 3 rfl rfl) rfl rfl hl.1 rfl (lv_room (Nat.le_of_ble_eq_true rfl)) dX3_narrow_101 ⟨(Nat.le_of_ble_eq_true rfl), (Nat.le_of_ble_eq_true rfl)⟩) hS (fun q h => mA_sub [0, 1, 2] rfl hS.1 h) (fun H1 locs1 hB hzz hk hS => ?_)
                            have hP : va_P D vwCl [(aM, .inr (3, [.ref aA, .ref aB, .int (nI c), .int (bI true), .int (bI gh), .int (bI fi), .int (bI hn), .int (bI fl), .int f, .int hi])), (aA, .inl (cy, 64, .inl k)), (aB, .inl (cy, 64, .inl v))] H1 := va_P.sub hB [0, 1, 2] rfl
                            have hD : va_D (mA [aM, aA, aB] s.heap.size) [(aM, .inr (3, [.ref aA, .ref aB, .int (nI c), .int (bI true), .int (bI gh), .int (bI fi), .int (bI hn), .int (bI fl), .int f, .int hi])), (aA, .inl (cy, 64, .inl k)), (aB, .inl (cy, 64, .inl v))] := D_of ndw hAw
                            clear hB
                            generalize H1 = H at hP hS ⊢
                            generalize locs1 = locs at hS ⊢
                            refine lv_iload_n hx hb dX3_narrow_104 rfl (lv_at hl 1 rfl) ?_
                            refine lv_iconst (v := 1) hx hb dX3_narrow_105 (by decide) ?_
                            refine lv_iand hx hb dX3_narrow_106 ?_
                            refine top_i (y := 1) (by decide) ?_
                            refine lv_iconst (v := 1) hx hb dX3_narrow_107 (by decide) ?_
                            refine lv_icmp_ne (tgt := 129) hx hb dX3_narrow_108 (by decide) (fun c_40 => ?_) (fun c_40 => ?_)
                            · exact absurd c_40 (by decide)
                            · refine lv_aload_n hx hb dX3_narrow_111 rfl (lv_at hl 0 rfl) ?_
                              refine va_get (ci := 3) (v := .int (bI fl)) (C := RX3) (T := TX3) (N := 10) hx hb hts hin_X3 hown hK hP 0 rfl rfl 7 (by decide) kf_59 (fun _ h9 => h9) rfl dX3_narrow_112 ?_
                              refine b_eq (tgt := 129) hx hb dX3_narrow_115 (by decide) (fun c_41 => ?_) (fun c_41 => ?_)
                              · refine lv_iload_n hx hb dX3_narrow_129 rfl (lv_at hl 1 rfl) ?_
                                refine lv_iconst (v := 1) hx hb dX3_narrow_130 (by decide) ?_
                                refine lv_iand hx hb dX3_narrow_131 ?_
                                refine top_i (y := 1) (by decide) ?_
                                refine lv_iconst (v := 1) hx hb dX3_narrow_132 (by decide) ?_
                                refine lv_icmp_ne (tgt := 144) hx hb dX3_narrow_133 (by decide) (fun c_42 => ?_) (fun c_42 => ?_)
                                · exact absurd c_42 (by decide)
                                · refine lv_aload_n hx hb dX3_narrow_136 rfl (lv_at hl 0 rfl) ?_
                                  refine lv_iload hx hb dX3_narrow_137 (lv_at hl 4 rfl) ?_
                                  refine lv_iload hx hb dX3_narrow_139 (lv_at hl 5 rfl) ?_
                                  refine go_V (va_runV (As := [.int t, .int (bI ti)]) (rest := []) ⟨hx, hb, hml, hown, hts⟩ (c_X3_end l D cy aM aA aB k v c (by omega) true gh fi hn fl f hi (by simp; omega) _ t ti) (cwV 2 hts gX3_narrow_X3_end rfl rfl rfl (by decide +kernel) ⟨(Nat.le_of_ble_eq_true rfl), (Nat.le_of_ble_eq_true rfl)⟩) (preV_Z hK (hP.sub [0, 1, 2] rfl) 0 3 rfl rfl) rfl rfl hl.1 rfl (lv_room (Nat.le_of_ble_eq_true rfl)) dX3_narrow_141 ⟨(Nat.le_of_ble_eq_true rfl), (Nat.le_of_ble_eq_true rfl)⟩) hS (fun q h => mA_sub [0, 1, 2] rfl hS.1 h) (fun H1 locs1 hB hzz hk hS => ?_)
                                  have hP : va_P D vwCl [(aM, .inr (3, [.ref aA, .ref aB, .int (nI c), .int (bI true), .int (bI true), .int (bI fi), .int (bI ti), .int (bI fl), .int f, .int t])), (aA, .inl (cy, 64, .inl k)), (aB, .inl (cy, 64, .inl v))] H1 := va_P.sub hB [0, 1, 2] rfl
                                  have hD : va_D (mA [aM, aA, aB] s.heap.size) [(aM, .inr (3, [.ref aA, .ref aB, .int (nI c), .int (bI true), .int (bI true), .int (bI fi), .int (bI ti), .int (bI fl), .int f, .int t])), (aA, .inl (cy, 64, .inl k)), (aB, .inl (cy, 64, .inl v))] := D_of ndw hAw
                                  clear hB
                                  generalize H1 = H at hP hS ⊢
                                  generalize locs1 = locs at hS ⊢
                                  refine lv_iconst (v := 0) hx hb dX3_narrow_144 (by decide) ?_
                                  have hS2 : mNS 3 f fi t ti gl gh li hn fl lo hi = (true, true, fi, ti, fl, f, t) := by first | (simp [mNS]; done) | (simp [mNS, hf]; done) | (simp [mNS, ht1]; done) | (simp [mNS, hf, hfl]; done) | (simp [mNS, ht1, hfl]; done) | (simp [mNS, hf, ht1]; done) | (simp [mNS, hf, ht1, hfl, Int32.not_lt.mpr hft]; done) | (simp [mNS, hf, ht1, hfl, Int32.not_le.mp hft]; done)
                                  have hA2 : mNA 3 f fi t ti gl gh li hn fl lo hi = 0 := by first | (simp [mNA]; done) | (simp [mNA, hf]; done) | (simp [mNA, ht1]; done) | (simp [mNA, hf, hfl]; done) | (simp [mNA, ht1, hfl]; done) | (simp [mNA, hf, ht1]; done) | (simp [mNA, hf, ht1, hfl, Int32.not_lt.mpr hft]; done) | (simp [mNA, hf, ht1, hfl, Int32.not_le.mp hft]; done)
                                  exact ret_iM hx hb hr hlocks dX3_narrow_145 hS (by rw [hA2]) (by rw [hS2]; exact hP)
                              · exact absurd c_41 (by rw [hfl]; decide)
                        · exact absurd c_38 (by rw [hfl]; decide)
                    · refine lv_iconst (v := 1) hx hb dX3_narrow_70 (by decide) ?_
                      have hS2 : mNS 3 f fi t ti gl gh li hn fl lo hi = (gl, gh, li, hn, fl, lo, hi) := by first | (simp [mNS]; done) | (simp [mNS, hf]; done) | (simp [mNS, ht1]; done) | (simp [mNS, hf, hfl]; done) | (simp [mNS, ht1, hfl]; done) | (simp [mNS, hf, ht1]; done) | (simp [mNS, hf, ht1, hfl, Int32.not_lt.mpr hft]; done) | (simp [mNS, hf, ht1, hfl, Int32.not_le.mp hft]; done)
                      have hA2 : mNA 3 f fi t ti gl gh li hn fl lo hi = 1 := by first | (simp [mNA]; done) | (simp [mNA, hf]; done) | (simp [mNA, ht1]; done) | (simp [mNA, hf, hfl]; done) | (simp [mNA, ht1, hfl]; done) | (simp [mNA, hf, ht1]; done) | (simp [mNA, hf, ht1, hfl, Int32.not_lt.mpr hft]; done) | (simp [mNA, hf, ht1, hfl, Int32.not_le.mp hft]; done)
                      exact ret_iM hx hb hr hlocks dX3_narrow_71 hS (by rw [hA2]) (by rw [hS2]; exact hP)
                  · have hfl := c_35
                    refine lv_iload_n hx hb dX3_narrow_55 rfl (lv_at hl 2 rfl) ?_
                    refine lv_iload hx hb dX3_narrow_56 (lv_at hl 4 rfl) ?_
                    refine lv_icmp_ge (tgt := 72) hx hb dX3_narrow_58 (by decide) (fun hft => ?_) (fun hft => ?_)
                    · refine lv_iload_n hx hb dX3_narrow_72 rfl (lv_at hl 1 rfl) ?_
                      refine lv_iconst (v := 1) hx hb dX3_narrow_73 (by decide) ?_
                      refine lv_icmp_le (tgt := 93) hx hb dX3_narrow_74 (by decide) (fun c_44 => ?_) (fun c_44 => ?_)
                      · exact absurd c_44 (by decide)
                      · refine lv_aload_n hx hb dX3_narrow_77 rfl (lv_at hl 0 rfl) ?_
                        refine va_get (ci := 3) (v := .int (bI fl)) (C := RX3) (T := TX3) (N := 10) hx hb hts hin_X3 hown hK hP 0 rfl rfl 7 (by decide) kf_59 (fun _ h9 => h9) rfl dX3_narrow_78 ?_
                        refine b_eq (tgt := 93) hx hb dX3_narrow_81 (by decide) (fun c_45 => ?_) (fun c_45 => ?_)
                        · exact absurd c_45 (by rw [hfl]; decide)
                        · refine lv_aload_n hx hb dX3_narrow_84 rfl (lv_at hl 0 rfl) ?_
                          refine lv_iload_n hx hb dX3_narrow_85 rfl (lv_at hl 2 rfl) ?_
                          refine lv_iload_n hx hb dX3_narrow_86 rfl (lv_at hl 3 rfl) ?_
                          refine go_V (va_runV (As := [.int f, .int (bI fi)]) (rest := []) ⟨hx, hb, hml, hown, hts⟩ (c_X3_end l D cy aM aA aB k v c (by omega) gl gh li hn fl lo hi (by simp; omega) _ f fi) (cwV 2 hts gX3_narrow_X3_end rfl rfl rfl (by decide +kernel) ⟨(Nat.le_of_ble_eq_true rfl), (Nat.le_of_ble_eq_true rfl)⟩) (preV_Z hK (hP.sub [0, 1, 2] rfl) 0 3 rfl rfl) rfl rfl hl.1 rfl (lv_room (Nat.le_of_ble_eq_true rfl)) dX3_narrow_87 ⟨(Nat.le_of_ble_eq_true rfl), (Nat.le_of_ble_eq_true rfl)⟩) hS (fun q h => mA_sub [0, 1, 2] rfl hS.1 h) (fun H1 locs1 hB hzz hk hS => ?_)
                          have hP : va_P D vwCl [(aM, .inr (3, [.ref aA, .ref aB, .int (nI c), .int (bI gl), .int (bI true), .int (bI li), .int (bI fi), .int (bI fl), .int lo, .int f])), (aA, .inl (cy, 64, .inl k)), (aB, .inl (cy, 64, .inl v))] H1 := va_P.sub hB [0, 1, 2] rfl
                          have hD : va_D (mA [aM, aA, aB] s.heap.size) [(aM, .inr (3, [.ref aA, .ref aB, .int (nI c), .int (bI gl), .int (bI true), .int (bI li), .int (bI fi), .int (bI fl), .int lo, .int f])), (aA, .inl (cy, 64, .inl k)), (aB, .inl (cy, 64, .inl v))] := D_of ndw hAw
                          clear hB
                          generalize H1 = H at hP hS ⊢
                          generalize locs1 = locs at hS ⊢
                          refine lv_goto (tgt := 104) hx hb dX3_narrow_90 (by decide) ?_
                          refine lv_iload_n hx hb dX3_narrow_104 rfl (lv_at hl 1 rfl) ?_
                          refine lv_iconst (v := 1) hx hb dX3_narrow_105 (by decide) ?_
                          refine lv_iand hx hb dX3_narrow_106 ?_
                          refine top_i (y := 1) (by decide) ?_
                          refine lv_iconst (v := 1) hx hb dX3_narrow_107 (by decide) ?_
                          refine lv_icmp_ne (tgt := 129) hx hb dX3_narrow_108 (by decide) (fun c_46 => ?_) (fun c_46 => ?_)
                          · exact absurd c_46 (by decide)
                          · refine lv_aload_n hx hb dX3_narrow_111 rfl (lv_at hl 0 rfl) ?_
                            refine va_get (ci := 3) (v := .int (bI fl)) (C := RX3) (T := TX3) (N := 10) hx hb hts hin_X3 hown hK hP 0 rfl rfl 7 (by decide) kf_59 (fun _ h9 => h9) rfl dX3_narrow_112 ?_
                            refine b_eq (tgt := 129) hx hb dX3_narrow_115 (by decide) (fun c_47 => ?_) (fun c_47 => ?_)
                            · exact absurd c_47 (by rw [hfl]; decide)
                            · refine lv_aload_n hx hb dX3_narrow_118 rfl (lv_at hl 0 rfl) ?_
                              refine lv_iload hx hb dX3_narrow_119 (lv_at hl 4 rfl) ?_
                              refine lv_iload hx hb dX3_narrow_121 (lv_at hl 5 rfl) ?_
                              refine go_V (va_runV (As := [.int t, .int (bI ti)]) (rest := []) ⟨hx, hb, hml, hown, hts⟩ (c_X3_begin l D cy aM aA aB k v c (by omega) gl true li fi fl lo f (by simp; omega) _ t ti) (cwV 2 hts gX3_narrow_X3_begin rfl rfl rfl (by decide +kernel) ⟨(Nat.le_of_ble_eq_true rfl), (Nat.le_of_ble_eq_true rfl)⟩) (preV_Z hK (hP.sub [0, 1, 2] rfl) 0 3 rfl rfl) rfl rfl hl.1 rfl (lv_room (Nat.le_of_ble_eq_true rfl)) dX3_narrow_123 ⟨(Nat.le_of_ble_eq_true rfl), (Nat.le_of_ble_eq_true rfl)⟩) hS (fun q h => mA_sub [0, 1, 2] rfl hS.1 h) (fun H1 locs1 hB hzz hk hS => ?_)
                              have hP : va_P D vwCl [(aM, .inr (3, [.ref aA, .ref aB, .int (nI c), .int (bI true), .int (bI true), .int (bI ti), .int (bI fi), .int (bI fl), .int t, .int f])), (aA, .inl (cy, 64, .inl k)), (aB, .inl (cy, 64, .inl v))] H1 := va_P.sub hB [0, 1, 2] rfl
                              have hD : va_D (mA [aM, aA, aB] s.heap.size) [(aM, .inr (3, [.ref aA, .ref aB, .int (nI c), .int (bI true), .int (bI true), .int (bI ti), .int (bI fi), .int (bI fl), .int t, .int f])), (aA, .inl (cy, 64, .inl k)), (aB, .inl (cy, 64, .inl v))] := D_of ndw hAw
                              clear hB
                              generalize H1 = H at hP hS ⊢
                              generalize locs1 = locs at hS ⊢
                              refine lv_goto (tgt := 144) hx hb dX3_narrow_126 (by decide) ?_
                              refine lv_iconst (v := 0) hx hb dX3_narrow_144 (by decide) ?_
                              have hS2 : mNS 3 f fi t ti gl gh li hn fl lo hi = (true, true, ti, fi, fl, t, f) := by first | (simp [mNS]; done) | (simp [mNS, hf]; done) | (simp [mNS, ht1]; done) | (simp [mNS, hf, hfl]; done) | (simp [mNS, ht1, hfl]; done) | (simp [mNS, hf, ht1]; done) | (simp [mNS, hf, ht1, hfl, Int32.not_lt.mpr hft]; done) | (simp [mNS, hf, ht1, hfl, Int32.not_le.mp hft]; done)
                              have hA2 : mNA 3 f fi t ti gl gh li hn fl lo hi = 0 := by first | (simp [mNA]; done) | (simp [mNA, hf]; done) | (simp [mNA, ht1]; done) | (simp [mNA, hf, hfl]; done) | (simp [mNA, ht1, hfl]; done) | (simp [mNA, hf, ht1]; done) | (simp [mNA, hf, ht1, hfl, Int32.not_lt.mpr hft]; done) | (simp [mNA, hf, ht1, hfl, Int32.not_le.mp hft]; done)
                              exact ret_iM hx hb hr hlocks dX3_narrow_145 hS (by rw [hA2]) (by rw [hS2]; exact hP)
                    · refine lv_goto (tgt := 70) hx hb dX3_narrow_61 (by decide) ?_
                      refine lv_iconst (v := 1) hx hb dX3_narrow_70 (by decide) ?_
                      have hS2 : mNS 3 f fi t ti gl gh li hn fl lo hi = (gl, gh, li, hn, fl, lo, hi) := by first | (simp [mNS]; done) | (simp [mNS, hf]; done) | (simp [mNS, ht1]; done) | (simp [mNS, hf, hfl]; done) | (simp [mNS, ht1, hfl]; done) | (simp [mNS, hf, ht1]; done) | (simp [mNS, hf, ht1, hfl, Int32.not_lt.mpr hft]; done) | (simp [mNS, hf, ht1, hfl, Int32.not_le.mp hft]; done)
                      have hA2 : mNA 3 f fi t ti gl gh li hn fl lo hi = 1 := by first | (simp [mNA]; done) | (simp [mNA, hf]; done) | (simp [mNA, ht1]; done) | (simp [mNA, hf, hfl]; done) | (simp [mNA, ht1, hfl]; done) | (simp [mNA, hf, ht1]; done) | (simp [mNA, hf, ht1, hfl, Int32.not_lt.mpr hft]; done) | (simp [mNA, hf, ht1, hfl, Int32.not_le.mp hft]; done)
                      exact ret_iM hx hb hr hlocks dX3_narrow_71 hS (by rw [hA2]) (by rw [hS2]; exact hP)
              · refine lv_iconst (v := 1) hx hb dX3_narrow_41 (by decide) ?_
                have hS2 : mNS 3 f fi t ti gl gh li hn fl lo hi = (gl, gh, li, hn, fl, lo, hi) := by first | (simp [mNS]; done) | (simp [mNS, hf]; done) | (simp [mNS, ht1]; done) | (simp [mNS, hf, hfl]; done) | (simp [mNS, ht1, hfl]; done) | (simp [mNS, hf, ht1]; done) | (simp [mNS, hf, ht1, hfl, Int32.not_lt.mpr hft]; done) | (simp [mNS, hf, ht1, hfl, Int32.not_le.mp hft]; done)
                have hA2 : mNA 3 f fi t ti gl gh li hn fl lo hi = 1 := by first | (simp [mNA]; done) | (simp [mNA, hf]; done) | (simp [mNA, ht1]; done) | (simp [mNA, hf, hfl]; done) | (simp [mNA, ht1, hfl]; done) | (simp [mNA, hf, ht1]; done) | (simp [mNA, hf, ht1, hfl, Int32.not_lt.mpr hft]; done) | (simp [mNA, hf, ht1, hfl, Int32.not_le.mp hft]; done)
                exact ret_iM hx hb hr hlocks dX3_narrow_42 hS (by rw [hA2]) (by rw [hS2]; exact hP)
