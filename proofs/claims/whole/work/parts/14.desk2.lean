/-! OrderedDesk's turn, again, look, narrow (written by wip/gen/x2b.py) -/
theorem D1 {a : Nat} {e : va_E} : va_D (fun q => q = a) [(a, e)] := D_of (List.nodup_cons.mpr ⟨List.not_mem_nil, List.nodup_nil⟩) (fun q h => by simpa using h)
theorem S_weak {a : Nat} {H0 H : Heap} {locs : List Loc} (h : va_S (fun q => q = a) H0 H locs) : va_S (mA [a] H0.size) H0 H locs := ⟨h.1, fun q h1 h2 => h.2.1 q h1 (fun e => h2 (Or.inl (List.mem_singleton.mpr e))), fun l hl => Or.inl (List.mem_singleton.mpr (h.2.2 l hl))⟩
theorem S_comp {a : Nat} {H0 H1 H2 : Heap} {locs1 locs : List Loc} (h1 : va_S (mA [] H0.size) H0 H1 locs1) (h2 : va_S (fun q => q = a) H1 H2 locs) : va_S (mA [a] H0.size) H0 H2 locs :=
  ⟨Nat.le_trans h1.1 h2.1, fun q g1 g2 => (h2.2.1 q (Nat.lt_of_lt_of_le g1 h1.1) (fun e => g2 (Or.inl (List.mem_singleton.mpr e)))).trans (h1.2.1 q g1 (fun z => z.elim (fun w => absurd w List.not_mem_nil) (fun w => Nat.not_le.mpr g1 w))), fun l hl => Or.inl (List.mem_singleton.mpr (h2.2.2 l hl))⟩
theorem ptB_none {D : va_G} {aR sz : Nat} {r : Option (Int64 × Bool × Int64 × Bool)} {H : Heap} (h : ptB D aR sz r none H) : r = none := by
  cases r with
  | none => rfl
  | some r => obtain ⟨a, h1, -⟩ := h; cases h1
theorem ptB_some {D : va_G} {aR sz a : Nat} {r : Option (Int64 × Bool × Int64 × Bool)} {H : Heap} (h : ptB D aR sz r (some a) H) : ∃ q, r = some q ∧ (a = aR ∨ sz ≤ a) ∧ va_P D vwCl (rgW a q.1 q.2.1 q.2.2.1 q.2.2.2) H := by
  cases r with
  | none => cases h
  | some r => obtain ⟨b, h1, h2, h3⟩ := h; cases h1; exact ⟨r, rfl, h2, h3⟩
theorem ret_iX {p : Program} {l : Launch} {e : Env} {R : Room} {s : State} {m : MethodId} {args : Array Value} {below : List Frame} {meth : Method} {c : Code} {H : Heap} {locs : List Loc} {cells slots : Nat} {cc : ByteArray} {pc : Nat} {ls : Array Slot} {A : Nat → Prop} {S : Type} {vf : S → Option Value} {B : S → State → Prop} {v : Int32} (hx : p.tables.exec = Jvm.exec) (hb : c.code = cc) (hr : meth.sig.returnType = some .int) (hlocks : meth.locks = false) (hdg : decode cc pc = .ok (.ireturn, 1)) (hS : va_S A s.heap H locs) (u : S) (hv : vf u = some (.int v)) (hB : ∀ t : State, t.heap = H → B u t) : W p l e R s m args below meth c H locs cells slots (MQ below (qX vf B A) args s cells slots A) (F0 m pc ls [.int v]) :=
  W.iret hx hb hr (fun t ht _ => ⟨⟨u, by rw [hv], hB t ht⟩, hS.F ht⟩) hS.2.2 hdg hlocks
/-- what look and narrow leave: r the new range, if there is one, at u -/
def lkB (D : va_G) (cy : ClassId) (aD aE aK aV aW aR : Nat) (k v : Nat → Int32) (c : Nat) (fl f2 : Bool) (aX sz : Nat) (r : Option (Int64 × Bool × Int64 × Bool)) (u : Nat) (H : Heap) : Prop := match r with
  | none => u = aR ∧ va_P D vwCl (d4 cy aD aE aK aV aW aR k v c fl) H
  | some q => (u = aX ∨ sz ≤ u) ∧ va_P D vwCl (d4 cy aD aE aK aV aW u k v c f2) H ∧ va_P D vwCl (rgW u q.1 q.2.1 q.2.2.1 q.2.2.2) H
def lkA (r : Option (Int64 × Bool × Int64 × Bool)) : Int32 := match r with
  | none => 1
  | some _ => 0
set_option maxHeartbeats 4000000 in
set_option maxRecDepth 100000 in
/-- turn() -/
theorem c_X2_turn (l : Launch) (D : va_G) (cy : ClassId) (aD aE aK aV aW aR : Nat) (k v : Nat → Int32) (c : Nat) (hc : c ≤ 512) (lo : Int64) (li : Bool) (hi : Int64) (hn : Bool) (fl : Bool) (nd : ([aD, aE, aK, aV] : List Nat).Nodup) (nr : ¬ aR ∈ ([aD, aE, aK, aV] : List Nat)) (sz : Nat) : Met l yX2_turn wsX2_turn ({ frames := 4, cells := 0, slots := 0, locals := 83 } : Room) (pcZ D [(cy, .int)] [.ref aD] [(aD, .inr (2, [.ref aE, .ref aW, .ref aR, .int (bI fl)])), (aE, .inr (0, [.ref aK, .ref aV, .int (nI c)])), (aK, .inl (cy, 512, .inl k)), (aV, .inl (cy, 512, .inl v)), (aR, .inr (1, [.long lo, .int (bI li), .long hi, .int (bI hn)]))] sz) (qM (some (.int (nI ((vE k c lo li hi hn) - (vB k c lo li))))) (fun H => va_P D vwCl (dW cy aD aE aK aV aW aR k v c lo li hi hn (!fl)) H) (mA [aD] sz)) 0 0 (mA [aD] sz) := by
  refine met_Z (cc := cX2_turn) (maxL := 1) (ret := (some .int)) (by decide +kernel) rfl (Nat.le_of_ble_eq_true rfl) ?_
  intro pM eM s mM below meth cM ls hx hb hr hts hown hlocks hml hnm hsz hK hP hl
  have hown : s.vm.findClass RX2 = some mM.cls := hown
  have hl : lv_has ls 1 [(0, .ref aD)] := hl
  have hin_X2 : ∀ w ∈ wsX20, w ∈ wsX2_turn := by decide +kernel
  have kf_32 := hts (.fieldLink RX2 32 "OrderedDesk" "falling" "Z") (by decide +kernel)
  have hP : va_P D vwCl [(aD, .inr (2, [.ref aE, .ref aW, .ref aR, .int (bI fl)])), (aE, .inr (0, [.ref aK, .ref aV, .int (nI c)])), (aK, .inl (cy, 512, .inl k)), (aV, .inl (cy, 512, .inl v)), (aR, .inr (1, [.long lo, .int (bI li), .long hi, .int (bI hn)]))] s.heap := hP
  subst hsz
  simp only [List.nodup_cons, List.mem_cons, List.not_mem_nil, or_false, not_or, not_false_eq_true, List.nodup_nil, and_true] at nd nr
  have hS : va_S (fun q => q = aD) s.heap s.heap [] := va_S.rf
  have hPb : va_P D vwCl [(aE, .inr (0, [.ref aK, .ref aV, .int (nI c)])), (aK, .inl (cy, 512, .inl k)), (aV, .inl (cy, 512, .inl v)), (aR, .inr (1, [.long lo, .int (bI li), .long hi, .int (bI hn)]))] s.heap := hP.sub [1, 2, 3, 4] rfl
  have hno : ∀ q ∈ ([(aE, .inr (0, [.ref aK, .ref aV, .int (nI c)])), (aK, .inl (cy, 512, .inl k)), (aV, .inl (cy, 512, .inl v)), (aR, .inr (1, [.long lo, .int (bI li), .long hi, .int (bI hn)]))] : va_W).map Prod.fst, ¬ q = aD := (by intro q hq; simp only [List.map_cons, List.map_nil, List.mem_cons, List.not_mem_nil, or_false] at hq; omega)
  refine lv_aload_n hx hb dX2_turn_0 rfl (lv_at hl 0 rfl) ?_
  refine lv_aload_n hx hb dX2_turn_1 rfl (lv_at hl 0 rfl) ?_
  refine va_get (ci := 2) (v := .int (bI fl)) (C := RX2) (T := TX2) (N := 4) hx hb hts hin_X2 hown hK hP 0 rfl rfl 3 (by decide) kf_32 (fun _ h9 => h9) rfl dX2_turn_2 ?_
  refine lv_not (tgt := 12) (J := 13) hx hb dX2_turn_5 (by decide) dX2_turn_8 dX2_turn_9 (by decide) dX2_turn_12 rfl ?_
  refine va_put (A := fun q => q = aD) (ci := 2) (v := .int (bI (!fl))) (ty := .boolean) (C := RX2) (T := TX2) (N := 4) hx hb hts hin_X2 tyX2 tyX2_ok nmX2 hown hK (hP.sub (ws' := [(aD, .inr (2, [.ref aE, .ref aW, .ref aR, .int (bI fl)]))]) [0] rfl) D1 hS 0 rfl rfl 3 (by decide) kf_32 (fun _ h9 => h9) rfl (by decide +kernel) (bI_nar _) (bI_fit _) (Nat.le_of_ble_eq_true rfl) dX2_turn_13 (fun H locs hPn _ hS => ?_)
  have hP : va_P D vwCl [(aD, .inr (2, [.ref aE, .ref aW, .ref aR, .int (bI (!fl))])), (aE, .inr (0, [.ref aK, .ref aV, .int (nI c)])), (aK, .inl (cy, 512, .inl k)), (aV, .inl (cy, 512, .inl v)), (aR, .inr (1, [.long lo, .int (bI li), .long hi, .int (bI hn)]))] H := va_P.app (w1 := [(aD, .inr (2, [.ref aE, .ref aW, .ref aR, .int (bI (!fl))]))]) hPn (P_keep (A := fun q => q = aD) hPb hno hS.2.1)
  refine lv_aload_n hx hb dX2_turn_16 rfl (lv_at hl 0 rfl) ?_
  refine go_R (va_runV (As := []) (rest := []) ⟨hx, hb, hml, hown, hts⟩ (c_X2_viewSize l D cy aD aE aK aV aW aR k v c (by omega) lo li hi hn ((!fl))) (cwV 0 hts gX2_turn_X2_viewSize rfl rfl rfl (by decide +kernel) ⟨(Nat.le_of_ble_eq_true rfl), (Nat.le_of_ble_eq_true rfl)⟩) (preV_W hK (hP.sub [0, 1, 2, 3, 4] rfl) 0 2 rfl rfl) rfl rfl hl.1 rfl (lv_room (Nat.le_of_ble_eq_true rfl)) dX2_turn_17 ⟨(Nat.le_of_ble_eq_true rfl), (Nat.le_of_ble_eq_true rfl)⟩) ?_
  exact ret_iM hx hb hr hlocks dX2_turn_20 (S_weak hS) rfl hP

set_option maxHeartbeats 4000000 in
set_option maxRecDepth 100000 in
/-- again() -/
theorem c_X2_again (l : Launch) (D : va_G) (cy : ClassId) (aD aE aK aV aW aR : Nat) (k v : Nat → Int32) (c : Nat) (hc : c ≤ 100) (fl : Bool) (nd : ([aD, aE, aK, aV] : List Nat).Nodup) (sz : Nat) : Met l yX2_again wsX2_again ({ frames := 1, cells := 0, slots := 0, locals := 20 } : Room) (pcZ D [(cy, .int)] [.ref aD] [(aD, .inr (2, [.ref aE, .ref aW, .ref aR, .int (bI fl)])), (aE, .inr (0, [.ref aK, .ref aV, .int (nI c)])), (aK, .inl (cy, 512, .inl k)), (aV, .inl (cy, 512, .inl v))] sz) (qM (some (.int (nI c))) (fun H => va_P D vwCl (d4 cy aD aE aK aV aW aW k v c false) H) (mA [aD] sz)) 0 0 (mA [aD] sz) := by
  refine met_Z (cc := cX2_again) (maxL := 1) (ret := (some .int)) (by decide +kernel) rfl (Nat.le_of_ble_eq_true rfl) ?_
  intro pM eM s mM below meth cM ls hx hb hr hts hown hlocks hml hnm hsz hK hP hl
  have hown : s.vm.findClass RX2 = some mM.cls := hown
  have hl : lv_has ls 1 [(0, .ref aD)] := hl
  have hin_X2 : ∀ w ∈ wsX20, w ∈ wsX2_again := by decide +kernel
  have kf_12 := hts (.fieldLink RX2 12 "OrderedDesk" "entries" "LOrderedDesk$Entries;") (by decide +kernel)
  have kf_25 := hts (.fieldLink RX2 25 "OrderedDesk" "whole" "LOrderedDesk$Range;") (by decide +kernel)
  have kf_29 := hts (.fieldLink RX2 29 "OrderedDesk" "range" "LOrderedDesk$Range;") (by decide +kernel)
  have kf_32 := hts (.fieldLink RX2 32 "OrderedDesk" "falling" "Z") (by decide +kernel)
  have hP : va_P D vwCl [(aD, .inr (2, [.ref aE, .ref aW, .ref aR, .int (bI fl)])), (aE, .inr (0, [.ref aK, .ref aV, .int (nI c)])), (aK, .inl (cy, 512, .inl k)), (aV, .inl (cy, 512, .inl v))] s.heap := hP
  subst hsz
  simp only [List.nodup_cons, List.mem_cons, List.not_mem_nil, or_false, not_or, not_false_eq_true, List.nodup_nil, and_true] at nd
  have hS : va_S (fun q => q = aD) s.heap s.heap [] := va_S.rf
  have hPb : va_P D vwCl [(aE, .inr (0, [.ref aK, .ref aV, .int (nI c)])), (aK, .inl (cy, 512, .inl k)), (aV, .inl (cy, 512, .inl v))] s.heap := hP.sub [1, 2, 3] rfl
  have hno : ∀ q ∈ ([(aE, .inr (0, [.ref aK, .ref aV, .int (nI c)])), (aK, .inl (cy, 512, .inl k)), (aV, .inl (cy, 512, .inl v))] : va_W).map Prod.fst, ¬ q = aD := (by intro q hq; simp only [List.map_cons, List.map_nil, List.mem_cons, List.not_mem_nil, or_false] at hq; omega)
  refine lv_aload_n hx hb dX2_again_0 rfl (lv_at hl 0 rfl) ?_
  refine va_get (ci := 2) (v := .ref aE) (C := RX2) (T := TX2) (N := 4) hx hb hts hin_X2 hown hK hP 0 rfl rfl 0 (by decide) kf_12 (fun _ h9 => h9) rfl dX2_again_1 ?_
  refine go_R (va_runV (As := []) (rest := []) ⟨hx, hb, hml, hown, hts⟩ (c_X0_count l D cy aE aK aV k v c (by omega)) (cwV 0 hts gX2_again_X0_count rfl rfl rfl (by decide +kernel) ⟨(Nat.le_of_ble_eq_true rfl), (Nat.le_of_ble_eq_true rfl)⟩) (preV_W hK (hP.sub [1, 2, 3] rfl) 0 0 rfl rfl) rfl rfl hl.1 rfl (lv_room (Nat.le_of_ble_eq_true rfl)) dX2_again_4 ⟨(Nat.le_of_ble_eq_true rfl), (Nat.le_of_ble_eq_true rfl)⟩) ?_
  refine lv_bipush (v := nI 100) hx hb dX2_again_7 (by decide) ?_
  refine n_le (tgt := 14) (by omega) (by omega) hx hb dX2_again_9 (by decide) (fun h9 => ?_) (fun h9 => ?_)
  · refine lv_aload_n hx hb dX2_again_14 rfl (lv_at hl 0 rfl) ?_
    refine lv_aload_n hx hb dX2_again_15 rfl (lv_at hl 0 rfl) ?_
    refine va_get (ci := 2) (v := .ref aW) (C := RX2) (T := TX2) (N := 4) hx hb hts hin_X2 hown hK hP 0 rfl rfl 1 (by decide) kf_25 (fun _ h9 => h9) rfl dX2_again_16 ?_
    refine va_put (A := fun q => q = aD) (ci := 2) (v := .ref aW) (ty := .object "OrderedDesk$Range") (C := RX2) (T := TX2) (N := 4) hx hb hts hin_X2 tyX2 tyX2_ok nmX2 hown hK (hP.sub (ws' := [(aD, .inr (2, [.ref aE, .ref aW, .ref aR, .int (bI fl)]))]) [0] rfl) D1 hS 0 rfl rfl 2 (by decide) kf_29 (fun _ h9 => h9) rfl (by decide +kernel) rfl rfl (Nat.le_of_ble_eq_true rfl) dX2_again_19 (fun H locs hPn _ hS => ?_)
    have hP : va_P D vwCl [(aD, .inr (2, [.ref aE, .ref aW, .ref aW, .int (bI fl)])), (aE, .inr (0, [.ref aK, .ref aV, .int (nI c)])), (aK, .inl (cy, 512, .inl k)), (aV, .inl (cy, 512, .inl v))] H := va_P.app (w1 := [(aD, .inr (2, [.ref aE, .ref aW, .ref aW, .int (bI fl)]))]) hPn (P_keep (A := fun q => q = aD) hPb hno hS.2.1)
    refine lv_aload_n hx hb dX2_again_22 rfl (lv_at hl 0 rfl) ?_
    refine lv_iconst (v := bI false) hx hb dX2_again_23 (by decide) ?_
    refine va_put (A := fun q => q = aD) (ci := 2) (v := .int (bI false)) (ty := .boolean) (C := RX2) (T := TX2) (N := 4) hx hb hts hin_X2 tyX2 tyX2_ok nmX2 hown hK (hP.sub (ws' := [(aD, .inr (2, [.ref aE, .ref aW, .ref aW, .int (bI fl)]))]) [0] rfl) D1 hS 0 rfl rfl 3 (by decide) kf_32 (fun _ h9 => h9) rfl (by decide +kernel) (bI_nar _) (bI_fit _) (Nat.le_of_ble_eq_true rfl) dX2_again_24 (fun H locs hPn _ hS => ?_)
    have hP : va_P D vwCl [(aD, .inr (2, [.ref aE, .ref aW, .ref aW, .int (bI false)])), (aE, .inr (0, [.ref aK, .ref aV, .int (nI c)])), (aK, .inl (cy, 512, .inl k)), (aV, .inl (cy, 512, .inl v))] H := va_P.app (w1 := [(aD, .inr (2, [.ref aE, .ref aW, .ref aW, .int (bI false)]))]) hPn (P_keep (A := fun q => q = aD) hPb hno hS.2.1)
    refine lv_aload_n hx hb dX2_again_27 rfl (lv_at hl 0 rfl) ?_
    refine va_get (ci := 2) (v := .ref aE) (C := RX2) (T := TX2) (N := 4) hx hb hts hin_X2 hown hK hP 0 rfl rfl 0 (by decide) kf_12 (fun _ h9 => h9) rfl dX2_again_28 ?_
    refine go_R (va_runV (As := []) (rest := []) ⟨hx, hb, hml, hown, hts⟩ (c_X0_count l D cy aE aK aV k v c (by omega)) (cwV 0 hts gX2_again_X0_count rfl rfl rfl (by decide +kernel) ⟨(Nat.le_of_ble_eq_true rfl), (Nat.le_of_ble_eq_true rfl)⟩) (preV_W hK (hP.sub [1, 2, 3] rfl) 0 0 rfl rfl) rfl rfl hl.1 rfl (lv_room (Nat.le_of_ble_eq_true rfl)) dX2_again_31 ⟨(Nat.le_of_ble_eq_true rfl), (Nat.le_of_ble_eq_true rfl)⟩) ?_
    exact ret_iM hx hb hr hlocks dX2_again_34 (S_weak hS) rfl hP
  · exact absurd h9 (by omega)

set_option maxHeartbeats 4000000 in
set_option maxRecDepth 100000 in
/-- look(kind, from, fromIn, to, toIn) -/
theorem c_X2_look (l : Launch) (D : va_G) (cy : ClassId) (aD aE aK aV aW aR : Nat) (k v : Nat → Int32) (c : Nat) (hc : c ≤ 512) (lo : Int64) (li : Bool) (hi : Int64) (hn : Bool) (fl : Bool) (nd : ([aD, aE, aK, aV] : List Nat).Nodup) (nr : ¬ aW ∈ ([aD, aE, aK, aV] : List Nat)) (sz : Nat) (kind f : Int32) (fi : Bool) (t : Int32) (ti : Bool) : Met l yX2_look wsX2_look ({ frames := 4, cells := 2, slots := 8, locals := 94 } : Room) (pcZ D [(cy, .int)] [.ref aD, .int kind, .int f, .int (bI fi), .int t, .int (bI ti)] [(aD, .inr (2, [.ref aE, .ref aW, .ref aR, .int (bI fl)])), (aE, .inr (0, [.ref aK, .ref aV, .int (nI c)])), (aK, .inl (cy, 512, .inl k)), (aV, .inl (cy, 512, .inl v)), (aW, .inr (1, [.long lo, .int (bI li), .long hi, .int (bI hn)]))] sz) (qX (fun _ : Nat => some (.int (lkA (prt lo li hi hn kind f fi t ti false)))) (fun u t2 => lkB D cy aD aE aK aV aW aR k v c fl false aW sz (prt lo li hi hn kind f fi t ti false) u t2.heap) (mA [aD] sz)) 2 8 (mA [aD] sz) := by
  refine met_Z (cc := cX2_look) (maxL := 7) (ret := (some .int)) (by decide +kernel) rfl (Nat.le_of_ble_eq_true rfl) ?_
  intro pM eM s mM below meth cM ls hx hb hr hts hown hlocks hml hnm hsz hK hP hl
  have hown : s.vm.findClass RX2 = some mM.cls := hown
  have hl : lv_has ls 7 [(0, .ref aD), (1, .int kind), (2, .int f), (3, .int (bI fi)), (4, .int t), (5, .int (bI ti))] := hl
  have hin_X2 : ∀ w ∈ wsX20, w ∈ wsX2_look := by decide +kernel
  have kf_25 := hts (.fieldLink RX2 25 "OrderedDesk" "whole" "LOrderedDesk$Range;") (by decide +kernel)
  have kf_29 := hts (.fieldLink RX2 29 "OrderedDesk" "range" "LOrderedDesk$Range;") (by decide +kernel)
  have kf_32 := hts (.fieldLink RX2 32 "OrderedDesk" "falling" "Z") (by decide +kernel)
  have hP : va_P D vwCl [(aD, .inr (2, [.ref aE, .ref aW, .ref aR, .int (bI fl)])), (aE, .inr (0, [.ref aK, .ref aV, .int (nI c)])), (aK, .inl (cy, 512, .inl k)), (aV, .inl (cy, 512, .inl v)), (aW, .inr (1, [.long lo, .int (bI li), .long hi, .int (bI hn)]))] s.heap := hP
  subst hsz
  simp only [List.nodup_cons, List.mem_cons, List.not_mem_nil, or_false, not_or, not_false_eq_true, List.nodup_nil, and_true] at nd nr
  have hl0 : aD < s.heap.size := (hP 0 _ rfl).lt
  have hS : va_S (mA [] s.heap.size) s.heap s.heap [] := va_S.rf
  refine lv_aload_n hx hb dX2_look_0 rfl (lv_at hl 0 rfl) ?_
  refine va_get (ci := 2) (v := .ref aW) (C := RX2) (T := TX2) (N := 4) hx hb hts hin_X2 hown hK hP 0 rfl rfl 1 (by decide) kf_25 (fun _ h9 => h9) rfl dX2_look_1 ?_
  refine lv_iload_n hx hb dX2_look_4 rfl (lv_at hl 1 rfl) ?_
  refine lv_iload_n hx hb dX2_look_5 rfl (lv_at hl 2 rfl) ?_
  refine lv_iload_n hx hb dX2_look_6 rfl (lv_at hl 3 rfl) ?_
  refine lv_iload hx hb dX2_look_7 (lv_at hl 4 rfl) ?_
  refine lv_iload hx hb dX2_look_9 (lv_at hl 5 rfl) ?_
  refine lv_iconst (v := bI false) hx hb dX2_look_11 (by decide) ?_
  refine go_X (va_runV (As := [.int kind, .int f, .int (bI fi), .int t, .int (bI ti), .int (bI false)]) (rest := []) ⟨hx, hb, hml, hown, hts⟩ (c_X1_part l D cy aW lo li hi hn _ kind f fi t ti false) (cwV 6 hts gX2_look_X1_part rfl rfl rfl (by decide +kernel) ⟨Nat.le_of_ble_eq_true rfl, Nat.le_of_ble_eq_true rfl⟩) (preV_Z hK (hP.sub [4] rfl) 0 1 rfl rfl) rfl rfl hl.1 rfl (lv_room (Nat.le_of_ble_eq_true rfl)) dX2_look_12 ⟨Nat.le_of_ble_eq_true rfl, Nat.le_of_ble_eq_true rfl⟩) hS (fun q h => h) (fun u tt H1 locs1 ht hvm hB hzz hk hS1 => ?_)
  rw [ht] at hB
  have hP : va_P D vwCl [(aD, .inr (2, [.ref aE, .ref aW, .ref aR, .int (bI fl)])), (aE, .inr (0, [.ref aK, .ref aV, .int (nI c)])), (aK, .inl (cy, 512, .inl k)), (aV, .inl (cy, 512, .inl v)), (aW, .inr (1, [.long lo, .int (bI li), .long hi, .int (bI hn)]))] H1 := P_keepM hP (fun q _ => List.not_mem_nil) hk
  refine va_forget (fun q hq => (hS1.2.2 q hq).elim (fun w => absurd w List.not_mem_nil) id) ?_
  refine W.widen (k := 2) (n := 8) (by decide) (by decide) ?_
  rcases u with _ | a
  · have hz := ptB_none hB
    refine W.eq (g2 := F0 mM 15 ls [.null]) rfl ?_
    refine lv_astoreN (lv' := [(6, .null), (0, .ref aD), (1, .int kind), (2, .int f), (3, .int (bI fi)), (4, .int t), (5, .int (bI ti))]) hx hb dX2_look_15 hl (by decide) rfl (fun ls hl => ?_)
    refine lv_aloadN hx hb dX2_look_17 (lv_at hl 0 rfl) ?_
    refine lv_ifnonnullN hx hb dX2_look_19 ?_
    refine lv_iconst (v := 1) hx hb dX2_look_22 (by decide) ?_
    exact ret_iX hx hb hr hlocks dX2_look_23 (S_comp hS1 va_S.rf) aR (by rw [hz]; rfl) (fun t ht => by rw [hz]; exact ⟨rfl, by rw [ht]; exact hP.sub [0, 1, 2, 3] rfl⟩)
  · obtain ⟨r, hz, ha, hPr⟩ := ptB_some hB
    have haD : ¬ a = aD := ha.elim (fun q => by omega) (fun q => by omega)
    have hP : va_P D vwCl [(aD, .inr (2, [.ref aE, .ref aW, .ref aR, .int (bI fl)])), (aE, .inr (0, [.ref aK, .ref aV, .int (nI c)])), (aK, .inl (cy, 512, .inl k)), (aV, .inl (cy, 512, .inl v)), (a, .inr (1, [.long r.1, .int (bI r.2.1), .long r.2.2.1, .int (bI r.2.2.2)]))] H1 := (hP.sub [0, 1, 2, 3] rfl).app hPr
    have hPb : va_P D vwCl [(aE, .inr (0, [.ref aK, .ref aV, .int (nI c)])), (aK, .inl (cy, 512, .inl k)), (aV, .inl (cy, 512, .inl v)), (a, .inr (1, [.long r.1, .int (bI r.2.1), .long r.2.2.1, .int (bI r.2.2.2)]))] H1 := hP.sub [1, 2, 3, 4] rfl
    have hno : ∀ q ∈ ([(aE, .inr (0, [.ref aK, .ref aV, .int (nI c)])), (aK, .inl (cy, 512, .inl k)), (aV, .inl (cy, 512, .inl v)), (a, .inr (1, [.long r.1, .int (bI r.2.1), .long r.2.2.1, .int (bI r.2.2.2)]))] : va_W).map Prod.fst, ¬ q = aD := (by intro q hq; simp only [List.map_cons, List.map_nil, List.mem_cons, List.not_mem_nil, or_false] at hq; omega)
    have hS : va_S (fun q => q = aD) H1 H1 [] := va_S.rf
    refine W.eq (g2 := F0 mM 15 ls [.ref a]) rfl ?_
    refine lv_astore (lv' := [(6, .ref a), (0, .ref aD), (1, .int kind), (2, .int f), (3, .int (bI fi)), (4, .int t), (5, .int (bI ti))]) hx hb dX2_look_15 hl (by decide) rfl (fun ls hl => ?_)
    refine lv_aload hx hb dX2_look_17 (lv_at hl 0 rfl) ?_
    refine lv_ifnonnull (tgt := 24) hx hb dX2_look_19 (by decide) ?_
    refine lv_aload_n hx hb dX2_look_24 rfl (lv_at hl 1 rfl) ?_
    refine lv_aload hx hb dX2_look_25 (lv_at hl 0 rfl) ?_
    refine va_put (A := fun q => q = aD) (ci := 2) (v := .ref a) (ty := .object "OrderedDesk$Range") (C := RX2) (T := TX2) (N := 4) hx hb hts hin_X2 tyX2 tyX2_ok nmX2 hown hK (hP.sub (ws' := [(aD, .inr (2, [.ref aE, .ref aW, .ref aR, .int (bI fl)]))]) [0] rfl) D1 hS 0 rfl rfl 2 (by decide) kf_29 (fun _ h9 => h9) rfl (by decide +kernel) rfl rfl (Nat.le_of_ble_eq_true rfl) dX2_look_27 (fun H locs hPn _ hS => ?_)
    have hP : va_P D vwCl [(aD, .inr (2, [.ref aE, .ref aW, .ref a, .int (bI fl)])), (aE, .inr (0, [.ref aK, .ref aV, .int (nI c)])), (aK, .inl (cy, 512, .inl k)), (aV, .inl (cy, 512, .inl v)), (a, .inr (1, [.long r.1, .int (bI r.2.1), .long r.2.2.1, .int (bI r.2.2.2)]))] H := va_P.app (w1 := [(aD, .inr (2, [.ref aE, .ref aW, .ref a, .int (bI fl)]))]) hPn (P_keep (A := fun q => q = aD) hPb hno hS.2.1)
    refine lv_aload_n hx hb dX2_look_30 rfl (lv_at hl 1 rfl) ?_
    refine lv_iconst (v := bI false) hx hb dX2_look_31 (by decide) ?_
    refine va_put (A := fun q => q = aD) (ci := 2) (v := .int (bI false)) (ty := .boolean) (C := RX2) (T := TX2) (N := 4) hx hb hts hin_X2 tyX2 tyX2_ok nmX2 hown hK (hP.sub (ws' := [(aD, .inr (2, [.ref aE, .ref aW, .ref a, .int (bI fl)]))]) [0] rfl) D1 hS 0 rfl rfl 3 (by decide) kf_32 (fun _ h9 => h9) rfl (by decide +kernel) (bI_nar _) (bI_fit _) (Nat.le_of_ble_eq_true rfl) dX2_look_32 (fun H locs hPn _ hS => ?_)
    have hP : va_P D vwCl [(aD, .inr (2, [.ref aE, .ref aW, .ref a, .int (bI false)])), (aE, .inr (0, [.ref aK, .ref aV, .int (nI c)])), (aK, .inl (cy, 512, .inl k)), (aV, .inl (cy, 512, .inl v)), (a, .inr (1, [.long r.1, .int (bI r.2.1), .long r.2.2.1, .int (bI r.2.2.2)]))] H := va_P.app (w1 := [(aD, .inr (2, [.ref aE, .ref aW, .ref a, .int (bI false)]))]) hPn (P_keep (A := fun q => q = aD) hPb hno hS.2.1)
    refine lv_iconst (v := 0) hx hb dX2_look_35 (by decide) ?_
    exact ret_iX hx hb hr hlocks dX2_look_36 (S_comp hS1 hS) a (by rw [hz]; rfl) (fun t ht => by rw [hz]; exact ⟨ha, by rw [ht]; exact hP.sub [0, 1, 2, 3] rfl, by rw [ht]; exact hP.sub [4] rfl⟩)

set_option maxHeartbeats 4000000 in
set_option maxRecDepth 100000 in
/-- narrow(kind, from, fromIn, to, toIn) -/
theorem c_X2_narrow (l : Launch) (D : va_G) (cy : ClassId) (aD aE aK aV aW aR : Nat) (k v : Nat → Int32) (c : Nat) (hc : c ≤ 512) (lo : Int64) (li : Bool) (hi : Int64) (hn : Bool) (fl : Bool) (nd : ([aD, aE, aK, aV] : List Nat).Nodup) (nr : ¬ aR ∈ ([aD, aE, aK, aV] : List Nat)) (sz : Nat) (kind f : Int32) (fi : Bool) (t : Int32) (ti : Bool) : Met l yX2_narrow wsX2_narrow ({ frames := 4, cells := 2, slots := 8, locals := 94 } : Room) (pcZ D [(cy, .int)] [.ref aD, .int kind, .int f, .int (bI fi), .int t, .int (bI ti)] [(aD, .inr (2, [.ref aE, .ref aW, .ref aR, .int (bI fl)])), (aE, .inr (0, [.ref aK, .ref aV, .int (nI c)])), (aK, .inl (cy, 512, .inl k)), (aV, .inl (cy, 512, .inl v)), (aR, .inr (1, [.long lo, .int (bI li), .long hi, .int (bI hn)]))] sz) (qX (fun _ : Nat => some (.int (lkA (prt lo li hi hn kind f fi t ti fl)))) (fun u t2 => lkB D cy aD aE aK aV aW aR k v c fl fl aR sz (prt lo li hi hn kind f fi t ti fl) u t2.heap) (mA [aD] sz)) 2 8 (mA [aD] sz) := by
  refine met_Z (cc := cX2_narrow) (maxL := 7) (ret := (some .int)) (by decide +kernel) rfl (Nat.le_of_ble_eq_true rfl) ?_
  intro pM eM s mM below meth cM ls hx hb hr hts hown hlocks hml hnm hsz hK hP hl
  have hown : s.vm.findClass RX2 = some mM.cls := hown
  have hl : lv_has ls 7 [(0, .ref aD), (1, .int kind), (2, .int f), (3, .int (bI fi)), (4, .int t), (5, .int (bI ti))] := hl
  have hin_X2 : ∀ w ∈ wsX20, w ∈ wsX2_narrow := by decide +kernel
  have kf_29 := hts (.fieldLink RX2 29 "OrderedDesk" "range" "LOrderedDesk$Range;") (by decide +kernel)
  have kf_32 := hts (.fieldLink RX2 32 "OrderedDesk" "falling" "Z") (by decide +kernel)
  have hP : va_P D vwCl [(aD, .inr (2, [.ref aE, .ref aW, .ref aR, .int (bI fl)])), (aE, .inr (0, [.ref aK, .ref aV, .int (nI c)])), (aK, .inl (cy, 512, .inl k)), (aV, .inl (cy, 512, .inl v)), (aR, .inr (1, [.long lo, .int (bI li), .long hi, .int (bI hn)]))] s.heap := hP
  subst hsz
  simp only [List.nodup_cons, List.mem_cons, List.not_mem_nil, or_false, not_or, not_false_eq_true, List.nodup_nil, and_true] at nd nr
  have hl0 : aD < s.heap.size := (hP 0 _ rfl).lt
  have hS : va_S (mA [] s.heap.size) s.heap s.heap [] := va_S.rf
  refine lv_aload_n hx hb dX2_narrow_0 rfl (lv_at hl 0 rfl) ?_
  refine va_get (ci := 2) (v := .ref aR) (C := RX2) (T := TX2) (N := 4) hx hb hts hin_X2 hown hK hP 0 rfl rfl 2 (by decide) kf_29 (fun _ h9 => h9) rfl dX2_narrow_1 ?_
  refine lv_iload_n hx hb dX2_narrow_4 rfl (lv_at hl 1 rfl) ?_
  refine lv_iload_n hx hb dX2_narrow_5 rfl (lv_at hl 2 rfl) ?_
  refine lv_iload_n hx hb dX2_narrow_6 rfl (lv_at hl 3 rfl) ?_
  refine lv_iload hx hb dX2_narrow_7 (lv_at hl 4 rfl) ?_
  refine lv_iload hx hb dX2_narrow_9 (lv_at hl 5 rfl) ?_
  refine lv_aload_n hx hb dX2_narrow_11 rfl (lv_at hl 0 rfl) ?_
  refine va_get (ci := 2) (v := .int (bI fl)) (C := RX2) (T := TX2) (N := 4) hx hb hts hin_X2 hown hK hP 0 rfl rfl 3 (by decide) kf_32 (fun _ h9 => h9) rfl dX2_narrow_12 ?_
  refine go_X (va_runV (As := [.int kind, .int f, .int (bI fi), .int t, .int (bI ti), .int (bI fl)]) (rest := []) ⟨hx, hb, hml, hown, hts⟩ (c_X1_part l D cy aR lo li hi hn _ kind f fi t ti fl) (cwV 6 hts gX2_narrow_X1_part rfl rfl rfl (by decide +kernel) ⟨Nat.le_of_ble_eq_true rfl, Nat.le_of_ble_eq_true rfl⟩) (preV_Z hK (hP.sub [4] rfl) 0 1 rfl rfl) rfl rfl hl.1 rfl (lv_room (Nat.le_of_ble_eq_true rfl)) dX2_narrow_15 ⟨Nat.le_of_ble_eq_true rfl, Nat.le_of_ble_eq_true rfl⟩) hS (fun q h => h) (fun u tt H1 locs1 ht hvm hB hzz hk hS1 => ?_)
  rw [ht] at hB
  have hP : va_P D vwCl [(aD, .inr (2, [.ref aE, .ref aW, .ref aR, .int (bI fl)])), (aE, .inr (0, [.ref aK, .ref aV, .int (nI c)])), (aK, .inl (cy, 512, .inl k)), (aV, .inl (cy, 512, .inl v)), (aR, .inr (1, [.long lo, .int (bI li), .long hi, .int (bI hn)]))] H1 := P_keepM hP (fun q _ => List.not_mem_nil) hk
  refine va_forget (fun q hq => (hS1.2.2 q hq).elim (fun w => absurd w List.not_mem_nil) id) ?_
  refine W.widen (k := 2) (n := 8) (by decide) (by decide) ?_
  rcases u with _ | a
  · have hz := ptB_none hB
    refine W.eq (g2 := F0 mM 18 ls [.null]) rfl ?_
    refine lv_astoreN (lv' := [(6, .null), (0, .ref aD), (1, .int kind), (2, .int f), (3, .int (bI fi)), (4, .int t), (5, .int (bI ti))]) hx hb dX2_narrow_18 hl (by decide) rfl (fun ls hl => ?_)
    refine lv_aloadN hx hb dX2_narrow_20 (lv_at hl 0 rfl) ?_
    refine lv_ifnonnullN hx hb dX2_narrow_22 ?_
    refine lv_iconst (v := 1) hx hb dX2_narrow_25 (by decide) ?_
    exact ret_iX hx hb hr hlocks dX2_narrow_26 (S_comp hS1 va_S.rf) aR (by rw [hz]; rfl) (fun t ht => by rw [hz]; exact ⟨rfl, by rw [ht]; exact hP.sub [0, 1, 2, 3] rfl⟩)
  · obtain ⟨r, hz, ha, hPr⟩ := ptB_some hB
    have haD : ¬ a = aD := ha.elim (fun q => by omega) (fun q => by omega)
    have hP : va_P D vwCl [(aD, .inr (2, [.ref aE, .ref aW, .ref aR, .int (bI fl)])), (aE, .inr (0, [.ref aK, .ref aV, .int (nI c)])), (aK, .inl (cy, 512, .inl k)), (aV, .inl (cy, 512, .inl v)), (a, .inr (1, [.long r.1, .int (bI r.2.1), .long r.2.2.1, .int (bI r.2.2.2)]))] H1 := (hP.sub [0, 1, 2, 3] rfl).app hPr
    have hPb : va_P D vwCl [(aE, .inr (0, [.ref aK, .ref aV, .int (nI c)])), (aK, .inl (cy, 512, .inl k)), (aV, .inl (cy, 512, .inl v)), (a, .inr (1, [.long r.1, .int (bI r.2.1), .long r.2.2.1, .int (bI r.2.2.2)]))] H1 := hP.sub [1, 2, 3, 4] rfl
    have hno : ∀ q ∈ ([(aE, .inr (0, [.ref aK, .ref aV, .int (nI c)])), (aK, .inl (cy, 512, .inl k)), (aV, .inl (cy, 512, .inl v)), (a, .inr (1, [.long r.1, .int (bI r.2.1), .long r.2.2.1, .int (bI r.2.2.2)]))] : va_W).map Prod.fst, ¬ q = aD := (by intro q hq; simp only [List.map_cons, List.map_nil, List.mem_cons, List.not_mem_nil, or_false] at hq; omega)
    have hS : va_S (fun q => q = aD) H1 H1 [] := va_S.rf
    refine W.eq (g2 := F0 mM 18 ls [.ref a]) rfl ?_
    refine lv_astore (lv' := [(6, .ref a), (0, .ref aD), (1, .int kind), (2, .int f), (3, .int (bI fi)), (4, .int t), (5, .int (bI ti))]) hx hb dX2_narrow_18 hl (by decide) rfl (fun ls hl => ?_)
    refine lv_aload hx hb dX2_narrow_20 (lv_at hl 0 rfl) ?_
    refine lv_ifnonnull (tgt := 27) hx hb dX2_narrow_22 (by decide) ?_
    refine lv_aload_n hx hb dX2_narrow_27 rfl (lv_at hl 1 rfl) ?_
    refine lv_aload hx hb dX2_narrow_28 (lv_at hl 0 rfl) ?_
    refine va_put (A := fun q => q = aD) (ci := 2) (v := .ref a) (ty := .object "OrderedDesk$Range") (C := RX2) (T := TX2) (N := 4) hx hb hts hin_X2 tyX2 tyX2_ok nmX2 hown hK (hP.sub (ws' := [(aD, .inr (2, [.ref aE, .ref aW, .ref aR, .int (bI fl)]))]) [0] rfl) D1 hS 0 rfl rfl 2 (by decide) kf_29 (fun _ h9 => h9) rfl (by decide +kernel) rfl rfl (Nat.le_of_ble_eq_true rfl) dX2_narrow_30 (fun H locs hPn _ hS => ?_)
    have hP : va_P D vwCl [(aD, .inr (2, [.ref aE, .ref aW, .ref a, .int (bI fl)])), (aE, .inr (0, [.ref aK, .ref aV, .int (nI c)])), (aK, .inl (cy, 512, .inl k)), (aV, .inl (cy, 512, .inl v)), (a, .inr (1, [.long r.1, .int (bI r.2.1), .long r.2.2.1, .int (bI r.2.2.2)]))] H := va_P.app (w1 := [(aD, .inr (2, [.ref aE, .ref aW, .ref a, .int (bI fl)]))]) hPn (P_keep (A := fun q => q = aD) hPb hno hS.2.1)
    refine lv_iconst (v := 0) hx hb dX2_narrow_33 (by decide) ?_
    exact ret_iX hx hb hr hlocks dX2_narrow_34 (S_comp hS1 hS) a (by rw [hz]; rfl) (fun t ht => by rw [hz]; exact ⟨ha, by rw [ht]; exact hP.sub [0, 1, 2, 3] rfl, by rw [ht]; exact hP.sub [4] rfl⟩)
