/-! the law from its entry -/
theorem LI_pos {D : va_G} {s : State} {b q : Nat} {pos : Int32} {H : Heap} {locs : List Loc} {ls : Array Slot} (h : LI D s b q pos H locs ls) : ∃ aD aM : Nat, lv_has ls 4 [(0, .ref b), (1, .ref aD), (2, .ref aM), (3, .int pos)] ∧ va_S (fun q => s.heap.size ≤ q) s.heap H locs ∧ ∀ (q2 : Nat) (ls2 : Array Slot) (pos2 : Int32), q ≤ q2 → lv_has ls2 4 [(0, .ref b), (1, .ref aD), (2, .ref aM), (3, .int pos2)] → LI D s b q2 pos2 H locs ls2 := by
  obtain ⟨cy, cy2, aD, aE, aK, aV, aW, aR, aM, aA, aB, k, v, c, lo, li, hi, hn, fl, k2, v2, c2, gl, gh, ml, mh, f2, mlo, mhi, hK, hS, hAD, hW, hRel, hRR, hcq, hcc, hff, hl⟩ := h
  exact ⟨aD, aM, hl, hS, fun q2 ls2 pos2 h1 h2 => ⟨cy, cy2, aD, aE, aK, aV, aW, aR, aM, aA, aB, k, v, c, lo, li, hi, hn, fl, k2, v2, c2, gl, gh, ml, mh, f2, mlo, mhi, hK, hS, hAD, hW, hRel, hRR, Nat.le_trans hcq h1, hcc, hff, h2⟩⟩
set_option maxHeartbeats 4000000 in
set_option maxRecDepth 100000 in
/-- THE LAW'S LOOP -/
theorem law_loop {p : Program} {l : Launch} {e : Env} {s : State} {m : MethodId} {below : List Frame} {meth : Method} {c0 : Code} {b L : Nat} {xs : Nat → Int32} {D : va_G} (hL : L ≤ 288) (C0 : lw_At p s m meth c0 b L xs) {H : Heap} {locs : List Loc} {ls : Array Slot} (h : LI D s b 0 (nI (6 * 0)) H locs ls) : W p l e room_1 s m #[Value.ref b] below meth c0 H locs (8 + 2 * 0) (1173 + 8 * 0) (lw_Z below #[Value.ref b] s) (F0 m 18 ls []) := by
  refine W_loopC (I := fun q H locs ls => LI D s b q (nI (6 * q)) H locs ls ∧ q ≤ 48) (μ := fun q => 48 - q) (cf := fun q => 8 + 2 * q) (sf := fun q => 1173 + 8 * q) (fun q H locs ls hI ih => ?_) 0 ⟨h, by omega⟩
  obtain ⟨hI, hq48⟩ := hI
  obtain ⟨hx, hb, hr, hml, hown, hts, hX, hbl, hlocks, hgv⟩ := id C0
  have hb : c0.code = cL_law := hb
  have hbA : ¬ (fun q : Nat => s.heap.size ≤ q) b := Nat.not_le.mpr hbl
  obtain ⟨aD, aM, hl, hS, hback⟩ := LI_pos hI
  refine lv_iload_n hx hb dL_law_18 rfl (lv_at hl 3 rfl) ?_
  refine lv_aload_n hx hb dL_law_19 rfl (lv_at hl 0 rfl) ?_
  refine va_slen hx hb hX hbl hbA hS dL_law_20 ?_
  refine lv_bipush (v := nI 6) hx hb dL_law_21 (by decide) ?_
  refine lv_isub hx hb dL_law_23 ?_
  have hT : (nI L - nI 6).toInt = (L : Int) - 6 := pk_sub_toInt (by omega) (by omega)
  refine lv_icmp_gt (tgt := 864) hx hb dL_law_24 (by decide) (fun c_1 => ?_) (fun c_1 => ?_)
  · refine lv_iconst (v := 1) hx hb dL_law_864 (by decide) ?_
    refine va_forget (fun q hq => hS.2.2 q hq) ?_
    refine W.widen (k := 600000) (n := 7302250) (by omega) (by omega) ?_
    exact lw_ret hx hb hr hlocks dL_law_865
  · have hq : 6 * q + 6 ≤ L := by
      have c_2 : ¬ (nI L - nI 6 < nI (6 * q)) := c_1
      rw [Int32.lt_iff_toInt_lt, hT, nI_toInt (by omega)] at c_2
      omega
    have J : ∀ (H : Heap) (locs : List Loc) (ls : Array Slot), LI D s b (q + 1) (nI (6 * q)) H locs ls → W p l e room_1 s m #[Value.ref b] below meth c0 H locs (8 + 2 * (q + 1)) (1173 + 8 * (q + 1)) (lw_Z below #[Value.ref b] s) (F0 m 858 ls []) := by
      intro H locs ls hI
      obtain ⟨aD, aM, hl, hS, hback⟩ := LI_pos hI
      refine lv_iinc (v := nI (6 * (q + 1))) (lv' := [(3, .int (nI (6 * (q + 1)))), (0, .ref b), (1, .ref aD), (2, .ref aM)]) hx hb dL_law_858 hl (k := 3) rfl (by rw [show 6 * (q + 1) = 6 * q + 6 by omega]; exact nI_add _ 6) (by decide) rfl (fun ls hl => ?_)
      refine lv_goto (tgt := 18) hx hb dL_law_861 (by decide) ?_
      exact ih (q + 1) _ _ _ (by omega) ⟨hback (q + 1) ls _ (Nat.le_refl _) (lv_sub hl [1, 2, 3, 0] rfl), by omega⟩
    refine lv_aload_n hx hb dL_law_27 rfl (lv_at hl 0 rfl) ?_
    refine lv_iload_n hx hb dL_law_28 rfl (lv_at hl 3 rfl) ?_
    refine s_ld hx hb hX hbl hbA hS (by omega) (by omega) dL_law_29 ?_
    refine lv_bipush (v := 31) hx hb dL_law_30 (by decide) ?_
    refine lv_iand hx hb dL_law_32 ?_
    obtain ⟨j, hj, ej⟩ := pk_andE (xs (6 * q)) (m := 31) 5 (by decide)
    refine top_i (y := nI j) ej ?_
    rcases (show j = 0 ∨ j = 1 ∨ j = 2 ∨ j = 3 ∨ j = 4 ∨ j = 5 ∨ j = 6 ∨ j = 7 ∨ j = 8 ∨ j = 9 ∨ j = 10 ∨ j = 11 ∨ j = 12 ∨ j = 13 ∨ j = 14 ∨ j = 15 ∨ j = 16 ∨ j = 17 ∨ j = 18 ∨ j = 19 ∨ j = 20 ∨ j = 21 ∨ j = 22 ∨ 22 < j by omega) with rfl | rfl | rfl | rfl | rfl | rfl | rfl | rfl | rfl | rfl | rfl | rfl | rfl | rfl | rfl | rfl | rfl | rfl | rfl | rfl | rfl | rfl | rfl | hj2
    · refine lv_tableIn (off := 107) (tgt := 140) hx hb dL_law_33 (by decide) (by decide) (by decide) (by decide) ?_
      exact law_0 C0 hL hq hI J
    · refine lv_tableIn (off := 141) (tgt := 174) hx hb dL_law_33 (by decide) (by decide) (by decide) (by decide) ?_
      exact law_1 C0 hL hq hI J
    · refine lv_tableIn (off := 175) (tgt := 208) hx hb dL_law_33 (by decide) (by decide) (by decide) (by decide) ?_
      exact law_2 C0 hL hq hI J
    · refine lv_tableIn (off := 199) (tgt := 232) hx hb dL_law_33 (by decide) (by decide) (by decide) (by decide) ?_
      exact law_3 C0 hL hq hI J
    · refine lv_tableIn (off := 223) (tgt := 256) hx hb dL_law_33 (by decide) (by decide) (by decide) (by decide) ?_
      exact law_4 C0 hL hq hI J
    · refine lv_tableIn (off := 256) (tgt := 289) hx hb dL_law_33 (by decide) (by decide) (by decide) (by decide) ?_
      exact law_5 C0 hL hq hI J
    · refine lv_tableIn (off := 290) (tgt := 323) hx hb dL_law_33 (by decide) (by decide) (by decide) (by decide) ?_
      exact law_6 C0 hL hq hI J
    · refine lv_tableIn (off := 330) (tgt := 363) hx hb dL_law_33 (by decide) (by decide) (by decide) (by decide) ?_
      exact law_7 C0 hL hq hI J
    · refine lv_tableIn (off := 343) (tgt := 376) hx hb dL_law_33 (by decide) (by decide) (by decide) (by decide) ?_
      exact law_8 C0 hL hq hI J
    · refine lv_tableIn (off := 356) (tgt := 389) hx hb dL_law_33 (by decide) (by decide) (by decide) (by decide) ?_
      exact law_9 C0 hL hq hI J
    · refine lv_tableIn (off := 451) (tgt := 484) hx hb dL_law_33 (by decide) (by decide) (by decide) (by decide) ?_
      exact law_10 C0 hL hq hI J
    · refine lv_tableIn (off := 546) (tgt := 579) hx hb dL_law_33 (by decide) (by decide) (by decide) (by decide) ?_
      exact law_11 C0 hL hq hI J
    · refine lv_tableIn (off := 559) (tgt := 592) hx hb dL_law_33 (by decide) (by decide) (by decide) (by decide) ?_
      exact law_12 C0 hL hq hI J
    · refine lv_tableIn (off := 572) (tgt := 605) hx hb dL_law_33 (by decide) (by decide) (by decide) (by decide) ?_
      exact law_13 C0 hL hq hI J
    · refine lv_tableIn (off := 606) (tgt := 639) hx hb dL_law_33 (by decide) (by decide) (by decide) (by decide) ?_
      exact law_14 C0 hL hq hI J
    · refine lv_tableIn (off := 630) (tgt := 663) hx hb dL_law_33 (by decide) (by decide) (by decide) (by decide) ?_
      exact law_15 C0 hL hq hI J
    · refine lv_tableIn (off := 654) (tgt := 687) hx hb dL_law_33 (by decide) (by decide) (by decide) (by decide) ?_
      exact law_16 C0 hL hq hI J
    · refine lv_tableIn (off := 688) (tgt := 721) hx hb dL_law_33 (by decide) (by decide) (by decide) (by decide) ?_
      exact law_17 C0 hL hq hI J
    · refine lv_tableIn (off := 728) (tgt := 761) hx hb dL_law_33 (by decide) (by decide) (by decide) (by decide) ?_
      exact law_18 C0 hL hq hI J
    · refine lv_tableIn (off := 752) (tgt := 785) hx hb dL_law_33 (by decide) (by decide) (by decide) (by decide) ?_
      exact law_19 C0 hL hq hI J
    · refine lv_tableIn (off := 766) (tgt := 799) hx hb dL_law_33 (by decide) (by decide) (by decide) (by decide) ?_
      exact law_20 C0 hL hq hI J
    · refine lv_tableIn (off := 799) (tgt := 832) hx hb dL_law_33 (by decide) (by decide) (by decide) (by decide) ?_
      exact law_21 C0 hL hq hI J
    · refine lv_tableIn (off := 812) (tgt := 845) hx hb dL_law_33 (by decide) (by decide) (by decide) (by decide) ?_
      exact law_22 C0 hL hq hI J
    · refine lv_tableOut (tgt := 858) hx hb dL_law_33 (Or.inr (by rw [nI_toInt (by omega)]; omega)) (by decide) ?_
      refine W.widen (k := 8 + 2 * (q + 1)) (n := 1173 + 8 * (q + 1)) (by omega) (by omega) ?_
      exact J _ _ _ (hback (q + 1) ls _ (by omega) hl)
set_option maxHeartbeats 4000000 in
set_option maxRecDepth 100000 in
/-- THE LAW, from its entry -/
theorem whole_start {p : Program} {e : Env} {s : State} {m : MethodId} {below : List Frame} {meth : Method} {c : Code} (l : Launch) {b L : Nat} {xs : Nat → Int32} (hL : L ≤ 288) (C0 : lw_At p s m meth c b L xs) : W p l e room_1 s m #[Value.ref b] below meth c s.heap [] 0 0 (lw_Z below #[Value.ref b] s) (entryFrame m ([Value.ref b] : List Value).toArray 4) := by
  obtain ⟨hx, hb, hr, hml, hown, hts0, hX, hbl, hlocks, hgv⟩ := id C0
  have hts := fun w h => hts0 w (wsL_law_in w h)
  have hown : s.vm.findClass RL = some m.cls := hown
  have hb : c.code = cL_law := hb
  have hA : ∀ q : Nat, s.heap.size ≤ q → (fun q : Nat => s.heap.size ≤ q) q := fun _ h => h
  have hNw : va_Nw nestE s := va_Nw.of rfl (hts0 nestE (by decide +kernel))
  obtain ⟨i0, iS0, hKn0⟩ := u_known (C := RX0) (T := TX0) (N := 3) (n := 3) hts0 inX0 (hts (.instantiable RX0 3) (by decide +kernel))
  obtain ⟨i1, iS1, hKn1⟩ := u_known (C := RX1) (T := TX1) (N := 4) (n := 4) hts0 inX1 (hts (.instantiable RX1 4) (by decide +kernel))
  obtain ⟨i2, iS2, hKn2⟩ := u_known (C := RX2) (T := TX2) (N := 4) (n := 4) hts0 inX2 (hts (.instantiable RX2 4) (by decide +kernel))
  obtain ⟨i3, iS3, hKn3⟩ := u_known (C := RX3) (T := TX3) (N := 10) (n := 10) hts0 inX3 (hts (.instantiable RX3 10) (by decide +kernel))
  obtain ⟨D, hKc⟩ : ∃ D : va_G, ∀ (k : Nat) (q : vw_C), vwCl[k]? = some q → u_Kn s q.1 q.2.1 q.2.2 (D.1 k) (D.2 k) := by
    refine ⟨(fun k => if k = 0 then i0 else if k = 1 then i1 else if k = 2 then i2 else i3, fun k => if k = 0 then iS0 else if k = 1 then iS1 else if k = 2 then iS2 else iS3), ?_⟩
    intro k q hq
    match k, hq with
    | 0, hq => cases hq; exact hKn0
    | 1, hq => cases hq; exact hKn1
    | 2, hq => cases hq; exact hKn2
    | 3, hq => cases hq; exact hKn3
    | k + 4, hq => simp [vwCl] at hq
  have hS : va_S (fun q : Nat => s.heap.size ≤ q) s.heap s.heap [] := va_S.rf
  have hK : va_K D vwCl [] s := ⟨hKc, fun k q h => by simp at h⟩
  have hP : va_P D vwCl [] s.heap := fun k q h => by simp at h
  have hl := lv_entry ([.ref b]) (n := 4) (Nat.le_of_ble_eq_true rfl)
  rw [lg_entry_eq]
  generalize (lg_sl ([.ref b]) ++ List.replicate (4 - (lg_sl ([.ref b])).length) Slot.unset).toArray = ls at hl ⊢
  have hl : lv_has ls 4 [(0, .ref b)] := hl
  refine va_new (ci := 2) (fs := [.null, .null, .null, .int 0]) (C := RX2) (T := TX2) (N := 4) hx hb hts inlX2 tyX2 tyX2_ok hown (hts (.classLink RL 7 RX2) (by decide +kernel)) (hts (.instantiable RX2 4) (by decide +kernel)) (hts (.initialized RX2) (by decide +kernel)) hK hP D_nil hS hA rfl (fun j hj => by rcases (show j = 0 ∨ j = 1 ∨ j = 2 ∨ j = 3 by omega) with rfl | rfl | rfl | rfl <;> rfl) (Nat.le_of_ble_eq_true rfl) (Nat.le_of_ble_eq_true rfl) dL_law_0 (fun aD H hP hD hS => ?_)
  have hP : va_P D vwCl [(aD, .inr (2, [.null, .null, .null, .int 0]))] H := hP
  have haD : s.heap.size ≤ aD := hD.2 0 _ rfl
  have hl1 : aD < H.size := (hP 0 _ rfl).lt
  have hS1 := hS.1
  refine W.widen (k := 1) (n := 4) (by decide) (by decide) ?_
  refine lv_dup hx hb dL_law_3 rfl ?_
  refine go_X (va_runI (As := []) (rest := [.ref aD]) ⟨hx, hb, hml, hown, hts⟩ (c_X2_init l D aD H.size) (cwI 0 hts gL_law_X2_init rfl rfl rfl (hts (.initialized RX2) (by decide +kernel)) (hts (.methodLink RL 9 yX2_init) (by decide +kernel)) (hts (.instanceMethod yX2_init) (by decide +kernel)) rfl (by decide +kernel) ⟨Nat.le_of_ble_eq_true rfl, Nat.le_of_ble_eq_true rfl⟩) ⟨fun a U g mk q => by obtain ⟨q0, q1, qP, qK, qN⟩ := q; exact ⟨q0, q1, qP, va_K.moved (u := U) (U := U.calling g mk a) (Vm.Alike.refl U.vm) qK, va_Nw.same rfl rfl qN⟩, fun U hU hW => ⟨rfl, by rw [hU], by rw [hU]; exact hP, va_K.moved hW.alike hK, va_Nw.warmM hW hNw⟩⟩ rfl rfl hl.1 rfl (lv_room (Nat.le_of_ble_eq_true rfl)) dL_law_4 ⟨Nat.le_of_ble_eq_true rfl, Nat.le_of_ble_eq_true rfl⟩) hS (fun z h => mA_ge (fun a ha => by rw [List.mem_singleton.mp ha]; exact haD) hS.1 h) (fun u tt H1 locs1 ht hvm hB hz1 hk hS => ?_)
  obtain ⟨aE, aK, aV, aW, cy⟩ := u
  obtain ⟨hPd, hKd, g1, g2, g3, g4, nd3, nw⟩ := hB
  rw [ht] at hPd
  have hKd : va_K D vwCl [(cy, .int)] s := va_K.moved hvm.symm hKd
  have hPd : va_P D vwCl (dW cy aD aE aK aV aW aW z32 z32 0 BA false BH false false) H1 := hPd
  have g1 : H.size ≤ aE := g1
  have g2 : H.size ≤ aK := g2
  have g3 : H.size ≤ aV := g3
  have g4 : H.size ≤ aW := g4
  have nd3 : ([aE, aK, aV] : List Nat).Nodup := nd3
  have nw : ¬ aW ∈ ([aE, aK, aV] : List Nat) := nw
  have nD3 : ¬ aD ∈ ([aE, aK, aV] : List Nat) := by simp only [List.mem_cons, List.not_mem_nil, or_false, not_or]; omega
  have n4 : ([aD, aE, aK, aV] : List Nat).Nodup := List.nodup_cons.mpr ⟨nD3, nd3⟩
  have w4 : ¬ aW ∈ ([aD, aE, aK, aV] : List Nat) := fun z => (List.mem_cons.mp z).elim (fun w => by omega) nw
  have n5 : ([aW, aD, aE, aK, aV] : List Nat).Nodup := List.nodup_cons.mpr ⟨w4, n4⟩
  have hPd2 : va_P D vwCl ((rgW aW BA false BH false) ++ (d4 cy aD aE aK aV aW aW z32 z32 0 false)) H1 := hPd.sub [4, 0, 1, 2, 3] rfl
  have hD5 : va_D (fun q : Nat => s.heap.size ≤ q) ((rgW aW BA false BH false) ++ (d4 cy aD aE aK aV aW aW z32 z32 0 false)) := D_of n5 (by intro q hq; simp only [List.map_append, List.map_cons, List.map_nil, List.mem_append, List.mem_cons, List.not_mem_nil, or_false] at hq; show s.heap.size ≤ q; omega)
  clear hk
  generalize H1 = H2 at hPd hPd2 hS ⊢
  generalize locs1 = locs at hS ⊢
  refine W.eq (g2 := F0 m 7 ls [.ref aD]) rfl ?_
  refine W.widen (k := 5) (n := 1035) (by decide) (by decide) ?_
  refine lv_astore_n (lv' := [(1, .ref aD), (0, .ref b)]) hx hb dL_law_7 rfl hl (by decide) rfl (fun ls hl => ?_)
  refine va_new (ci := 3) (fs := [.null, .null, .int 0, .int 0, .int 0, .int 0, .int 0, .int 0, .int 0, .int 0]) (C := RX3) (T := TX3) (N := 10) hx hb hts inlX3 tyX3 tyX3_ok hown (hts (.classLink RL 10 RX3) (by decide +kernel)) (hts (.instantiable RX3 10) (by decide +kernel)) (hts (.initialized RX3) (by decide +kernel)) hK hPd2 hD5 hS hA rfl (fun j hj => by rcases (show j = 0 ∨ j = 1 ∨ j = 2 ∨ j = 3 ∨ j = 4 ∨ j = 5 ∨ j = 6 ∨ j = 7 ∨ j = 8 ∨ j = 9 by omega) with rfl | rfl | rfl | rfl | rfl | rfl | rfl | rfl | rfl | rfl <;> rfl) (Nat.le_of_ble_eq_true rfl) (Nat.le_of_ble_eq_true rfl) dL_law_8 (fun aM H3 hP6 hD6 hS => ?_)
  have hPm : va_P D vwCl [(aM, .inr (3, [.null, .null, .int 0, .int 0, .int 0, .int 0, .int 0, .int 0, .int 0, .int 0]))] H3 := hP6.sub [5] rfl
  have hP4 : va_P D vwCl (d4 cy aD aE aK aV aW aW z32 z32 0 false) H3 := hP6.sub [1, 2, 3, 4] rfl
  have hPw : va_P D vwCl (rgW aW BA false BH false) H3 := hP6.sub [0] rfl
  have haM : s.heap.size ≤ aM := hD6.2 5 _ rfl
  have hlM : aM < H3.size := (hPm 0 _ rfl).lt
  have m0 : ¬ aM = aW := fun z => absurd (hD6.1 5 0 _ _ rfl rfl z) (by decide)
  have m1 : ¬ aM = aD := fun z => absurd (hD6.1 5 1 _ _ rfl rfl z) (by decide)
  have m2 : ¬ aM = aE := fun z => absurd (hD6.1 5 2 _ _ rfl rfl z) (by decide)
  have m3 : ¬ aM = aK := fun z => absurd (hD6.1 5 3 _ _ rfl rfl z) (by decide)
  have m4 : ¬ aM = aV := fun z => absurd (hD6.1 5 4 _ _ rfl rfl z) (by decide)
  have hlt4 : ∀ q ∈ ([aD, aE, aK, aV] : List Nat), q < H3.size := P_lt hP4
  have hltW : aW < H3.size := (hPw 0 _ rfl).lt
  have mM : ¬ aM ∈ ([aD, aE, aK, aV] : List Nat) := by simp only [List.mem_cons, List.not_mem_nil, or_false, not_or]; exact ⟨m1, m2, m3, m4⟩
  refine W.widen (k := 6) (n := 1045) (by decide) (by decide) ?_
  refine lv_dup hx hb dL_law_11 rfl ?_
  have hS3 := hS.1
  refine go_X (va_runI (As := []) (rest := [.ref aM]) ⟨hx, hb, hml, hown, hts⟩ (c_X3_init l D aM H3.size) (cwI 0 hts gL_law_X3_init rfl rfl rfl (hts (.initialized RX3) (by decide +kernel)) (hts (.methodLink RL 12 yX3_init) (by decide +kernel)) (hts (.instanceMethod yX3_init) (by decide +kernel)) rfl (by decide +kernel) ⟨Nat.le_of_ble_eq_true rfl, Nat.le_of_ble_eq_true rfl⟩) (preS_Z hK hPm) rfl rfl hl.1 rfl (lv_room (Nat.le_of_ble_eq_true rfl)) dL_law_12 ⟨Nat.le_of_ble_eq_true rfl, Nat.le_of_ble_eq_true rfl⟩) hS (fun z h => mA_ge (fun a ha => by rw [List.mem_singleton.mp ha]; exact haM) hS.1 h) (fun u tt2 H4 locs2 ht2 hvm2 hB2 hz2 hk2 hS => ?_)
  obtain ⟨aA, aB, cy2⟩ := u
  obtain ⟨hPm2, hKm, e1, e2, e3⟩ := hB2
  rw [ht2] at hPm2
  have hKm : va_K D vwCl [(cy2, .int)] s := va_K.moved hvm2.symm hKm
  have hPm2 : va_P D vwCl (mW cy2 aM aA aB z32 z32 0 false false false false false 0 0) H4 := hPm2
  have e1 : H3.size ≤ aA := e1
  have e2 : H3.size ≤ aB := e2
  have e3 : ¬ aA = aB := e3
  have hP4 : va_P D vwCl (d4 cy aD aE aK aV aW aW z32 z32 0 false) H4 := P_keepM hP4 (fun q hq z => by have w : q = aM := List.mem_singleton.mp z; rw [w] at hq; exact mM hq) hk2
  have hPw : va_P D vwCl (rgW aW BA false BH false) H4 := P_keepM hPw (fun q hq z => by have w : q = aM := List.mem_singleton.mp z; have w2 : q = aW := List.mem_singleton.mp hq; exact m0 (w ▸ w2)) hk2
  have nAB : ∀ q ∈ ([aD, aE, aK, aV] : List Nat), ¬ q = aA ∧ ¬ q = aB := fun q hq => by have := hlt4 q hq; omega
  have hAD : AD s.heap.size aD aE aK aV aW aW aM aA aB := by
    refine ⟨n4, ?_, w4, w4, ?_, ?_, ?_, ?_, ?_, by omega, by omega⟩
    · simp only [List.nodup_cons, List.mem_cons, List.not_mem_nil, or_false, not_or, not_false_eq_true, List.nodup_nil, and_true]; omega
    · intro q hq z
      rcases List.mem_cons.mp hq with rfl | hq
      · exact mM z
      · rcases List.mem_cons.mp hq with rfl | hq
        · exact (nAB _ z).1 rfl
        · rw [List.mem_singleton.mp hq] at z
          exact (nAB _ z).2 rfl
    · simp only [List.mem_cons, List.not_mem_nil, or_false, not_or]; omega
    · simp only [List.mem_cons, List.not_mem_nil, or_false, not_or]; omega
    · intro q hq; simp only [List.mem_cons, List.not_mem_nil, or_false] at hq; omega
    · intro q hq; simp only [List.mem_cons, List.not_mem_nil, or_false] at hq; omega
  have hW : LW D cy cy2 aD aE aK aV aW aW aM aA aB z32 z32 0 BA false BH false false z32 z32 0 false false false false false 0 0 H4 := ⟨hP4, hPw, hPw, hPm2⟩
  refine W.eq (g2 := F0 m 15 ls [.ref aM]) rfl ?_
  refine W.widen (k := 8 + 2 * 0) (n := 1173 + 8 * 0) (by decide) (by decide) ?_
  refine lv_astore_n (lv' := [(2, .ref aM), (1, .ref aD), (0, .ref b)]) hx hb dL_law_15 rfl hl (by decide) rfl (fun ls hl => ?_)
  refine lv_iconst (v := nI (6 * 0)) hx hb dL_law_16 (by decide) ?_
  refine lv_istore_n (lv' := [(3, .int (nI (6 * 0))), (2, .ref aM), (1, .ref aD), (0, .ref b)]) hx hb dL_law_17 rfl hl (by decide) rfl (fun ls hl => ?_)
  exact law_loop hL C0 ⟨cy, cy2, aD, aE, aK, aV, aW, aW, aM, aA, aB, z32, z32, 0, BA, false, BH, false, false, z32, z32, 0, false, false, false, false, false, 0, 0, hKd.app hKm, hS, hAD, hW, ⟨fun j hj => absurd hj (Nat.not_lt_zero _), fun i j _ hj => absurd hj (Nat.not_lt_zero _)⟩, RR_all _ _ _ _, Nat.le_refl _, rfl, rfl, lv_sub hl [3, 2, 1, 0] rfl⟩
