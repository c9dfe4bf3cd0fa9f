/-! the law, call by call (written by wip/gen/law.py) -/
set_option maxHeartbeats 4000000 in
set_option maxRecDepth 100000 in
/-- the law at put -/
theorem law_0 {p : Program} {l : Launch} {e : Env} {s : State} {m : MethodId} {below : List Frame} {meth : Method} {c0 : Code} {b L q : Nat} {xs : Nat → Int32} {D : va_G} {H : Heap} {locs : List Loc} {ls : Array Slot} (C0 : lw_At p s m meth c0 b L xs) (hL : L ≤ 288) (hq : 6 * q + 6 ≤ L) (h : LI D s b q (nI (6 * q)) H locs ls) (J : ∀ (H : Heap) (locs : List Loc) (ls : Array Slot), LI D s b (q + 1) (nI (6 * q)) H locs ls → W p l e room_1 s m #[Value.ref b] below meth c0 H locs (8 + 2 * (q + 1)) (1173 + 8 * (q + 1)) (lw_Z below #[Value.ref b] s) (F0 m 858 ls [])) : W p l e room_1 s m #[Value.ref b] below meth c0 H locs (8 + 2 * q) (1173 + 8 * q) (lw_Z below #[Value.ref b] s) (F0 m 140 ls []) := by
  obtain ⟨hx, hb, hr, hml, hown, hts, hX, hbl, hlocks, hgv⟩ := id C0
  have hts := fun w h => hts w (wsL_law_in w h)
  have hown : s.vm.findClass RL = some m.cls := hown
  have hb : c0.code = cL_law := hb
  have hbA : ¬ (fun q : Nat => s.heap.size ≤ q) b := Nat.not_le.mpr hbl
  obtain ⟨cy, cy2, aD, aE, aK, aV, aW, aR, aM, aA, aB, k, v, c, lo, li, hi, hn, fl, k2, v2, c2, gl, gh, ml, mh, f2, mlo, mhi, hK, hS, hAD, hW, hRel, hRR, hcq, hcc, hff, hl⟩ := h
  obtain rfl := hcc.symm
  obtain rfl := hff.symm
  obtain ⟨n4, n3, r4, w4, mE4, rM, wM, g4, g3, gR, gW⟩ := id hAD
  have hK1 : va_K D vwCl [(cy, .int)] s := hK.sub [0] rfl
  have hK2 : va_K D vwCl [(cy2, .int)] s := hK.sub [1] rfl
  refine lv_aload_n hx hb dL_law_140 rfl (lv_at hl 1 rfl) ?_
  refine lv_aload_n hx hb dL_law_141 rfl (lv_at hl 0 rfl) ?_
  refine lv_iload_n hx hb dL_law_142 rfl (lv_at hl 3 rfl) ?_
  refine lv_iconst (v := nI 1) hx hb dL_law_143 (by decide) ?_
  refine lv_iadd hx hb dL_law_144 ?_
  refine top_i (y := nI ((6 * q) + 1)) (nI_add _ _) ?_
  refine s_ld hx hb hX hbl hbA hS (by omega) (by omega) dL_law_145 ?_
  refine lv_aload_n hx hb dL_law_146 rfl (lv_at hl 0 rfl) ?_
  refine lv_iload_n hx hb dL_law_147 rfl (lv_at hl 3 rfl) ?_
  refine lv_iconst (v := nI 2) hx hb dL_law_148 (by decide) ?_
  refine lv_iadd hx hb dL_law_149 ?_
  refine top_i (y := nI ((6 * q) + 2)) (nI_add _ _) ?_
  refine s_ld hx hb hX hbl hbA hS (by omega) (by omega) dL_law_150 ?_
  refine go_M (va_runV (As := [.int (xs ((6 * q) + 1)), .int (xs ((6 * q) + 2))]) (rest := []) ⟨hx, hb, hml, hown, hts⟩ (c_X2_put l D cy aD aE aK aV aW aR k v c (by omega) lo li hi hn fl n4 r4 _ (by omega) (xs ((6 * q) + 1)) (xs ((6 * q) + 2))) (cwV 2 hts gL_law_X2_put rfl rfl rfl (by decide +kernel) ⟨(Nat.le_of_ble_eq_true rfl), (Nat.le_of_ble_eq_true rfl)⟩) (preV_Z hK1 (LW_5 hW) 0 2 rfl rfl) rfl rfl hl.1 rfl (lv_room (Nat.le_of_ble_eq_true rfl)) dL_law_151 ⟨by show 8 + 2 * q + 0 ≤ 600000; omega, by show 1173 + 8 * q + 0 ≤ 7302250; omega⟩) hS (fun z h => mA_ge (fun a ha => g4 a (List.mem_cons_of_mem _ ha)) hS.1 h) (fun H1 locs1 hB hzz hk hS => ?_)
  have hW := LW_E hAD hW hB hk
  clear hk hzz
  generalize H1 = H at hW hS ⊢
  generalize locs1 = locs at hS ⊢
  refine lv_aload_n hx hb dL_law_154 rfl (lv_at hl 2 rfl) ?_
  refine lv_aload_n hx hb dL_law_155 rfl (lv_at hl 0 rfl) ?_
  refine lv_iload_n hx hb dL_law_156 rfl (lv_at hl 3 rfl) ?_
  refine lv_iconst (v := nI 1) hx hb dL_law_157 (by decide) ?_
  refine lv_iadd hx hb dL_law_158 ?_
  refine top_i (y := nI ((6 * q) + 1)) (nI_add _ _) ?_
  refine s_ld hx hb hX hbl hbA hS (by omega) (by omega) dL_law_159 ?_
  refine lv_aload_n hx hb dL_law_160 rfl (lv_at hl 0 rfl) ?_
  refine lv_iload_n hx hb dL_law_161 rfl (lv_at hl 3 rfl) ?_
  refine lv_iconst (v := nI 2) hx hb dL_law_162 (by decide) ?_
  refine lv_iadd hx hb dL_law_163 ?_
  refine top_i (y := nI ((6 * q) + 2)) (nI_add _ _) ?_
  refine s_ld hx hb hX hbl hbA hS (by omega) (by omega) dL_law_164 ?_
  refine go_M (va_runV (As := [.int (xs ((6 * q) + 1)), .int (xs ((6 * q) + 2))]) (rest := [.long (vOf k v c (xs ((6 * q) + 1)))]) ⟨hx, hb, hml, hown, hts⟩ (c_X3_put l D cy2 aM aA aB k2 v2 c (by omega) gl gh ml mh fl mlo mhi n3 _ (by omega) (xs ((6 * q) + 1)) (xs ((6 * q) + 2))) (cwV 2 hts gL_law_X3_put rfl rfl rfl (by decide +kernel) ⟨(Nat.le_of_ble_eq_true rfl), (Nat.le_of_ble_eq_true rfl)⟩) (preV_Z hK2 hW.2.2.2 0 3 rfl rfl) rfl rfl hl.1 rfl (lv_room (Nat.le_of_ble_eq_true rfl)) dL_law_165 ⟨by show 8 + 2 * q + 0 ≤ 600000; omega, by show 1173 + 8 * q + 0 ≤ 7302250; omega⟩) hS (fun z h => mA_ge g3 hS.1 h) (fun H1 locs1 hB hzz hk hS => ?_)
  have hW := LW_M hAD hW hB hk
  clear hk hzz
  generalize H1 = H at hW hS ⊢
  generalize locs1 = locs at hS ⊢
  refine l_eq (tgt := 858) hx hb dL_law_168 dL_law_169 (by decide) (fun _ => ?_) (fun h9 => absurd ((vOf_c hRel (xs ((6 * q) + 1))).symm) h9)
  refine W.widen (k := 8 + 2 * (q + 1)) (n := 1173 + 8 * (q + 1)) (by omega) (by omega) ?_
  exact J _ _ _ ⟨_, _, _, _, _, _, _, _, _, _, _, _, _, _, _, _, _, _, _, _, _, _, _, _, _, _, _, _, _, hK, hS, hAD, hW, (put_Rel hRel (xs ((6 * q) + 1)) (xs ((6 * q) + 2))).2, hRR, Nat.le_trans st_le (by omega), (put_Rel hRel (xs ((6 * q) + 1)) (xs ((6 * q) + 2))).1, rfl, hl⟩

set_option maxHeartbeats 4000000 in
set_option maxRecDepth 100000 in
/-- the law at add -/
theorem law_1 {p : Program} {l : Launch} {e : Env} {s : State} {m : MethodId} {below : List Frame} {meth : Method} {c0 : Code} {b L q : Nat} {xs : Nat → Int32} {D : va_G} {H : Heap} {locs : List Loc} {ls : Array Slot} (C0 : lw_At p s m meth c0 b L xs) (hL : L ≤ 288) (hq : 6 * q + 6 ≤ L) (h : LI D s b q (nI (6 * q)) H locs ls) (J : ∀ (H : Heap) (locs : List Loc) (ls : Array Slot), LI D s b (q + 1) (nI (6 * q)) H locs ls → W p l e room_1 s m #[Value.ref b] below meth c0 H locs (8 + 2 * (q + 1)) (1173 + 8 * (q + 1)) (lw_Z below #[Value.ref b] s) (F0 m 858 ls [])) : W p l e room_1 s m #[Value.ref b] below meth c0 H locs (8 + 2 * q) (1173 + 8 * q) (lw_Z below #[Value.ref b] s) (F0 m 174 ls []) := by
  obtain ⟨hx, hb, hr, hml, hown, hts, hX, hbl, hlocks, hgv⟩ := id C0
  have hts := fun w h => hts w (wsL_law_in w h)
  have hown : s.vm.findClass RL = some m.cls := hown
  have hb : c0.code = cL_law := hb
  have hbA : ¬ (fun q : Nat => s.heap.size ≤ q) b := Nat.not_le.mpr hbl
  obtain ⟨cy, cy2, aD, aE, aK, aV, aW, aR, aM, aA, aB, k, v, c, lo, li, hi, hn, fl, k2, v2, c2, gl, gh, ml, mh, f2, mlo, mhi, hK, hS, hAD, hW, hRel, hRR, hcq, hcc, hff, hl⟩ := h
  obtain rfl := hcc.symm
  obtain rfl := hff.symm
  obtain ⟨n4, n3, r4, w4, mE4, rM, wM, g4, g3, gR, gW⟩ := id hAD
  have hK1 : va_K D vwCl [(cy, .int)] s := hK.sub [0] rfl
  have hK2 : va_K D vwCl [(cy2, .int)] s := hK.sub [1] rfl
  refine lv_aload_n hx hb dL_law_174 rfl (lv_at hl 1 rfl) ?_
  refine lv_aload_n hx hb dL_law_175 rfl (lv_at hl 0 rfl) ?_
  refine lv_iload_n hx hb dL_law_176 rfl (lv_at hl 3 rfl) ?_
  refine lv_iconst (v := nI 1) hx hb dL_law_177 (by decide) ?_
  refine lv_iadd hx hb dL_law_178 ?_
  refine top_i (y := nI ((6 * q) + 1)) (nI_add _ _) ?_
  refine s_ld hx hb hX hbl hbA hS (by omega) (by omega) dL_law_179 ?_
  refine lv_aload_n hx hb dL_law_180 rfl (lv_at hl 0 rfl) ?_
  refine lv_iload_n hx hb dL_law_181 rfl (lv_at hl 3 rfl) ?_
  refine lv_iconst (v := nI 2) hx hb dL_law_182 (by decide) ?_
  refine lv_iadd hx hb dL_law_183 ?_
  refine top_i (y := nI ((6 * q) + 2)) (nI_add _ _) ?_
  refine s_ld hx hb hX hbl hbA hS (by omega) (by omega) dL_law_184 ?_
  refine go_M (va_runV (As := [.int (xs ((6 * q) + 1)), .int (xs ((6 * q) + 2))]) (rest := []) ⟨hx, hb, hml, hown, hts⟩ (c_X2_add l D cy aD aE aK aV aW aR k v c (by omega) lo li hi hn fl n4 r4 _ (by omega) (xs ((6 * q) + 1)) (xs ((6 * q) + 2))) (cwV 2 hts gL_law_X2_add rfl rfl rfl (by decide +kernel) ⟨(Nat.le_of_ble_eq_true rfl), (Nat.le_of_ble_eq_true rfl)⟩) (preV_Z hK1 (LW_5 hW) 0 2 rfl rfl) rfl rfl hl.1 rfl (lv_room (Nat.le_of_ble_eq_true rfl)) dL_law_185 ⟨by show 8 + 2 * q + 0 ≤ 600000; omega, by show 1173 + 8 * q + 0 ≤ 7302250; omega⟩) hS (fun z h => mA_ge (fun a ha => g4 a (List.mem_cons_of_mem _ ha)) hS.1 h) (fun H1 locs1 hB hzz hk hS => ?_)
  have hW := LW_E hAD hW hB hk
  clear hk hzz
  generalize H1 = H at hW hS ⊢
  generalize locs1 = locs at hS ⊢
  refine lv_aload_n hx hb dL_law_188 rfl (lv_at hl 2 rfl) ?_
  refine lv_aload_n hx hb dL_law_189 rfl (lv_at hl 0 rfl) ?_
  refine lv_iload_n hx hb dL_law_190 rfl (lv_at hl 3 rfl) ?_
  refine lv_iconst (v := nI 1) hx hb dL_law_191 (by decide) ?_
  refine lv_iadd hx hb dL_law_192 ?_
  refine top_i (y := nI ((6 * q) + 1)) (nI_add _ _) ?_
  refine s_ld hx hb hX hbl hbA hS (by omega) (by omega) dL_law_193 ?_
  refine lv_aload_n hx hb dL_law_194 rfl (lv_at hl 0 rfl) ?_
  refine lv_iload_n hx hb dL_law_195 rfl (lv_at hl 3 rfl) ?_
  refine lv_iconst (v := nI 2) hx hb dL_law_196 (by decide) ?_
  refine lv_iadd hx hb dL_law_197 ?_
  refine top_i (y := nI ((6 * q) + 2)) (nI_add _ _) ?_
  refine s_ld hx hb hX hbl hbA hS (by omega) (by omega) dL_law_198 ?_
  refine go_M (va_runV (As := [.int (xs ((6 * q) + 1)), .int (xs ((6 * q) + 2))]) (rest := [.long (vOf k v c (xs ((6 * q) + 1)))]) ⟨hx, hb, hml, hown, hts⟩ (c_X3_add l D cy2 aM aA aB k2 v2 c (by omega) gl gh ml mh fl mlo mhi n3 _ (by omega) (xs ((6 * q) + 1)) (xs ((6 * q) + 2))) (cwV 2 hts gL_law_X3_add rfl rfl rfl (by decide +kernel) ⟨(Nat.le_of_ble_eq_true rfl), (Nat.le_of_ble_eq_true rfl)⟩) (preV_Z hK2 hW.2.2.2 0 3 rfl rfl) rfl rfl hl.1 rfl (lv_room (Nat.le_of_ble_eq_true rfl)) dL_law_199 ⟨by show 8 + 2 * q + 0 ≤ 600000; omega, by show 1173 + 8 * q + 0 ≤ 7302250; omega⟩) hS (fun z h => mA_ge g3 hS.1 h) (fun H1 locs1 hB hzz hk hS => ?_)
  have hW := LW_M hAD hW hB hk
  clear hk hzz
  generalize H1 = H at hW hS ⊢
  generalize locs1 = locs at hS ⊢
  refine l_eq (tgt := 858) hx hb dL_law_202 dL_law_203 (by decide) (fun _ => ?_) (fun h9 => absurd ((vOf_c hRel (xs ((6 * q) + 1))).symm) h9)
  refine W.widen (k := 8 + 2 * (q + 1)) (n := 1173 + 8 * (q + 1)) (by omega) (by omega) ?_
  exact J _ _ _ ⟨_, _, _, _, _, _, _, _, _, _, _, _, _, _, _, _, _, _, _, _, _, _, _, _, _, _, _, _, _, hK, hS, hAD, hW, (add_Rel hRel (xs ((6 * q) + 1)) (xs ((6 * q) + 2))).2, hRR, Nat.le_trans ad_le (by omega), (add_Rel hRel (xs ((6 * q) + 1)) (xs ((6 * q) + 2))).1, rfl, hl⟩

set_option maxHeartbeats 4000000 in
set_option maxRecDepth 100000 in
/-- the law at get -/
theorem law_2 {p : Program} {l : Launch} {e : Env} {s : State} {m : MethodId} {below : List Frame} {meth : Method} {c0 : Code} {b L q : Nat} {xs : Nat → Int32} {D : va_G} {H : Heap} {locs : List Loc} {ls : Array Slot} (C0 : lw_At p s m meth c0 b L xs) (hL : L ≤ 288) (hq : 6 * q + 6 ≤ L) (h : LI D s b q (nI (6 * q)) H locs ls) (J : ∀ (H : Heap) (locs : List Loc) (ls : Array Slot), LI D s b (q + 1) (nI (6 * q)) H locs ls → W p l e room_1 s m #[Value.ref b] below meth c0 H locs (8 + 2 * (q + 1)) (1173 + 8 * (q + 1)) (lw_Z below #[Value.ref b] s) (F0 m 858 ls [])) : W p l e room_1 s m #[Value.ref b] below meth c0 H locs (8 + 2 * q) (1173 + 8 * q) (lw_Z below #[Value.ref b] s) (F0 m 208 ls []) := by
  obtain ⟨hx, hb, hr, hml, hown, hts, hX, hbl, hlocks, hgv⟩ := id C0
  have hts := fun w h => hts w (wsL_law_in w h)
  have hown : s.vm.findClass RL = some m.cls := hown
  have hb : c0.code = cL_law := hb
  have hbA : ¬ (fun q : Nat => s.heap.size ≤ q) b := Nat.not_le.mpr hbl
  obtain ⟨cy, cy2, aD, aE, aK, aV, aW, aR, aM, aA, aB, k, v, c, lo, li, hi, hn, fl, k2, v2, c2, gl, gh, ml, mh, f2, mlo, mhi, hK, hS, hAD, hW, hRel, hRR, hcq, hcc, hff, hl⟩ := h
  obtain rfl := hcc.symm
  obtain rfl := hff.symm
  obtain ⟨n4, n3, r4, w4, mE4, rM, wM, g4, g3, gR, gW⟩ := id hAD
  have hK1 : va_K D vwCl [(cy, .int)] s := hK.sub [0] rfl
  have hK2 : va_K D vwCl [(cy2, .int)] s := hK.sub [1] rfl
  refine lv_aload_n hx hb dL_law_208 rfl (lv_at hl 1 rfl) ?_
  refine lv_aload_n hx hb dL_law_209 rfl (lv_at hl 0 rfl) ?_
  refine lv_iload_n hx hb dL_law_210 rfl (lv_at hl 3 rfl) ?_
  refine lv_iconst (v := nI 1) hx hb dL_law_211 (by decide) ?_
  refine lv_iadd hx hb dL_law_212 ?_
  refine top_i (y := nI ((6 * q) + 1)) (nI_add _ _) ?_
  refine s_ld hx hb hX hbl hbA hS (by omega) (by omega) dL_law_213 ?_
  refine go_R (va_runV (As := [.int (xs ((6 * q) + 1))]) (rest := []) ⟨hx, hb, hml, hown, hts⟩ (c_X2_get l D cy aD aE aK aV aW aR k v c (by omega) lo li hi hn fl (xs ((6 * q) + 1))) (cwV 1 hts gL_law_X2_get rfl rfl rfl (by decide +kernel) ⟨(Nat.le_of_ble_eq_true rfl), (Nat.le_of_ble_eq_true rfl)⟩) (preV_W hK1 (LW_5 hW) 0 2 rfl rfl) rfl rfl hl.1 rfl (lv_room (Nat.le_of_ble_eq_true rfl)) dL_law_214 ⟨by show 8 + 2 * q + 0 ≤ 600000; omega, by show 1173 + 8 * q + 0 ≤ 7302250; omega⟩) ?_
  refine lv_aload_n hx hb dL_law_217 rfl (lv_at hl 2 rfl) ?_
  refine lv_aload_n hx hb dL_law_218 rfl (lv_at hl 0 rfl) ?_
  refine lv_iload_n hx hb dL_law_219 rfl (lv_at hl 3 rfl) ?_
  refine lv_iconst (v := nI 1) hx hb dL_law_220 (by decide) ?_
  refine lv_iadd hx hb dL_law_221 ?_
  refine top_i (y := nI ((6 * q) + 1)) (nI_add _ _) ?_
  refine s_ld hx hb hX hbl hbA hS (by omega) (by omega) dL_law_222 ?_
  refine go_R (va_runV (As := [.int (xs ((6 * q) + 1))]) (rest := [.long (vOf k v c (xs ((6 * q) + 1)))]) ⟨hx, hb, hml, hown, hts⟩ (c_X3_get l D cy2 aM aA aB k2 v2 c (by omega) gl gh ml mh fl mlo mhi (xs ((6 * q) + 1))) (cwV 1 hts gL_law_X3_get rfl rfl rfl (by decide +kernel) ⟨(Nat.le_of_ble_eq_true rfl), (Nat.le_of_ble_eq_true rfl)⟩) (preV_W hK2 hW.2.2.2 0 3 rfl rfl) rfl rfl hl.1 rfl (lv_room (Nat.le_of_ble_eq_true rfl)) dL_law_223 ⟨by show 8 + 2 * q + 0 ≤ 600000; omega, by show 1173 + 8 * q + 0 ≤ 7302250; omega⟩) ?_
  refine l_eq (tgt := 858) hx hb dL_law_226 dL_law_227 (by decide) (fun _ => ?_) (fun h9 => absurd ((vOf_c hRel (xs ((6 * q) + 1))).symm) h9)
  refine W.widen (k := 8 + 2 * (q + 1)) (n := 1173 + 8 * (q + 1)) (by omega) (by omega) ?_
  exact J _ _ _ ⟨_, _, _, _, _, _, _, _, _, _, _, _, _, _, _, _, _, _, _, _, _, _, _, _, _, _, _, _, _, hK, hS, hAD, hW, hRel, hRR, by omega, rfl, rfl, hl⟩

set_option maxHeartbeats 4000000 in
set_option maxRecDepth 100000 in
/-- the law at remove -/
theorem law_3 {p : Program} {l : Launch} {e : Env} {s : State} {m : MethodId} {below : List Frame} {meth : Method} {c0 : Code} {b L q : Nat} {xs : Nat → Int32} {D : va_G} {H : Heap} {locs : List Loc} {ls : Array Slot} (C0 : lw_At p s m meth c0 b L xs) (hL : L ≤ 288) (hq : 6 * q + 6 ≤ L) (h : LI D s b q (nI (6 * q)) H locs ls) (J : ∀ (H : Heap) (locs : List Loc) (ls : Array Slot), LI D s b (q + 1) (nI (6 * q)) H locs ls → W p l e room_1 s m #[Value.ref b] below meth c0 H locs (8 + 2 * (q + 1)) (1173 + 8 * (q + 1)) (lw_Z below #[Value.ref b] s) (F0 m 858 ls [])) : W p l e room_1 s m #[Value.ref b] below meth c0 H locs (8 + 2 * q) (1173 + 8 * q) (lw_Z below #[Value.ref b] s) (F0 m 232 ls []) := by
  obtain ⟨hx, hb, hr, hml, hown, hts, hX, hbl, hlocks, hgv⟩ := id C0
  have hts := fun w h => hts w (wsL_law_in w h)
  have hown : s.vm.findClass RL = some m.cls := hown
  have hb : c0.code = cL_law := hb
  have hbA : ¬ (fun q : Nat => s.heap.size ≤ q) b := Nat.not_le.mpr hbl
  obtain ⟨cy, cy2, aD, aE, aK, aV, aW, aR, aM, aA, aB, k, v, c, lo, li, hi, hn, fl, k2, v2, c2, gl, gh, ml, mh, f2, mlo, mhi, hK, hS, hAD, hW, hRel, hRR, hcq, hcc, hff, hl⟩ := h
  obtain rfl := hcc.symm
  obtain rfl := hff.symm
  obtain ⟨n4, n3, r4, w4, mE4, rM, wM, g4, g3, gR, gW⟩ := id hAD
  have hK1 : va_K D vwCl [(cy, .int)] s := hK.sub [0] rfl
  have hK2 : va_K D vwCl [(cy2, .int)] s := hK.sub [1] rfl
  refine lv_aload_n hx hb dL_law_232 rfl (lv_at hl 1 rfl) ?_
  refine lv_aload_n hx hb dL_law_233 rfl (lv_at hl 0 rfl) ?_
  refine lv_iload_n hx hb dL_law_234 rfl (lv_at hl 3 rfl) ?_
  refine lv_iconst (v := nI 1) hx hb dL_law_235 (by decide) ?_
  refine lv_iadd hx hb dL_law_236 ?_
  refine top_i (y := nI ((6 * q) + 1)) (nI_add _ _) ?_
  refine s_ld hx hb hX hbl hbA hS (by omega) (by omega) dL_law_237 ?_
  refine go_M (va_runV (As := [.int (xs ((6 * q) + 1))]) (rest := []) ⟨hx, hb, hml, hown, hts⟩ (c_X2_remove l D cy aD aE aK aV aW aR k v c (by omega) lo li hi hn fl n4 r4 _ (xs ((6 * q) + 1))) (cwV 1 hts gL_law_X2_remove rfl rfl rfl (by decide +kernel) ⟨(Nat.le_of_ble_eq_true rfl), (Nat.le_of_ble_eq_true rfl)⟩) (preV_Z hK1 (LW_5 hW) 0 2 rfl rfl) rfl rfl hl.1 rfl (lv_room (Nat.le_of_ble_eq_true rfl)) dL_law_238 ⟨by show 8 + 2 * q + 0 ≤ 600000; omega, by show 1173 + 8 * q + 0 ≤ 7302250; omega⟩) hS (fun z h => mA_ge (fun a ha => g4 a (List.mem_cons_of_mem _ ha)) hS.1 h) (fun H1 locs1 hB hzz hk hS => ?_)
  have hW := LW_E hAD hW hB hk
  clear hk hzz
  generalize H1 = H at hW hS ⊢
  generalize locs1 = locs at hS ⊢
  refine lv_aload_n hx hb dL_law_241 rfl (lv_at hl 2 rfl) ?_
  refine lv_aload_n hx hb dL_law_242 rfl (lv_at hl 0 rfl) ?_
  refine lv_iload_n hx hb dL_law_243 rfl (lv_at hl 3 rfl) ?_
  refine lv_iconst (v := nI 1) hx hb dL_law_244 (by decide) ?_
  refine lv_iadd hx hb dL_law_245 ?_
  refine top_i (y := nI ((6 * q) + 1)) (nI_add _ _) ?_
  refine s_ld hx hb hX hbl hbA hS (by omega) (by omega) dL_law_246 ?_
  refine go_M (va_runV (As := [.int (xs ((6 * q) + 1))]) (rest := [.long (vOf k v c (xs ((6 * q) + 1)))]) ⟨hx, hb, hml, hown, hts⟩ (c_X3_remove l D cy2 aM aA aB k2 v2 c (by omega) gl gh ml mh fl mlo mhi n3 _ (xs ((6 * q) + 1))) (cwV 1 hts gL_law_X3_remove rfl rfl rfl (by decide +kernel) ⟨(Nat.le_of_ble_eq_true rfl), (Nat.le_of_ble_eq_true rfl)⟩) (preV_Z hK2 hW.2.2.2 0 3 rfl rfl) rfl rfl hl.1 rfl (lv_room (Nat.le_of_ble_eq_true rfl)) dL_law_247 ⟨by show 8 + 2 * q + 0 ≤ 600000; omega, by show 1173 + 8 * q + 0 ≤ 7302250; omega⟩) hS (fun z h => mA_ge g3 hS.1 h) (fun H1 locs1 hB hzz hk hS => ?_)
  have hW := LW_M hAD hW hB hk
  clear hk hzz
  generalize H1 = H at hW hS ⊢
  generalize locs1 = locs at hS ⊢
  refine l_eq (tgt := 858) hx hb dL_law_250 dL_law_251 (by decide) (fun _ => ?_) (fun h9 => absurd ((vOf_c hRel (xs ((6 * q) + 1))).symm) h9)
  refine W.widen (k := 8 + 2 * (q + 1)) (n := 1173 + 8 * (q + 1)) (by omega) (by omega) ?_
  exact J _ _ _ ⟨_, _, _, _, _, _, _, _, _, _, _, _, _, _, _, _, _, _, _, _, _, _, _, _, _, _, _, _, _, hK, hS, hAD, hW, (rem_Rel hRel (xs ((6 * q) + 1))).2, hRR, Nat.le_trans dr_le (by omega), (rem_Rel hRel (xs ((6 * q) + 1))).1, rfl, hl⟩

set_option maxHeartbeats 4000000 in
set_option maxRecDepth 100000 in
/-- the law at has -/
theorem law_4 {p : Program} {l : Launch} {e : Env} {s : State} {m : MethodId} {below : List Frame} {meth : Method} {c0 : Code} {b L q : Nat} {xs : Nat → Int32} {D : va_G} {H : Heap} {locs : List Loc} {ls : Array Slot} (C0 : lw_At p s m meth c0 b L xs) (hL : L ≤ 288) (hq : 6 * q + 6 ≤ L) (h : LI D s b q (nI (6 * q)) H locs ls) (J : ∀ (H : Heap) (locs : List Loc) (ls : Array Slot), LI D s b (q + 1) (nI (6 * q)) H locs ls → W p l e room_1 s m #[Value.ref b] below meth c0 H locs (8 + 2 * (q + 1)) (1173 + 8 * (q + 1)) (lw_Z below #[Value.ref b] s) (F0 m 858 ls [])) : W p l e room_1 s m #[Value.ref b] below meth c0 H locs (8 + 2 * q) (1173 + 8 * q) (lw_Z below #[Value.ref b] s) (F0 m 256 ls []) := by
  obtain ⟨hx, hb, hr, hml, hown, hts, hX, hbl, hlocks, hgv⟩ := id C0
  have hts := fun w h => hts w (wsL_law_in w h)
  have hown : s.vm.findClass RL = some m.cls := hown
  have hb : c0.code = cL_law := hb
  have hbA : ¬ (fun q : Nat => s.heap.size ≤ q) b := Nat.not_le.mpr hbl
  obtain ⟨cy, cy2, aD, aE, aK, aV, aW, aR, aM, aA, aB, k, v, c, lo, li, hi, hn, fl, k2, v2, c2, gl, gh, ml, mh, f2, mlo, mhi, hK, hS, hAD, hW, hRel, hRR, hcq, hcc, hff, hl⟩ := h
  obtain rfl := hcc.symm
  obtain rfl := hff.symm
  obtain ⟨n4, n3, r4, w4, mE4, rM, wM, g4, g3, gR, gW⟩ := id hAD
  have hK1 : va_K D vwCl [(cy, .int)] s := hK.sub [0] rfl
  have hK2 : va_K D vwCl [(cy2, .int)] s := hK.sub [1] rfl
  refine lv_aload_n hx hb dL_law_256 rfl (lv_at hl 1 rfl) ?_
  refine lv_aload_n hx hb dL_law_257 rfl (lv_at hl 0 rfl) ?_
  refine lv_iload_n hx hb dL_law_258 rfl (lv_at hl 3 rfl) ?_
  refine lv_iconst (v := nI 1) hx hb dL_law_259 (by decide) ?_
  refine lv_iadd hx hb dL_law_260 ?_
  refine top_i (y := nI ((6 * q) + 1)) (nI_add _ _) ?_
  refine s_ld hx hb hX hbl hbA hS (by omega) (by omega) dL_law_261 ?_
  refine lv_aload_n hx hb dL_law_262 rfl (lv_at hl 0 rfl) ?_
  refine lv_iload_n hx hb dL_law_263 rfl (lv_at hl 3 rfl) ?_
  refine lv_iconst (v := nI 2) hx hb dL_law_264 (by decide) ?_
  refine lv_iadd hx hb dL_law_265 ?_
  refine top_i (y := nI ((6 * q) + 2)) (nI_add _ _) ?_
  refine s_ld hx hb hX hbl hbA hS (by omega) (by omega) dL_law_266 ?_
  refine go_R (va_runV (As := [.int (xs ((6 * q) + 1)), .int (xs ((6 * q) + 2))]) (rest := []) ⟨hx, hb, hml, hown, hts⟩ (c_X2_has l D cy aD aE aK aV aW aR k v c (by omega) lo li hi hn fl (xs ((6 * q) + 1)) (xs ((6 * q) + 2))) (cwV 2 hts gL_law_X2_has rfl rfl rfl (by decide +kernel) ⟨(Nat.le_of_ble_eq_true rfl), (Nat.le_of_ble_eq_true rfl)⟩) (preV_W hK1 (LW_5 hW) 0 2 rfl rfl) rfl rfl hl.1 rfl (lv_room (Nat.le_of_ble_eq_true rfl)) dL_law_267 ⟨by show 8 + 2 * q + 0 ≤ 600000; omega, by show 1173 + 8 * q + 0 ≤ 7302250; omega⟩) ?_
  refine lv_aload_n hx hb dL_law_270 rfl (lv_at hl 2 rfl) ?_
  refine lv_aload_n hx hb dL_law_271 rfl (lv_at hl 0 rfl) ?_
  refine lv_iload_n hx hb dL_law_272 rfl (lv_at hl 3 rfl) ?_
  refine lv_iconst (v := nI 1) hx hb dL_law_273 (by decide) ?_
  refine lv_iadd hx hb dL_law_274 ?_
  refine top_i (y := nI ((6 * q) + 1)) (nI_add _ _) ?_
  refine s_ld hx hb hX hbl hbA hS (by omega) (by omega) dL_law_275 ?_
  refine lv_aload_n hx hb dL_law_276 rfl (lv_at hl 0 rfl) ?_
  refine lv_iload_n hx hb dL_law_277 rfl (lv_at hl 3 rfl) ?_
  refine lv_iconst (v := nI 2) hx hb dL_law_278 (by decide) ?_
  refine lv_iadd hx hb dL_law_279 ?_
  refine top_i (y := nI ((6 * q) + 2)) (nI_add _ _) ?_
  refine s_ld hx hb hX hbl hbA hS (by omega) (by omega) dL_law_280 ?_
  refine go_R (va_runV (As := [.int (xs ((6 * q) + 1)), .int (xs ((6 * q) + 2))]) (rest := [.int (bI (hsD k v c (xs ((6 * q) + 1)) (xs ((6 * q) + 2))))]) ⟨hx, hb, hml, hown, hts⟩ (c_X3_has l D cy2 aM aA aB k2 v2 c (by omega) gl gh ml mh fl mlo mhi (xs ((6 * q) + 1)) (xs ((6 * q) + 2))) (cwV 2 hts gL_law_X3_has rfl rfl rfl (by decide +kernel) ⟨(Nat.le_of_ble_eq_true rfl), (Nat.le_of_ble_eq_true rfl)⟩) (preV_W hK2 hW.2.2.2 0 3 rfl rfl) rfl rfl hl.1 rfl (lv_room (Nat.le_of_ble_eq_true rfl)) dL_law_281 ⟨by show 8 + 2 * q + 0 ≤ 600000; omega, by show 1173 + 8 * q + 0 ≤ 7302250; omega⟩) ?_
  refine lv_icmp_eq (tgt := 858) hx hb dL_law_284 (by decide) (fun _ => ?_) (fun h9 => absurd (congrArg bI (has_eq hRel (xs ((6 * q) + 1)) (xs ((6 * q) + 2)))) h9)
  refine W.widen (k := 8 + 2 * (q + 1)) (n := 1173 + 8 * (q + 1)) (by omega) (by omega) ?_
  exact J _ _ _ ⟨_, _, _, _, _, _, _, _, _, _, _, _, _, _, _, _, _, _, _, _, _, _, _, _, _, _, _, _, _, hK, hS, hAD, hW, hRel, hRR, by omega, rfl, rfl, hl⟩

set_option maxHeartbeats 4000000 in
set_option maxRecDepth 100000 in
/-- the law at near -/
theorem law_5 {p : Program} {l : Launch} {e : Env} {s : State} {m : MethodId} {below : List Frame} {meth : Method} {c0 : Code} {b L q : Nat} {xs : Nat → Int32} {D : va_G} {H : Heap} {locs : List Loc} {ls : Array Slot} (C0 : lw_At p s m meth c0 b L xs) (hL : L ≤ 288) (hq : 6 * q + 6 ≤ L) (h : LI D s b q (nI (6 * q)) H locs ls) (J : ∀ (H : Heap) (locs : List Loc) (ls : Array Slot), LI D s b (q + 1) (nI (6 * q)) H locs ls → W p l e room_1 s m #[Value.ref b] below meth c0 H locs (8 + 2 * (q + 1)) (1173 + 8 * (q + 1)) (lw_Z below #[Value.ref b] s) (F0 m 858 ls [])) : W p l e room_1 s m #[Value.ref b] below meth c0 H locs (8 + 2 * q) (1173 + 8 * q) (lw_Z below #[Value.ref b] s) (F0 m 289 ls []) := by
  obtain ⟨hx, hb, hr, hml, hown, hts, hX, hbl, hlocks, hgv⟩ := id C0
  have hts := fun w h => hts w (wsL_law_in w h)
  have hown : s.vm.findClass RL = some m.cls := hown
  have hb : c0.code = cL_law := hb
  have hbA : ¬ (fun q : Nat => s.heap.size ≤ q) b := Nat.not_le.mpr hbl
  obtain ⟨cy, cy2, aD, aE, aK, aV, aW, aR, aM, aA, aB, k, v, c, lo, li, hi, hn, fl, k2, v2, c2, gl, gh, ml, mh, f2, mlo, mhi, hK, hS, hAD, hW, hRel, hRR, hcq, hcc, hff, hl⟩ := h
  obtain rfl := hcc.symm
  obtain rfl := hff.symm
  obtain ⟨n4, n3, r4, w4, mE4, rM, wM, g4, g3, gR, gW⟩ := id hAD
  have hK1 : va_K D vwCl [(cy, .int)] s := hK.sub [0] rfl
  have hK2 : va_K D vwCl [(cy2, .int)] s := hK.sub [1] rfl
  refine lv_aload_n hx hb dL_law_289 rfl (lv_at hl 1 rfl) ?_
  refine lv_aload_n hx hb dL_law_290 rfl (lv_at hl 0 rfl) ?_
  refine lv_iload_n hx hb dL_law_291 rfl (lv_at hl 3 rfl) ?_
  refine lv_iconst (v := nI 1) hx hb dL_law_292 (by decide) ?_
  refine lv_iadd hx hb dL_law_293 ?_
  refine top_i (y := nI ((6 * q) + 1)) (nI_add _ _) ?_
  refine s_ld hx hb hX hbl hbA hS (by omega) (by omega) dL_law_294 ?_
  refine lv_aload_n hx hb dL_law_295 rfl (lv_at hl 0 rfl) ?_
  refine lv_iload_n hx hb dL_law_296 rfl (lv_at hl 3 rfl) ?_
  refine lv_iconst (v := nI 2) hx hb dL_law_297 (by decide) ?_
  refine lv_iadd hx hb dL_law_298 ?_
  refine top_i (y := nI ((6 * q) + 2)) (nI_add _ _) ?_
  refine s_ld hx hb hX hbl hbA hS (by omega) (by omega) dL_law_299 ?_
  refine go_R (va_runV (As := [.int (xs ((6 * q) + 1)), .int (xs ((6 * q) + 2))]) (rest := []) ⟨hx, hb, hml, hown, hts⟩ (c_X2_near l D cy aD aE aK aV aW aR k v c (by omega) lo li hi hn fl (xs ((6 * q) + 1)) (xs ((6 * q) + 2))) (cwV 2 hts gL_law_X2_near rfl rfl rfl (by decide +kernel) ⟨(Nat.le_of_ble_eq_true rfl), (Nat.le_of_ble_eq_true rfl)⟩) (preV_W hK1 (LW_5 hW) 0 2 rfl rfl) rfl rfl hl.1 rfl (lv_room (Nat.le_of_ble_eq_true rfl)) dL_law_300 ⟨by show 8 + 2 * q + 0 ≤ 600000; omega, by show 1173 + 8 * q + 0 ≤ 7302250; omega⟩) ?_
  refine lv_aload_n hx hb dL_law_303 rfl (lv_at hl 2 rfl) ?_
  refine lv_aload_n hx hb dL_law_304 rfl (lv_at hl 0 rfl) ?_
  refine lv_iload_n hx hb dL_law_305 rfl (lv_at hl 3 rfl) ?_
  refine lv_iconst (v := nI 1) hx hb dL_law_306 (by decide) ?_
  refine lv_iadd hx hb dL_law_307 ?_
  refine top_i (y := nI ((6 * q) + 1)) (nI_add _ _) ?_
  refine s_ld hx hb hX hbl hbA hS (by omega) (by omega) dL_law_308 ?_
  refine lv_aload_n hx hb dL_law_309 rfl (lv_at hl 0 rfl) ?_
  refine lv_iload_n hx hb dL_law_310 rfl (lv_at hl 3 rfl) ?_
  refine lv_iconst (v := nI 2) hx hb dL_law_311 (by decide) ?_
  refine lv_iadd hx hb dL_law_312 ?_
  refine top_i (y := nI ((6 * q) + 2)) (nI_add _ _) ?_
  refine s_ld hx hb hX hbl hbA hS (by omega) (by omega) dL_law_313 ?_
  refine go_R (va_runV (As := [.int (xs ((6 * q) + 1)), .int (xs ((6 * q) + 2))]) (rest := [.long (kN k c (xs ((6 * q) + 1)) (xs ((6 * q) + 2)) 0 c)]) ⟨hx, hb, hml, hown, hts⟩ (c_X3_near_ l D cy2 aM aA aB k2 v2 c (by omega) gl gh ml mh fl mlo mhi (xs ((6 * q) + 1)) (xs ((6 * q) + 2))) (cwV 2 hts gL_law_X3_near_ rfl rfl rfl (by decide +kernel) ⟨(Nat.le_of_ble_eq_true rfl), (Nat.le_of_ble_eq_true rfl)⟩) (preV_W hK2 hW.2.2.2 0 3 rfl rfl) rfl rfl hl.1 rfl (lv_room (Nat.le_of_ble_eq_true rfl)) dL_law_314 ⟨by show 8 + 2 * q + 0 ≤ 600000; omega, by show 1173 + 8 * q + 0 ≤ 7302250; omega⟩) ?_
  refine l_eq (tgt := 858) hx hb dL_law_317 dL_law_318 (by decide) (fun _ => ?_) (fun h9 => absurd (near_eq (fun j hj => (hRel.1 j hj).1) hRel.2 (xs ((6 * q) + 1)) (xs ((6 * q) + 2)) (Nat.zero_le c) (Nat.le_refl c)) h9)
  refine W.widen (k := 8 + 2 * (q + 1)) (n := 1173 + 8 * (q + 1)) (by omega) (by omega) ?_
  exact J _ _ _ ⟨_, _, _, _, _, _, _, _, _, _, _, _, _, _, _, _, _, _, _, _, _, _, _, _, _, _, _, _, _, hK, hS, hAD, hW, hRel, hRR, by omega, rfl, rfl, hl⟩

set_option maxHeartbeats 4000000 in
set_option maxRecDepth 100000 in
/-- the law at poll -/
theorem law_6 {p : Program} {l : Launch} {e : Env} {s : State} {m : MethodId} {below : List Frame} {meth : Method} {c0 : Code} {b L q : Nat} {xs : Nat → Int32} {D : va_G} {H : Heap} {locs : List Loc} {ls : Array Slot} (C0 : lw_At p s m meth c0 b L xs) (hL : L ≤ 288) (hq : 6 * q + 6 ≤ L) (h : LI D s b q (nI (6 * q)) H locs ls) (J : ∀ (H : Heap) (locs : List Loc) (ls : Array Slot), LI D s b (q + 1) (nI (6 * q)) H locs ls → W p l e room_1 s m #[Value.ref b] below meth c0 H locs (8 + 2 * (q + 1)) (1173 + 8 * (q + 1)) (lw_Z below #[Value.ref b] s) (F0 m 858 ls [])) : W p l e room_1 s m #[Value.ref b] below meth c0 H locs (8 + 2 * q) (1173 + 8 * q) (lw_Z below #[Value.ref b] s) (F0 m 323 ls []) := by
  obtain ⟨hx, hb, hr, hml, hown, hts, hX, hbl, hlocks, hgv⟩ := id C0
  have hts := fun w h => hts w (wsL_law_in w h)
  have hown : s.vm.findClass RL = some m.cls := hown
  have hb : c0.code = cL_law := hb
  have hbA : ¬ (fun q : Nat => s.heap.size ≤ q) b := Nat.not_le.mpr hbl
  obtain ⟨cy, cy2, aD, aE, aK, aV, aW, aR, aM, aA, aB, k, v, c, lo, li, hi, hn, fl, k2, v2, c2, gl, gh, ml, mh, f2, mlo, mhi, hK, hS, hAD, hW, hRel, hRR, hcq, hcc, hff, hl⟩ := h
  obtain rfl := hcc.symm
  obtain rfl := hff.symm
  obtain ⟨n4, n3, r4, w4, mE4, rM, wM, g4, g3, gR, gW⟩ := id hAD
  have hK1 : va_K D vwCl [(cy, .int)] s := hK.sub [0] rfl
  have hK2 : va_K D vwCl [(cy2, .int)] s := hK.sub [1] rfl
  refine lv_aload_n hx hb dL_law_323 rfl (lv_at hl 1 rfl) ?_
  refine lv_aload_n hx hb dL_law_324 rfl (lv_at hl 0 rfl) ?_
  refine lv_iload_n hx hb dL_law_325 rfl (lv_at hl 3 rfl) ?_
  refine lv_iconst (v := nI 1) hx hb dL_law_326 (by decide) ?_
  refine lv_iadd hx hb dL_law_327 ?_
  refine top_i (y := nI ((6 * q) + 1)) (nI_add _ _) ?_
  refine s_ld hx hb hX hbl hbA hS (by omega) (by omega) dL_law_328 ?_
  refine lv_nz (tgt := 336) (J := 337) hx hb dL_law_329 (by decide) dL_law_332 dL_law_333 (by decide) dL_law_336 rfl ?_
  refine go_M (va_runV (As := [.int (bI (decide (¬ xs ((6 * q) + 1) = 0)))]) (rest := []) ⟨hx, hb, hml, hown, hts⟩ (c_X2_poll l D cy aD aE aK aV aW aR k v c (by omega) lo li hi hn fl n4 r4 _ ((decide (¬ xs ((6 * q) + 1) = 0)))) (cwV 1 hts gL_law_X2_poll rfl rfl rfl (by decide +kernel) ⟨(Nat.le_of_ble_eq_true rfl), (Nat.le_of_ble_eq_true rfl)⟩) (preV_Z hK1 (LW_5 hW) 0 2 rfl rfl) rfl rfl hl.1 rfl (lv_room (Nat.le_of_ble_eq_true rfl)) dL_law_337 ⟨by show 8 + 2 * q + 0 ≤ 600000; omega, by show 1173 + 8 * q + 0 ≤ 7302250; omega⟩) hS (fun z h => mA_ge (fun a ha => g4 a (List.mem_cons_of_mem _ ha)) hS.1 h) (fun H1 locs1 hB hzz hk hS => ?_)
  have hW := LW_E hAD hW hB hk
  clear hk hzz
  generalize H1 = H at hW hS ⊢
  generalize locs1 = locs at hS ⊢
  refine lv_aload_n hx hb dL_law_340 rfl (lv_at hl 2 rfl) ?_
  refine lv_aload_n hx hb dL_law_341 rfl (lv_at hl 0 rfl) ?_
  refine lv_iload_n hx hb dL_law_342 rfl (lv_at hl 3 rfl) ?_
  refine lv_iconst (v := nI 1) hx hb dL_law_343 (by decide) ?_
  refine lv_iadd hx hb dL_law_344 ?_
  refine top_i (y := nI ((6 * q) + 1)) (nI_add _ _) ?_
  refine s_ld hx hb hX hbl hbA hS (by omega) (by omega) dL_law_345 ?_
  refine lv_nz (tgt := 353) (J := 354) hx hb dL_law_346 (by decide) dL_law_349 dL_law_350 (by decide) dL_law_353 rfl ?_
  refine go_M (va_runV (As := [.int (bI (decide (¬ xs ((6 * q) + 1) = 0)))]) (rest := [.long (kW k (pj ((decide (¬ xs ((6 * q) + 1) = 0))) 0 c) 0 c)]) ⟨hx, hb, hml, hown, hts⟩ (c_X3_poll l D cy2 aM aA aB k2 v2 c (by omega) gl gh ml mh fl mlo mhi n3 _ ((decide (¬ xs ((6 * q) + 1) = 0)))) (cwV 1 hts gL_law_X3_poll rfl rfl rfl (by decide +kernel) ⟨(Nat.le_of_ble_eq_true rfl), (Nat.le_of_ble_eq_true rfl)⟩) (preV_Z hK2 hW.2.2.2 0 3 rfl rfl) rfl rfl hl.1 rfl (lv_room (Nat.le_of_ble_eq_true rfl)) dL_law_354 ⟨by show 8 + 2 * q + 0 ≤ 600000; omega, by show 1173 + 8 * q + 0 ≤ 7302250; omega⟩) hS (fun z h => mA_ge g3 hS.1 h) (fun H1 locs1 hB hzz hk hS => ?_)
  have hW := LW_M hAD hW hB hk
  clear hk hzz
  generalize H1 = H at hW hS ⊢
  generalize locs1 = locs at hS ⊢
  refine l_eq (tgt := 858) hx hb dL_law_357 dL_law_358 (by decide) (fun _ => ?_) (fun h9 => absurd (poll_A hRel ((decide (¬ xs ((6 * q) + 1) = 0))) (Nat.zero_le c) (Nat.le_refl c) (Or.inl ⟨rfl, rfl⟩)) h9)
  refine W.widen (k := 8 + 2 * (q + 1)) (n := 1173 + 8 * (q + 1)) (by omega) (by omega) ?_
  exact J _ _ _ ⟨_, _, _, _, _, _, _, _, _, _, _, _, _, _, _, _, _, _, _, _, _, _, _, _, _, _, _, _, _, hK, hS, hAD, hW, (poll_Rel hRel ((decide (¬ xs ((6 * q) + 1) = 0))) (Nat.zero_le c) (Nat.le_refl c) (Or.inl ⟨rfl, rfl⟩)).2, hRR, Nat.le_trans (pl_le (Nat.le_refl c)) (by omega), (poll_Rel hRel ((decide (¬ xs ((6 * q) + 1) = 0))) (Nat.zero_le c) (Nat.le_refl c) (Or.inl ⟨rfl, rfl⟩)).1, rfl, hl⟩

set_option maxHeartbeats 4000000 in
set_option maxRecDepth 100000 in
/-- the law at size -/
theorem law_7 {p : Program} {l : Launch} {e : Env} {s : State} {m : MethodId} {below : List Frame} {meth : Method} {c0 : Code} {b L q : Nat} {xs : Nat → Int32} {D : va_G} {H : Heap} {locs : List Loc} {ls : Array Slot} (C0 : lw_At p s m meth c0 b L xs) (hL : L ≤ 288) (hq : 6 * q + 6 ≤ L) (h : LI D s b q (nI (6 * q)) H locs ls) (J : ∀ (H : Heap) (locs : List Loc) (ls : Array Slot), LI D s b (q + 1) (nI (6 * q)) H locs ls → W p l e room_1 s m #[Value.ref b] below meth c0 H locs (8 + 2 * (q + 1)) (1173 + 8 * (q + 1)) (lw_Z below #[Value.ref b] s) (F0 m 858 ls [])) : W p l e room_1 s m #[Value.ref b] below meth c0 H locs (8 + 2 * q) (1173 + 8 * q) (lw_Z below #[Value.ref b] s) (F0 m 363 ls []) := by
  obtain ⟨hx, hb, hr, hml, hown, hts, hX, hbl, hlocks, hgv⟩ := id C0
  have hts := fun w h => hts w (wsL_law_in w h)
  have hown : s.vm.findClass RL = some m.cls := hown
  have hb : c0.code = cL_law := hb
  have hbA : ¬ (fun q : Nat => s.heap.size ≤ q) b := Nat.not_le.mpr hbl
  obtain ⟨cy, cy2, aD, aE, aK, aV, aW, aR, aM, aA, aB, k, v, c, lo, li, hi, hn, fl, k2, v2, c2, gl, gh, ml, mh, f2, mlo, mhi, hK, hS, hAD, hW, hRel, hRR, hcq, hcc, hff, hl⟩ := h
  obtain rfl := hcc.symm
  obtain rfl := hff.symm
  obtain ⟨n4, n3, r4, w4, mE4, rM, wM, g4, g3, gR, gW⟩ := id hAD
  have hK1 : va_K D vwCl [(cy, .int)] s := hK.sub [0] rfl
  have hK2 : va_K D vwCl [(cy2, .int)] s := hK.sub [1] rfl
  refine lv_aload_n hx hb dL_law_363 rfl (lv_at hl 1 rfl) ?_
  refine go_R (va_runV (As := []) (rest := []) ⟨hx, hb, hml, hown, hts⟩ (c_X2_size l D cy aD aE aK aV aW aR k v c (by omega) lo li hi hn fl ) (cwV 0 hts gL_law_X2_size rfl rfl rfl (by decide +kernel) ⟨(Nat.le_of_ble_eq_true rfl), (Nat.le_of_ble_eq_true rfl)⟩) (preV_W hK1 (LW_5 hW) 0 2 rfl rfl) rfl rfl hl.1 rfl (lv_room (Nat.le_of_ble_eq_true rfl)) dL_law_364 ⟨by show 8 + 2 * q + 0 ≤ 600000; omega, by show 1173 + 8 * q + 0 ≤ 7302250; omega⟩) ?_
  refine lv_aload_n hx hb dL_law_367 rfl (lv_at hl 2 rfl) ?_
  refine go_R (va_runV (As := []) (rest := [.int (nI c)]) ⟨hx, hb, hml, hown, hts⟩ (c_X3_size l D cy2 aM aA aB k2 v2 c (by omega) gl gh ml mh fl mlo mhi ) (cwV 0 hts gL_law_X3_size rfl rfl rfl (by decide +kernel) ⟨(Nat.le_of_ble_eq_true rfl), (Nat.le_of_ble_eq_true rfl)⟩) (preV_W hK2 hW.2.2.2 0 3 rfl rfl) rfl rfl hl.1 rfl (lv_room (Nat.le_of_ble_eq_true rfl)) dL_law_368 ⟨by show 8 + 2 * q + 0 ≤ 600000; omega, by show 1173 + 8 * q + 0 ≤ 7302250; omega⟩) ?_
  refine lv_icmp_eq (tgt := 858) hx hb dL_law_371 (by decide) (fun _ => ?_) (fun h9 => absurd (rfl) h9)
  refine W.widen (k := 8 + 2 * (q + 1)) (n := 1173 + 8 * (q + 1)) (by omega) (by omega) ?_
  exact J _ _ _ ⟨_, _, _, _, _, _, _, _, _, _, _, _, _, _, _, _, _, _, _, _, _, _, _, _, _, _, _, _, _, hK, hS, hAD, hW, hRel, hRR, by omega, rfl, rfl, hl⟩

set_option maxHeartbeats 4000000 in
set_option maxRecDepth 100000 in
/-- the law at clear -/
theorem law_8 {p : Program} {l : Launch} {e : Env} {s : State} {m : MethodId} {below : List Frame} {meth : Method} {c0 : Code} {b L q : Nat} {xs : Nat → Int32} {D : va_G} {H : Heap} {locs : List Loc} {ls : Array Slot} (C0 : lw_At p s m meth c0 b L xs) (hL : L ≤ 288) (hq : 6 * q + 6 ≤ L) (h : LI D s b q (nI (6 * q)) H locs ls) (J : ∀ (H : Heap) (locs : List Loc) (ls : Array Slot), LI D s b (q + 1) (nI (6 * q)) H locs ls → W p l e room_1 s m #[Value.ref b] below meth c0 H locs (8 + 2 * (q + 1)) (1173 + 8 * (q + 1)) (lw_Z below #[Value.ref b] s) (F0 m 858 ls [])) : W p l e room_1 s m #[Value.ref b] below meth c0 H locs (8 + 2 * q) (1173 + 8 * q) (lw_Z below #[Value.ref b] s) (F0 m 376 ls []) := by
  obtain ⟨hx, hb, hr, hml, hown, hts, hX, hbl, hlocks, hgv⟩ := id C0
  have hts := fun w h => hts w (wsL_law_in w h)
  have hown : s.vm.findClass RL = some m.cls := hown
  have hb : c0.code = cL_law := hb
  have hbA : ¬ (fun q : Nat => s.heap.size ≤ q) b := Nat.not_le.mpr hbl
  obtain ⟨cy, cy2, aD, aE, aK, aV, aW, aR, aM, aA, aB, k, v, c, lo, li, hi, hn, fl, k2, v2, c2, gl, gh, ml, mh, f2, mlo, mhi, hK, hS, hAD, hW, hRel, hRR, hcq, hcc, hff, hl⟩ := h
  obtain rfl := hcc.symm
  obtain rfl := hff.symm
  obtain ⟨n4, n3, r4, w4, mE4, rM, wM, g4, g3, gR, gW⟩ := id hAD
  have hK1 : va_K D vwCl [(cy, .int)] s := hK.sub [0] rfl
  have hK2 : va_K D vwCl [(cy2, .int)] s := hK.sub [1] rfl
  refine lv_aload_n hx hb dL_law_376 rfl (lv_at hl 1 rfl) ?_
  refine go_M (va_runV (As := []) (rest := []) ⟨hx, hb, hml, hown, hts⟩ (c_X2_clear l D cy aD aE aK aV aW aR k v c (by omega) lo li hi hn fl n4 r4 _) (cwV 0 hts gL_law_X2_clear rfl rfl rfl (by decide +kernel) ⟨(Nat.le_of_ble_eq_true rfl), (Nat.le_of_ble_eq_true rfl)⟩) (preV_Z hK1 (LW_5 hW) 0 2 rfl rfl) rfl rfl hl.1 rfl (lv_room (Nat.le_of_ble_eq_true rfl)) dL_law_377 ⟨by show 8 + 2 * q + 0 ≤ 600000; omega, by show 1173 + 8 * q + 0 ≤ 7302250; omega⟩) hS (fun z h => mA_ge (fun a ha => g4 a (List.mem_cons_of_mem _ ha)) hS.1 h) (fun H1 locs1 hB hzz hk hS => ?_)
  have hW := LW_E hAD hW hB hk
  clear hk hzz
  generalize H1 = H at hW hS ⊢
  generalize locs1 = locs at hS ⊢
  refine lv_aload_n hx hb dL_law_380 rfl (lv_at hl 2 rfl) ?_
  refine go_M (va_runV (As := []) (rest := [.int (nI (c - (dlK 1 0 0 c c k v).1))]) ⟨hx, hb, hml, hown, hts⟩ (c_X3_clear l D cy2 aM aA aB k2 v2 c (by omega) gl gh ml mh fl mlo mhi n3 _) (cwV 0 hts gL_law_X3_clear rfl rfl rfl (by decide +kernel) ⟨(Nat.le_of_ble_eq_true rfl), (Nat.le_of_ble_eq_true rfl)⟩) (preV_Z hK2 hW.2.2.2 0 3 rfl rfl) rfl rfl hl.1 rfl (lv_room (Nat.le_of_ble_eq_true rfl)) dL_law_381 ⟨by show 8 + 2 * q + 0 ≤ 600000; omega, by show 1173 + 8 * q + 0 ≤ 7302250; omega⟩) hS (fun z h => mA_ge g3 hS.1 h) (fun H1 locs1 hB hzz hk hS => ?_)
  have hW := LW_M hAD hW hB hk
  clear hk hzz
  generalize H1 = H at hW hS ⊢
  generalize locs1 = locs at hS ⊢
  refine lv_icmp_eq (tgt := 858) hx hb dL_law_384 (by decide) (fun _ => ?_) (fun h9 => absurd ((clr_Rel hRel).2) h9)
  refine W.widen (k := 8 + 2 * (q + 1)) (n := 1173 + 8 * (q + 1)) (by omega) (by omega) ?_
  exact J _ _ _ ⟨_, _, _, _, _, _, _, _, _, _, _, _, _, _, _, _, _, _, _, _, _, _, _, _, _, _, _, _, _, hK, hS, hAD, hW, ((clr_Rel hRel).1).2, hRR, Nat.le_trans (dl_le (Nat.zero_le c)) (by omega), ((clr_Rel hRel).1).1, rfl, hl⟩

set_option maxHeartbeats 4000000 in
set_option maxRecDepth 100000 in
/-- the law at look -/
theorem law_9 {p : Program} {l : Launch} {e : Env} {s : State} {m : MethodId} {below : List Frame} {meth : Method} {c0 : Code} {b L q : Nat} {xs : Nat → Int32} {D : va_G} {H : Heap} {locs : List Loc} {ls : Array Slot} (C0 : lw_At p s m meth c0 b L xs) (hL : L ≤ 288) (hq : 6 * q + 6 ≤ L) (h : LI D s b q (nI (6 * q)) H locs ls) (J : ∀ (H : Heap) (locs : List Loc) (ls : Array Slot), LI D s b (q + 1) (nI (6 * q)) H locs ls → W p l e room_1 s m #[Value.ref b] below meth c0 H locs (8 + 2 * (q + 1)) (1173 + 8 * (q + 1)) (lw_Z below #[Value.ref b] s) (F0 m 858 ls [])) : W p l e room_1 s m #[Value.ref b] below meth c0 H locs (8 + 2 * q) (1173 + 8 * q) (lw_Z below #[Value.ref b] s) (F0 m 389 ls []) := by
  obtain ⟨hx, hb, hr, hml, hown, hts, hX, hbl, hlocks, hgv⟩ := id C0
  have hts := fun w h => hts w (wsL_law_in w h)
  have hown : s.vm.findClass RL = some m.cls := hown
  have hb : c0.code = cL_law := hb
  have hbA : ¬ (fun q : Nat => s.heap.size ≤ q) b := Nat.not_le.mpr hbl
  obtain ⟨cy, cy2, aD, aE, aK, aV, aW, aR, aM, aA, aB, k, v, c, lo, li, hi, hn, fl, k2, v2, c2, gl, gh, ml, mh, f2, mlo, mhi, hK, hS, hAD, hW, hRel, hRR, hcq, hcc, hff, hl⟩ := h
  obtain rfl := hcc.symm
  obtain rfl := hff.symm
  obtain ⟨n4, n3, r4, w4, mE4, rM, wM, g4, g3, gR, gW⟩ := id hAD
  have hK1 : va_K D vwCl [(cy, .int)] s := hK.sub [0] rfl
  have hK2 : va_K D vwCl [(cy2, .int)] s := hK.sub [1] rfl
  refine lv_aload_n hx hb dL_law_389 rfl (lv_at hl 1 rfl) ?_
  refine lv_aload_n hx hb dL_law_390 rfl (lv_at hl 0 rfl) ?_
  refine lv_iload_n hx hb dL_law_391 rfl (lv_at hl 3 rfl) ?_
  refine lv_iconst (v := nI 1) hx hb dL_law_392 (by decide) ?_
  refine lv_iadd hx hb dL_law_393 ?_
  refine top_i (y := nI ((6 * q) + 1)) (nI_add _ _) ?_
  refine s_ld hx hb hX hbl hbA hS (by omega) (by omega) dL_law_394 ?_
  refine lv_aload_n hx hb dL_law_395 rfl (lv_at hl 0 rfl) ?_
  refine lv_iload_n hx hb dL_law_396 rfl (lv_at hl 3 rfl) ?_
  refine lv_iconst (v := nI 2) hx hb dL_law_397 (by decide) ?_
  refine lv_iadd hx hb dL_law_398 ?_
  refine top_i (y := nI ((6 * q) + 2)) (nI_add _ _) ?_
  refine s_ld hx hb hX hbl hbA hS (by omega) (by omega) dL_law_399 ?_
  refine lv_aload_n hx hb dL_law_400 rfl (lv_at hl 0 rfl) ?_
  refine lv_iload_n hx hb dL_law_401 rfl (lv_at hl 3 rfl) ?_
  refine lv_iconst (v := nI 3) hx hb dL_law_402 (by decide) ?_
  refine lv_iadd hx hb dL_law_403 ?_
  refine top_i (y := nI ((6 * q) + 3)) (nI_add _ _) ?_
  refine s_ld hx hb hX hbl hbA hS (by omega) (by omega) dL_law_404 ?_
  refine lv_nz (tgt := 412) (J := 413) hx hb dL_law_405 (by decide) dL_law_408 dL_law_409 (by decide) dL_law_412 rfl ?_
  refine lv_aload_n hx hb dL_law_413 rfl (lv_at hl 0 rfl) ?_
  refine lv_iload_n hx hb dL_law_414 rfl (lv_at hl 3 rfl) ?_
  refine lv_iconst (v := nI 4) hx hb dL_law_415 (by decide) ?_
  refine lv_iadd hx hb dL_law_416 ?_
  refine top_i (y := nI ((6 * q) + 4)) (nI_add _ _) ?_
  refine s_ld hx hb hX hbl hbA hS (by omega) (by omega) dL_law_417 ?_
  refine lv_aload_n hx hb dL_law_418 rfl (lv_at hl 0 rfl) ?_
  refine lv_iload_n hx hb dL_law_419 rfl (lv_at hl 3 rfl) ?_
  refine lv_iconst (v := nI 5) hx hb dL_law_420 (by decide) ?_
  refine lv_iadd hx hb dL_law_421 ?_
  refine top_i (y := nI ((6 * q) + 5)) (nI_add _ _) ?_
  refine s_ld hx hb hX hbl hbA hS (by omega) (by omega) dL_law_422 ?_
  refine lv_nz (tgt := 430) (J := 431) hx hb dL_law_423 (by decide) dL_law_426 dL_law_427 (by decide) dL_law_430 rfl ?_
  have hS0 := hS.1
  refine go_X (va_runV (As := [.int (xs ((6 * q) + 1)), .int (xs ((6 * q) + 2)), .int (bI (decide (¬ xs ((6 * q) + 3) = 0))), .int (xs ((6 * q) + 4)), .int (bI (decide (¬ xs ((6 * q) + 5) = 0)))]) (rest := []) ⟨hx, hb, hml, hown, hts⟩ (c_X2_look l D cy aD aE aK aV aW aR k v c (by omega) BA false BH false fl n4 w4 _ (xs ((6 * q) + 1)) (xs ((6 * q) + 2)) ((decide (¬ xs ((6 * q) + 3) = 0))) (xs ((6 * q) + 4)) ((decide (¬ xs ((6 * q) + 5) = 0)))) (cwV 5 hts gL_law_X2_look rfl rfl rfl (by decide +kernel) ⟨(Nat.le_of_ble_eq_true rfl), (Nat.le_of_ble_eq_true rfl)⟩) (preV_Z hK1 (LW_W hW).2 0 2 rfl rfl) rfl rfl hl.1 rfl (lv_room (Nat.le_of_ble_eq_true rfl)) dL_law_431 ⟨by show 8 + 2 * q + 2 ≤ 600000; omega, by show 1173 + 8 * q + 8 ≤ 7302250; omega⟩) hS (fun z h => mA_ge (fun a ha => g4 a (by rw [List.mem_singleton.mp ha]; exact List.mem_cons_self)) hS.1 h) (fun u tt H1 locs1 ht hvm hB hzz hk hS => ?_)
  rw [ht] at hB
  obtain ⟨lo1, li1, hi1, hn1, hAD, hW, hr4⟩ := LW_L (Or.inl rfl) hAD hW hB hk hS0
  clear hk hzz
  generalize H1 = H at hW hS ⊢
  generalize locs1 = locs at hS ⊢
  refine W.eq (g2 := F0 m 434 ls (.int (lkA (prt BA false BH false (xs ((6 * q) + 1)) (xs ((6 * q) + 2)) ((decide (¬ xs ((6 * q) + 3) = 0))) (xs ((6 * q) + 4)) ((decide (¬ xs ((6 * q) + 5) = 0))) false)) :: [])) rfl ?_
  refine W.widen (k := 8 + 2 * q + 2) (n := 1173 + 8 * q + 8) (Nat.le_refl _) (Nat.le_refl _) ?_
  refine lv_aload_n hx hb dL_law_434 rfl (lv_at hl 2 rfl) ?_
  refine lv_aload_n hx hb dL_law_435 rfl (lv_at hl 0 rfl) ?_
  refine lv_iload_n hx hb dL_law_436 rfl (lv_at hl 3 rfl) ?_
  refine lv_iconst (v := nI 1) hx hb dL_law_437 (by decide) ?_
  refine lv_iadd hx hb dL_law_438 ?_
  refine top_i (y := nI ((6 * q) + 1)) (nI_add _ _) ?_
  refine s_ld hx hb hX hbl hbA hS (by omega) (by omega) dL_law_439 ?_
  refine lv_aload_n hx hb dL_law_440 rfl (lv_at hl 0 rfl) ?_
  refine lv_iload_n hx hb dL_law_441 rfl (lv_at hl 3 rfl) ?_
  refine lv_iconst (v := nI 2) hx hb dL_law_442 (by decide) ?_
  refine lv_iadd hx hb dL_law_443 ?_
  refine top_i (y := nI ((6 * q) + 2)) (nI_add _ _) ?_
  refine s_ld hx hb hX hbl hbA hS (by omega) (by omega) dL_law_444 ?_
  refine lv_aload_n hx hb dL_law_445 rfl (lv_at hl 0 rfl) ?_
  refine lv_iload_n hx hb dL_law_446 rfl (lv_at hl 3 rfl) ?_
  refine lv_iconst (v := nI 3) hx hb dL_law_447 (by decide) ?_
  refine lv_iadd hx hb dL_law_448 ?_
  refine top_i (y := nI ((6 * q) + 3)) (nI_add _ _) ?_
  refine s_ld hx hb hX hbl hbA hS (by omega) (by omega) dL_law_449 ?_
  refine lv_nz (tgt := 457) (J := 458) hx hb dL_law_450 (by decide) dL_law_453 dL_law_454 (by decide) dL_law_457 rfl ?_
  refine lv_aload_n hx hb dL_law_458 rfl (lv_at hl 0 rfl) ?_
  refine lv_iload_n hx hb dL_law_459 rfl (lv_at hl 3 rfl) ?_
  refine lv_iconst (v := nI 4) hx hb dL_law_460 (by decide) ?_
  refine lv_iadd hx hb dL_law_461 ?_
  refine top_i (y := nI ((6 * q) + 4)) (nI_add _ _) ?_
  refine s_ld hx hb hX hbl hbA hS (by omega) (by omega) dL_law_462 ?_
  refine lv_aload_n hx hb dL_law_463 rfl (lv_at hl 0 rfl) ?_
  refine lv_iload_n hx hb dL_law_464 rfl (lv_at hl 3 rfl) ?_
  refine lv_iconst (v := nI 5) hx hb dL_law_465 (by decide) ?_
  refine lv_iadd hx hb dL_law_466 ?_
  refine top_i (y := nI ((6 * q) + 5)) (nI_add _ _) ?_
  refine s_ld hx hb hX hbl hbA hS (by omega) (by omega) dL_law_467 ?_
  refine lv_nz (tgt := 475) (J := 476) hx hb dL_law_468 (by decide) dL_law_471 dL_law_472 (by decide) dL_law_475 rfl ?_
  refine go_M (va_runV (As := [.int (xs ((6 * q) + 1)), .int (xs ((6 * q) + 2)), .int (bI (decide (¬ xs ((6 * q) + 3) = 0))), .int (xs ((6 * q) + 4)), .int (bI (decide (¬ xs ((6 * q) + 5) = 0)))]) (rest := [.int (lkA (prt BA false BH false (xs ((6 * q) + 1)) (xs ((6 * q) + 2)) ((decide (¬ xs ((6 * q) + 3) = 0))) (xs ((6 * q) + 4)) ((decide (¬ xs ((6 * q) + 5) = 0))) false))]) ⟨hx, hb, hml, hown, hts⟩ (c_X3_look l D cy2 aM aA aB k2 v2 c (by omega) gl gh ml mh fl mlo mhi n3 _ (xs ((6 * q) + 1)) (xs ((6 * q) + 2)) ((decide (¬ xs ((6 * q) + 3) = 0))) (xs ((6 * q) + 4)) ((decide (¬ xs ((6 * q) + 5) = 0)))) (cwV 5 hts gL_law_X3_look rfl rfl rfl (by decide +kernel) ⟨(Nat.le_of_ble_eq_true rfl), (Nat.le_of_ble_eq_true rfl)⟩) (preV_Z hK2 hW.2.2.2 0 3 rfl rfl) rfl rfl hl.1 rfl (lv_room (Nat.le_of_ble_eq_true rfl)) dL_law_476 ⟨by show 8 + 2 * q + 2 + 0 ≤ 600000; omega, by show 1173 + 8 * q + 8 + 0 ≤ 7302250; omega⟩) hS (fun z h => mA_ge g3 hS.1 h) (fun H1 locs1 hB hzz hk hS => ?_)
  have hW := LW_M hAD hW hB hk
  clear hk hzz
  generalize H1 = H at hW hS ⊢
  generalize locs1 = locs at hS ⊢
  refine lv_icmp_eq (tgt := 858) hx hb dL_law_479 (by decide) (fun _ => ?_) (fun h9 => absurd ((look_eq (fl := fl) (xs ((6 * q) + 1)) (xs ((6 * q) + 2)) ((decide (¬ xs ((6 * q) + 3) = 0))) (xs ((6 * q) + 4)) ((decide (¬ xs ((6 * q) + 5) = 0))) hRR).1) h9)
  refine W.widen (k := 8 + 2 * (q + 1)) (n := 1173 + 8 * (q + 1)) (by omega) (by omega) ?_
  exact J _ _ _ ⟨_, _, _, _, _, _, _, _, _, _, _, _, _, _, _, _, _, _, _, _, _, _, _, _, _, _, _, _, _, hK, hS, hAD, hW, hRel, nwR_use (look_eq (xs ((6 * q) + 1)) (xs ((6 * q) + 2)) ((decide (¬ xs ((6 * q) + 3) = 0))) (xs ((6 * q) + 4)) ((decide (¬ xs ((6 * q) + 5) = 0))) hRR).2.1 hr4, by omega, rfl, (look_eq (fl := fl) (xs ((6 * q) + 1)) (xs ((6 * q) + 2)) ((decide (¬ xs ((6 * q) + 3) = 0))) (xs ((6 * q) + 4)) ((decide (¬ xs ((6 * q) + 5) = 0))) hRR).2.2, hl⟩

set_option maxHeartbeats 4000000 in
set_option maxRecDepth 100000 in
/-- the law at narrow -/
theorem law_10 {p : Program} {l : Launch} {e : Env} {s : State} {m : MethodId} {below : List Frame} {meth : Method} {c0 : Code} {b L q : Nat} {xs : Nat → Int32} {D : va_G} {H : Heap} {locs : List Loc} {ls : Array Slot} (C0 : lw_At p s m meth c0 b L xs) (hL : L ≤ 288) (hq : 6 * q + 6 ≤ L) (h : LI D s b q (nI (6 * q)) H locs ls) (J : ∀ (H : Heap) (locs : List Loc) (ls : Array Slot), LI D s b (q + 1) (nI (6 * q)) H locs ls → W p l e room_1 s m #[Value.ref b] below meth c0 H locs (8 + 2 * (q + 1)) (1173 + 8 * (q + 1)) (lw_Z below #[Value.ref b] s) (F0 m 858 ls [])) : W p l e room_1 s m #[Value.ref b] below meth c0 H locs (8 + 2 * q) (1173 + 8 * q) (lw_Z below #[Value.ref b] s) (F0 m 484 ls []) := by
  obtain ⟨hx, hb, hr, hml, hown, hts, hX, hbl, hlocks, hgv⟩ := id C0
  have hts := fun w h => hts w (wsL_law_in w h)
  have hown : s.vm.findClass RL = some m.cls := hown
  have hb : c0.code = cL_law := hb
  have hbA : ¬ (fun q : Nat => s.heap.size ≤ q) b := Nat.not_le.mpr hbl
  obtain ⟨cy, cy2, aD, aE, aK, aV, aW, aR, aM, aA, aB, k, v, c, lo, li, hi, hn, fl, k2, v2, c2, gl, gh, ml, mh, f2, mlo, mhi, hK, hS, hAD, hW, hRel, hRR, hcq, hcc, hff, hl⟩ := h
  obtain rfl := hcc.symm
  obtain rfl := hff.symm
  obtain ⟨n4, n3, r4, w4, mE4, rM, wM, g4, g3, gR, gW⟩ := id hAD
  have hK1 : va_K D vwCl [(cy, .int)] s := hK.sub [0] rfl
  have hK2 : va_K D vwCl [(cy2, .int)] s := hK.sub [1] rfl
  refine lv_aload_n hx hb dL_law_484 rfl (lv_at hl 1 rfl) ?_
  refine lv_aload_n hx hb dL_law_485 rfl (lv_at hl 0 rfl) ?_
  refine lv_iload_n hx hb dL_law_486 rfl (lv_at hl 3 rfl) ?_
  refine lv_iconst (v := nI 1) hx hb dL_law_487 (by decide) ?_
  refine lv_iadd hx hb dL_law_488 ?_
  refine top_i (y := nI ((6 * q) + 1)) (nI_add _ _) ?_
  refine s_ld hx hb hX hbl hbA hS (by omega) (by omega) dL_law_489 ?_
  refine lv_aload_n hx hb dL_law_490 rfl (lv_at hl 0 rfl) ?_
  refine lv_iload_n hx hb dL_law_491 rfl (lv_at hl 3 rfl) ?_
  refine lv_iconst (v := nI 2) hx hb dL_law_492 (by decide) ?_
  refine lv_iadd hx hb dL_law_493 ?_
  refine top_i (y := nI ((6 * q) + 2)) (nI_add _ _) ?_
  refine s_ld hx hb hX hbl hbA hS (by omega) (by omega) dL_law_494 ?_
  refine lv_aload_n hx hb dL_law_495 rfl (lv_at hl 0 rfl) ?_
  refine lv_iload_n hx hb dL_law_496 rfl (lv_at hl 3 rfl) ?_
  refine lv_iconst (v := nI 3) hx hb dL_law_497 (by decide) ?_
  refine lv_iadd hx hb dL_law_498 ?_
  refine top_i (y := nI ((6 * q) + 3)) (nI_add _ _) ?_
  refine s_ld hx hb hX hbl hbA hS (by omega) (by omega) dL_law_499 ?_
  refine lv_nz (tgt := 507) (J := 508) hx hb dL_law_500 (by decide) dL_law_503 dL_law_504 (by decide) dL_law_507 rfl ?_
  refine lv_aload_n hx hb dL_law_508 rfl (lv_at hl 0 rfl) ?_
  refine lv_iload_n hx hb dL_law_509 rfl (lv_at hl 3 rfl) ?_
  refine lv_iconst (v := nI 4) hx hb dL_law_510 (by decide) ?_
  refine lv_iadd hx hb dL_law_511 ?_
  refine top_i (y := nI ((6 * q) + 4)) (nI_add _ _) ?_
  refine s_ld hx hb hX hbl hbA hS (by omega) (by omega) dL_law_512 ?_
  refine lv_aload_n hx hb dL_law_513 rfl (lv_at hl 0 rfl) ?_
  refine lv_iload_n hx hb dL_law_514 rfl (lv_at hl 3 rfl) ?_
  refine lv_iconst (v := nI 5) hx hb dL_law_515 (by decide) ?_
  refine lv_iadd hx hb dL_law_516 ?_
  refine top_i (y := nI ((6 * q) + 5)) (nI_add _ _) ?_
  refine s_ld hx hb hX hbl hbA hS (by omega) (by omega) dL_law_517 ?_
  refine lv_nz (tgt := 525) (J := 526) hx hb dL_law_518 (by decide) dL_law_521 dL_law_522 (by decide) dL_law_525 rfl ?_
  have hS0 := hS.1
  refine go_X (va_runV (As := [.int (xs ((6 * q) + 1)), .int (xs ((6 * q) + 2)), .int (bI (decide (¬ xs ((6 * q) + 3) = 0))), .int (xs ((6 * q) + 4)), .int (bI (decide (¬ xs ((6 * q) + 5) = 0)))]) (rest := []) ⟨hx, hb, hml, hown, hts⟩ (c_X2_narrow l D cy aD aE aK aV aW aR k v c (by omega) lo li hi hn fl n4 r4 _ (xs ((6 * q) + 1)) (xs ((6 * q) + 2)) ((decide (¬ xs ((6 * q) + 3) = 0))) (xs ((6 * q) + 4)) ((decide (¬ xs ((6 * q) + 5) = 0)))) (cwV 5 hts gL_law_X2_narrow rfl rfl rfl (by decide +kernel) ⟨(Nat.le_of_ble_eq_true rfl), (Nat.le_of_ble_eq_true rfl)⟩) (preV_Z hK1 (LW_5 hW) 0 2 rfl rfl) rfl rfl hl.1 rfl (lv_room (Nat.le_of_ble_eq_true rfl)) dL_law_526 ⟨by show 8 + 2 * q + 2 ≤ 600000; omega, by show 1173 + 8 * q + 8 ≤ 7302250; omega⟩) hS (fun z h => mA_ge (fun a ha => g4 a (by rw [List.mem_singleton.mp ha]; exact List.mem_cons_self)) hS.1 h) (fun u tt H1 locs1 ht hvm hB hzz hk hS => ?_)
  rw [ht] at hB
  obtain ⟨lo1, li1, hi1, hn1, hAD, hW, hr4⟩ := LW_L (Or.inr rfl) hAD hW hB hk hS0
  clear hk hzz
  generalize H1 = H at hW hS ⊢
  generalize locs1 = locs at hS ⊢
  refine W.eq (g2 := F0 m 529 ls (.int (lkA (prt lo li hi hn (xs ((6 * q) + 1)) (xs ((6 * q) + 2)) ((decide (¬ xs ((6 * q) + 3) = 0))) (xs ((6 * q) + 4)) ((decide (¬ xs ((6 * q) + 5) = 0))) fl)) :: [])) rfl ?_
  refine W.widen (k := 8 + 2 * q + 2) (n := 1173 + 8 * q + 8) (Nat.le_refl _) (Nat.le_refl _) ?_
  refine lv_aload_n hx hb dL_law_529 rfl (lv_at hl 2 rfl) ?_
  refine lv_aload_n hx hb dL_law_530 rfl (lv_at hl 0 rfl) ?_
  refine lv_iload_n hx hb dL_law_531 rfl (lv_at hl 3 rfl) ?_
  refine lv_iconst (v := nI 1) hx hb dL_law_532 (by decide) ?_
  refine lv_iadd hx hb dL_law_533 ?_
  refine top_i (y := nI ((6 * q) + 1)) (nI_add _ _) ?_
  refine s_ld hx hb hX hbl hbA hS (by omega) (by omega) dL_law_534 ?_
  refine lv_aload_n hx hb dL_law_535 rfl (lv_at hl 0 rfl) ?_
  refine lv_iload_n hx hb dL_law_536 rfl (lv_at hl 3 rfl) ?_
  refine lv_iconst (v := nI 2) hx hb dL_law_537 (by decide) ?_
  refine lv_iadd hx hb dL_law_538 ?_
  refine top_i (y := nI ((6 * q) + 2)) (nI_add _ _) ?_
  refine s_ld hx hb hX hbl hbA hS (by omega) (by omega) dL_law_539 ?_
  refine lv_aload_n hx hb dL_law_540 rfl (lv_at hl 0 rfl) ?_
  refine lv_iload_n hx hb dL_law_541 rfl (lv_at hl 3 rfl) ?_
  refine lv_iconst (v := nI 3) hx hb dL_law_542 (by decide) ?_
  refine lv_iadd hx hb dL_law_543 ?_
  refine top_i (y := nI ((6 * q) + 3)) (nI_add _ _) ?_
  refine s_ld hx hb hX hbl hbA hS (by omega) (by omega) dL_law_544 ?_
  refine lv_nz (tgt := 552) (J := 553) hx hb dL_law_545 (by decide) dL_law_548 dL_law_549 (by decide) dL_law_552 rfl ?_
  refine lv_aload_n hx hb dL_law_553 rfl (lv_at hl 0 rfl) ?_
  refine lv_iload_n hx hb dL_law_554 rfl (lv_at hl 3 rfl) ?_
  refine lv_iconst (v := nI 4) hx hb dL_law_555 (by decide) ?_
  refine lv_iadd hx hb dL_law_556 ?_
  refine top_i (y := nI ((6 * q) + 4)) (nI_add _ _) ?_
  refine s_ld hx hb hX hbl hbA hS (by omega) (by omega) dL_law_557 ?_
  refine lv_aload_n hx hb dL_law_558 rfl (lv_at hl 0 rfl) ?_
  refine lv_iload_n hx hb dL_law_559 rfl (lv_at hl 3 rfl) ?_
  refine lv_iconst (v := nI 5) hx hb dL_law_560 (by decide) ?_
  refine lv_iadd hx hb dL_law_561 ?_
  refine top_i (y := nI ((6 * q) + 5)) (nI_add _ _) ?_
  refine s_ld hx hb hX hbl hbA hS (by omega) (by omega) dL_law_562 ?_
  refine lv_nz (tgt := 570) (J := 571) hx hb dL_law_563 (by decide) dL_law_566 dL_law_567 (by decide) dL_law_570 rfl ?_
  refine go_M (va_runV (As := [.int (xs ((6 * q) + 1)), .int (xs ((6 * q) + 2)), .int (bI (decide (¬ xs ((6 * q) + 3) = 0))), .int (xs ((6 * q) + 4)), .int (bI (decide (¬ xs ((6 * q) + 5) = 0)))]) (rest := [.int (lkA (prt lo li hi hn (xs ((6 * q) + 1)) (xs ((6 * q) + 2)) ((decide (¬ xs ((6 * q) + 3) = 0))) (xs ((6 * q) + 4)) ((decide (¬ xs ((6 * q) + 5) = 0))) fl))]) ⟨hx, hb, hml, hown, hts⟩ (c_X3_narrow l D cy2 aM aA aB k2 v2 c (by omega) gl gh ml mh fl mlo mhi n3 _ (xs ((6 * q) + 1)) (xs ((6 * q) + 2)) ((decide (¬ xs ((6 * q) + 3) = 0))) (xs ((6 * q) + 4)) ((decide (¬ xs ((6 * q) + 5) = 0)))) (cwV 5 hts gL_law_X3_narrow rfl rfl rfl (by decide +kernel) ⟨(Nat.le_of_ble_eq_true rfl), (Nat.le_of_ble_eq_true rfl)⟩) (preV_Z hK2 hW.2.2.2 0 3 rfl rfl) rfl rfl hl.1 rfl (lv_room (Nat.le_of_ble_eq_true rfl)) dL_law_571 ⟨by show 8 + 2 * q + 2 + 0 ≤ 600000; omega, by show 1173 + 8 * q + 8 + 0 ≤ 7302250; omega⟩) hS (fun z h => mA_ge g3 hS.1 h) (fun H1 locs1 hB hzz hk hS => ?_)
  have hW := LW_M hAD hW hB hk
  clear hk hzz
  generalize H1 = H at hW hS ⊢
  generalize locs1 = locs at hS ⊢
  refine lv_icmp_eq (tgt := 858) hx hb dL_law_574 (by decide) (fun _ => ?_) (fun h9 => absurd ((narrow_eq (fl := fl) (xs ((6 * q) + 1)) (xs ((6 * q) + 2)) ((decide (¬ xs ((6 * q) + 3) = 0))) (xs ((6 * q) + 4)) ((decide (¬ xs ((6 * q) + 5) = 0))) hRR).1) h9)
  refine W.widen (k := 8 + 2 * (q + 1)) (n := 1173 + 8 * (q + 1)) (by omega) (by omega) ?_
  exact J _ _ _ ⟨_, _, _, _, _, _, _, _, _, _, _, _, _, _, _, _, _, _, _, _, _, _, _, _, _, _, _, _, _, hK, hS, hAD, hW, hRel, nwR_use (narrow_eq (xs ((6 * q) + 1)) (xs ((6 * q) + 2)) ((decide (¬ xs ((6 * q) + 3) = 0))) (xs ((6 * q) + 4)) ((decide (¬ xs ((6 * q) + 5) = 0))) hRR).2.1 hr4, by omega, rfl, (narrow_eq (fl := fl) (xs ((6 * q) + 1)) (xs ((6 * q) + 2)) ((decide (¬ xs ((6 * q) + 3) = 0))) (xs ((6 * q) + 4)) ((decide (¬ xs ((6 * q) + 5) = 0))) hRR).2.2.trans mt_same.symm, hl⟩

set_option maxHeartbeats 4000000 in
set_option maxRecDepth 100000 in
/-- the law at turn -/
theorem law_11 {p : Program} {l : Launch} {e : Env} {s : State} {m : MethodId} {below : List Frame} {meth : Method} {c0 : Code} {b L q : Nat} {xs : Nat → Int32} {D : va_G} {H : Heap} {locs : List Loc} {ls : Array Slot} (C0 : lw_At p s m meth c0 b L xs) (hL : L ≤ 288) (hq : 6 * q + 6 ≤ L) (h : LI D s b q (nI (6 * q)) H locs ls) (J : ∀ (H : Heap) (locs : List Loc) (ls : Array Slot), LI D s b (q + 1) (nI (6 * q)) H locs ls → W p l e room_1 s m #[Value.ref b] below meth c0 H locs (8 + 2 * (q + 1)) (1173 + 8 * (q + 1)) (lw_Z below #[Value.ref b] s) (F0 m 858 ls [])) : W p l e room_1 s m #[Value.ref b] below meth c0 H locs (8 + 2 * q) (1173 + 8 * q) (lw_Z below #[Value.ref b] s) (F0 m 579 ls []) := by
  obtain ⟨hx, hb, hr, hml, hown, hts, hX, hbl, hlocks, hgv⟩ := id C0
  have hts := fun w h => hts w (wsL_law_in w h)
  have hown : s.vm.findClass RL = some m.cls := hown
  have hb : c0.code = cL_law := hb
  have hbA : ¬ (fun q : Nat => s.heap.size ≤ q) b := Nat.not_le.mpr hbl
  obtain ⟨cy, cy2, aD, aE, aK, aV, aW, aR, aM, aA, aB, k, v, c, lo, li, hi, hn, fl, k2, v2, c2, gl, gh, ml, mh, f2, mlo, mhi, hK, hS, hAD, hW, hRel, hRR, hcq, hcc, hff, hl⟩ := h
  obtain rfl := hcc.symm
  obtain rfl := hff.symm
  obtain ⟨n4, n3, r4, w4, mE4, rM, wM, g4, g3, gR, gW⟩ := id hAD
  have hK1 : va_K D vwCl [(cy, .int)] s := hK.sub [0] rfl
  have hK2 : va_K D vwCl [(cy2, .int)] s := hK.sub [1] rfl
  have q1 := vB_le k c lo li
  have q2 := vE_le k c lo li hi hn
  have q3 := vBE k c lo li hi hn
  have p1 := mF_le k2 c gl mlo ml gh mhi mh
  have p2 := mE_le k2 c gl mlo ml gh mhi mh
  have p3 := mFE k2 c gl mlo ml gh mhi mh
  have hv := vw hRR (fun j hj => (hRel.1 j hj).1) hRel.2
  refine lv_aload_n hx hb dL_law_579 rfl (lv_at hl 1 rfl) ?_
  refine go_M (va_runV (As := []) (rest := []) ⟨hx, hb, hml, hown, hts⟩ (c_X2_turn l D cy aD aE aK aV aW aR k v c (by omega) lo li hi hn fl n4 r4 _) (cwV 0 hts gL_law_X2_turn rfl rfl rfl (by decide +kernel) ⟨(Nat.le_of_ble_eq_true rfl), (Nat.le_of_ble_eq_true rfl)⟩) (preV_Z hK1 (LW_5 hW) 0 2 rfl rfl) rfl rfl hl.1 rfl (lv_room (Nat.le_of_ble_eq_true rfl)) dL_law_580 ⟨by show 8 + 2 * q + 0 ≤ 600000; omega, by show 1173 + 8 * q + 0 ≤ 7302250; omega⟩) hS (fun z h => mA_ge (fun a ha => g4 a (by rw [List.mem_singleton.mp ha]; exact List.mem_cons_self)) hS.1 h) (fun H1 locs1 hB hzz hk hS => ?_)
  have hW := LW_T hAD hW hB hk
  clear hk hzz
  generalize H1 = H at hW hS ⊢
  generalize locs1 = locs at hS ⊢
  refine lv_aload_n hx hb dL_law_583 rfl (lv_at hl 2 rfl) ?_
  refine go_M (va_runV (As := []) (rest := [.int (nI ((vE k c lo li hi hn) - (vB k c lo li)))]) ⟨hx, hb, hml, hown, hts⟩ (c_X3_turn l D cy2 aM aA aB k2 v2 c (by omega) gl gh ml mh fl mlo mhi n3 _) (cwV 0 hts gL_law_X3_turn rfl rfl rfl (by decide +kernel) ⟨(Nat.le_of_ble_eq_true rfl), (Nat.le_of_ble_eq_true rfl)⟩) (preV_Z hK2 hW.2.2.2 0 3 rfl rfl) rfl rfl hl.1 rfl (lv_room (Nat.le_of_ble_eq_true rfl)) dL_law_584 ⟨by show 8 + 2 * q + 0 ≤ 600000; omega, by show 1173 + 8 * q + 0 ≤ 7302250; omega⟩) hS (fun z h => mA_ge g3 hS.1 h) (fun H1 locs1 hB hzz hk hS => ?_)
  have hW := LW_M hAD hW hB hk
  clear hk hzz
  generalize H1 = H at hW hS ⊢
  generalize locs1 = locs at hS ⊢
  refine lv_icmp_eq (tgt := 858) hx hb dL_law_587 (by decide) (fun _ => ?_) (fun h9 => absurd (vsz_A hv) h9)
  refine W.widen (k := 8 + 2 * (q + 1)) (n := 1173 + 8 * (q + 1)) (by omega) (by omega) ?_
  exact J _ _ _ ⟨_, _, _, _, _, _, _, _, _, _, _, _, _, _, _, _, _, _, _, _, _, _, _, _, _, _, _, _, _, hK, hS, hAD, hW, hRel, hRR, by omega, rfl, rfl, hl⟩

set_option maxHeartbeats 4000000 in
set_option maxRecDepth 100000 in
/-- the law at viewSize -/
theorem law_12 {p : Program} {l : Launch} {e : Env} {s : State} {m : MethodId} {below : List Frame} {meth : Method} {c0 : Code} {b L q : Nat} {xs : Nat → Int32} {D : va_G} {H : Heap} {locs : List Loc} {ls : Array Slot} (C0 : lw_At p s m meth c0 b L xs) (hL : L ≤ 288) (hq : 6 * q + 6 ≤ L) (h : LI D s b q (nI (6 * q)) H locs ls) (J : ∀ (H : Heap) (locs : List Loc) (ls : Array Slot), LI D s b (q + 1) (nI (6 * q)) H locs ls → W p l e room_1 s m #[Value.ref b] below meth c0 H locs (8 + 2 * (q + 1)) (1173 + 8 * (q + 1)) (lw_Z below #[Value.ref b] s) (F0 m 858 ls [])) : W p l e room_1 s m #[Value.ref b] below meth c0 H locs (8 + 2 * q) (1173 + 8 * q) (lw_Z below #[Value.ref b] s) (F0 m 592 ls []) := by
  obtain ⟨hx, hb, hr, hml, hown, hts, hX, hbl, hlocks, hgv⟩ := id C0
  have hts := fun w h => hts w (wsL_law_in w h)
  have hown : s.vm.findClass RL = some m.cls := hown
  have hb : c0.code = cL_law := hb
  have hbA : ¬ (fun q : Nat => s.heap.size ≤ q) b := Nat.not_le.mpr hbl
  obtain ⟨cy, cy2, aD, aE, aK, aV, aW, aR, aM, aA, aB, k, v, c, lo, li, hi, hn, fl, k2, v2, c2, gl, gh, ml, mh, f2, mlo, mhi, hK, hS, hAD, hW, hRel, hRR, hcq, hcc, hff, hl⟩ := h
  obtain rfl := hcc.symm
  obtain rfl := hff.symm
  obtain ⟨n4, n3, r4, w4, mE4, rM, wM, g4, g3, gR, gW⟩ := id hAD
  have hK1 : va_K D vwCl [(cy, .int)] s := hK.sub [0] rfl
  have hK2 : va_K D vwCl [(cy2, .int)] s := hK.sub [1] rfl
  have q1 := vB_le k c lo li
  have q2 := vE_le k c lo li hi hn
  have q3 := vBE k c lo li hi hn
  have p1 := mF_le k2 c gl mlo ml gh mhi mh
  have p2 := mE_le k2 c gl mlo ml gh mhi mh
  have p3 := mFE k2 c gl mlo ml gh mhi mh
  have hv := vw hRR (fun j hj => (hRel.1 j hj).1) hRel.2
  refine lv_aload_n hx hb dL_law_592 rfl (lv_at hl 1 rfl) ?_
  refine go_R (va_runV (As := []) (rest := []) ⟨hx, hb, hml, hown, hts⟩ (c_X2_viewSize l D cy aD aE aK aV aW aR k v c (by omega) lo li hi hn fl ) (cwV 0 hts gL_law_X2_viewSize rfl rfl rfl (by decide +kernel) ⟨(Nat.le_of_ble_eq_true rfl), (Nat.le_of_ble_eq_true rfl)⟩) (preV_W hK1 (LW_5 hW) 0 2 rfl rfl) rfl rfl hl.1 rfl (lv_room (Nat.le_of_ble_eq_true rfl)) dL_law_593 ⟨by show 8 + 2 * q + 0 ≤ 600000; omega, by show 1173 + 8 * q + 0 ≤ 7302250; omega⟩) ?_
  refine lv_aload_n hx hb dL_law_596 rfl (lv_at hl 2 rfl) ?_
  refine go_R (va_runV (As := []) (rest := [.int (nI ((vE k c lo li hi hn) - (vB k c lo li)))]) ⟨hx, hb, hml, hown, hts⟩ (c_X3_viewSize l D cy2 aM aA aB k2 v2 c (by omega) gl gh ml mh fl mlo mhi ) (cwV 0 hts gL_law_X3_viewSize rfl rfl rfl (by decide +kernel) ⟨(Nat.le_of_ble_eq_true rfl), (Nat.le_of_ble_eq_true rfl)⟩) (preV_W hK2 hW.2.2.2 0 3 rfl rfl) rfl rfl hl.1 rfl (lv_room (Nat.le_of_ble_eq_true rfl)) dL_law_597 ⟨by show 8 + 2 * q + 0 ≤ 600000; omega, by show 1173 + 8 * q + 0 ≤ 7302250; omega⟩) ?_
  refine lv_icmp_eq (tgt := 858) hx hb dL_law_600 (by decide) (fun _ => ?_) (fun h9 => absurd (vsz_A hv) h9)
  refine W.widen (k := 8 + 2 * (q + 1)) (n := 1173 + 8 * (q + 1)) (by omega) (by omega) ?_
  exact J _ _ _ ⟨_, _, _, _, _, _, _, _, _, _, _, _, _, _, _, _, _, _, _, _, _, _, _, _, _, _, _, _, _, hK, hS, hAD, hW, hRel, hRR, by omega, rfl, rfl, hl⟩

set_option maxHeartbeats 4000000 in
set_option maxRecDepth 100000 in
/-- the law at viewPut -/
theorem law_13 {p : Program} {l : Launch} {e : Env} {s : State} {m : MethodId} {below : List Frame} {meth : Method} {c0 : Code} {b L q : Nat} {xs : Nat → Int32} {D : va_G} {H : Heap} {locs : List Loc} {ls : Array Slot} (C0 : lw_At p s m meth c0 b L xs) (hL : L ≤ 288) (hq : 6 * q + 6 ≤ L) (h : LI D s b q (nI (6 * q)) H locs ls) (J : ∀ (H : Heap) (locs : List Loc) (ls : Array Slot), LI D s b (q + 1) (nI (6 * q)) H locs ls → W p l e room_1 s m #[Value.ref b] below meth c0 H locs (8 + 2 * (q + 1)) (1173 + 8 * (q + 1)) (lw_Z below #[Value.ref b] s) (F0 m 858 ls [])) : W p l e room_1 s m #[Value.ref b] below meth c0 H locs (8 + 2 * q) (1173 + 8 * q) (lw_Z below #[Value.ref b] s) (F0 m 605 ls []) := by
  obtain ⟨hx, hb, hr, hml, hown, hts, hX, hbl, hlocks, hgv⟩ := id C0
  have hts := fun w h => hts w (wsL_law_in w h)
  have hown : s.vm.findClass RL = some m.cls := hown
  have hb : c0.code = cL_law := hb
  have hbA : ¬ (fun q : Nat => s.heap.size ≤ q) b := Nat.not_le.mpr hbl
  obtain ⟨cy, cy2, aD, aE, aK, aV, aW, aR, aM, aA, aB, k, v, c, lo, li, hi, hn, fl, k2, v2, c2, gl, gh, ml, mh, f2, mlo, mhi, hK, hS, hAD, hW, hRel, hRR, hcq, hcc, hff, hl⟩ := h
  obtain rfl := hcc.symm
  obtain rfl := hff.symm
  obtain ⟨n4, n3, r4, w4, mE4, rM, wM, g4, g3, gR, gW⟩ := id hAD
  have hK1 : va_K D vwCl [(cy, .int)] s := hK.sub [0] rfl
  have hK2 : va_K D vwCl [(cy2, .int)] s := hK.sub [1] rfl
  refine lv_aload_n hx hb dL_law_605 rfl (lv_at hl 1 rfl) ?_
  refine lv_aload_n hx hb dL_law_606 rfl (lv_at hl 0 rfl) ?_
  refine lv_iload_n hx hb dL_law_607 rfl (lv_at hl 3 rfl) ?_
  refine lv_iconst (v := nI 1) hx hb dL_law_608 (by decide) ?_
  refine lv_iadd hx hb dL_law_609 ?_
  refine top_i (y := nI ((6 * q) + 1)) (nI_add _ _) ?_
  refine s_ld hx hb hX hbl hbA hS (by omega) (by omega) dL_law_610 ?_
  refine lv_aload_n hx hb dL_law_611 rfl (lv_at hl 0 rfl) ?_
  refine lv_iload_n hx hb dL_law_612 rfl (lv_at hl 3 rfl) ?_
  refine lv_iconst (v := nI 2) hx hb dL_law_613 (by decide) ?_
  refine lv_iadd hx hb dL_law_614 ?_
  refine top_i (y := nI ((6 * q) + 2)) (nI_add _ _) ?_
  refine s_ld hx hb hX hbl hbA hS (by omega) (by omega) dL_law_615 ?_
  refine go_M (va_runV (As := [.int (xs ((6 * q) + 1)), .int (xs ((6 * q) + 2))]) (rest := []) ⟨hx, hb, hml, hown, hts⟩ (c_X2_viewPut l D cy aD aE aK aV aW aR k v c (by omega) lo li hi hn fl n4 r4 _ (by omega) (xs ((6 * q) + 1)) (xs ((6 * q) + 2))) (cwV 2 hts gL_law_X2_viewPut rfl rfl rfl (by decide +kernel) ⟨(Nat.le_of_ble_eq_true rfl), (Nat.le_of_ble_eq_true rfl)⟩) (preV_Z hK1 (LW_5 hW) 0 2 rfl rfl) rfl rfl hl.1 rfl (lv_room (Nat.le_of_ble_eq_true rfl)) dL_law_616 ⟨by show 8 + 2 * q + 0 ≤ 600000; omega, by show 1173 + 8 * q + 0 ≤ 7302250; omega⟩) hS (fun z h => mA_ge (fun a ha => g4 a (List.mem_cons_of_mem _ ha)) hS.1 h) (fun H1 locs1 hB hzz hk hS => ?_)
  have hW := LW_E hAD hW hB hk
  clear hk hzz
  generalize H1 = H at hW hS ⊢
  generalize locs1 = locs at hS ⊢
  refine lv_aload_n hx hb dL_law_619 rfl (lv_at hl 2 rfl) ?_
  refine lv_aload_n hx hb dL_law_620 rfl (lv_at hl 0 rfl) ?_
  refine lv_iload_n hx hb dL_law_621 rfl (lv_at hl 3 rfl) ?_
  refine lv_iconst (v := nI 1) hx hb dL_law_622 (by decide) ?_
  refine lv_iadd hx hb dL_law_623 ?_
  refine top_i (y := nI ((6 * q) + 1)) (nI_add _ _) ?_
  refine s_ld hx hb hX hbl hbA hS (by omega) (by omega) dL_law_624 ?_
  refine lv_aload_n hx hb dL_law_625 rfl (lv_at hl 0 rfl) ?_
  refine lv_iload_n hx hb dL_law_626 rfl (lv_at hl 3 rfl) ?_
  refine lv_iconst (v := nI 2) hx hb dL_law_627 (by decide) ?_
  refine lv_iadd hx hb dL_law_628 ?_
  refine top_i (y := nI ((6 * q) + 2)) (nI_add _ _) ?_
  refine s_ld hx hb hX hbl hbA hS (by omega) (by omega) dL_law_629 ?_
  refine go_M (va_runV (As := [.int (xs ((6 * q) + 1)), .int (xs ((6 * q) + 2))]) (rest := [.long (if hR lo li hi hn (xs ((6 * q) + 1)).toInt64 = true then vOf k v c (xs ((6 * q) + 1)) else OUT)]) ⟨hx, hb, hml, hown, hts⟩ (c_X3_viewPut l D cy2 aM aA aB k2 v2 c (by omega) gl gh ml mh fl mlo mhi n3 _ (by omega) (xs ((6 * q) + 1)) (xs ((6 * q) + 2))) (cwV 2 hts gL_law_X3_viewPut rfl rfl rfl (by decide +kernel) ⟨(Nat.le_of_ble_eq_true rfl), (Nat.le_of_ble_eq_true rfl)⟩) (preV_Z hK2 hW.2.2.2 0 3 rfl rfl) rfl rfl hl.1 rfl (lv_room (Nat.le_of_ble_eq_true rfl)) dL_law_630 ⟨by show 8 + 2 * q + 0 ≤ 600000; omega, by show 1173 + 8 * q + 0 ≤ 7302250; omega⟩) hS (fun z h => mA_ge g3 hS.1 h) (fun H1 locs1 hB hzz hk hS => ?_)
  have hW := LW_M hAD hW hB hk
  clear hk hzz
  generalize H1 = H at hW hS ⊢
  generalize locs1 = locs at hS ⊢
  refine l_eq (tgt := 858) hx hb dL_law_633 dL_law_634 (by decide) (fun _ => ?_) (fun h9 => absurd (by rw [in_RR hRR, vOf_c hRel]) h9)
  refine W.widen (k := 8 + 2 * (q + 1)) (n := 1173 + 8 * (q + 1)) (by omega) (by omega) ?_
  exact J _ _ _ ⟨_, _, _, _, _, _, _, _, _, _, _, _, _, _, _, _, _, _, _, _, _, _, _, _, _, _, _, _, _, hK, hS, hAD, hW, by rw [in_RR hRR]; exact (vput_Rel hRel _ (xs ((6 * q) + 1)) (xs ((6 * q) + 2))).1.2, hRR, Nat.le_trans (vput_Rel hRel _ (xs ((6 * q) + 1)) (xs ((6 * q) + 2))).2 (by omega), by rw [in_RR hRR]; exact (vput_Rel hRel _ (xs ((6 * q) + 1)) (xs ((6 * q) + 2))).1.1, rfl, hl⟩

set_option maxHeartbeats 4000000 in
set_option maxRecDepth 100000 in
/-- the law at viewGet -/
theorem law_14 {p : Program} {l : Launch} {e : Env} {s : State} {m : MethodId} {below : List Frame} {meth : Method} {c0 : Code} {b L q : Nat} {xs : Nat → Int32} {D : va_G} {H : Heap} {locs : List Loc} {ls : Array Slot} (C0 : lw_At p s m meth c0 b L xs) (hL : L ≤ 288) (hq : 6 * q + 6 ≤ L) (h : LI D s b q (nI (6 * q)) H locs ls) (J : ∀ (H : Heap) (locs : List Loc) (ls : Array Slot), LI D s b (q + 1) (nI (6 * q)) H locs ls → W p l e room_1 s m #[Value.ref b] below meth c0 H locs (8 + 2 * (q + 1)) (1173 + 8 * (q + 1)) (lw_Z below #[Value.ref b] s) (F0 m 858 ls [])) : W p l e room_1 s m #[Value.ref b] below meth c0 H locs (8 + 2 * q) (1173 + 8 * q) (lw_Z below #[Value.ref b] s) (F0 m 639 ls []) := by
  obtain ⟨hx, hb, hr, hml, hown, hts, hX, hbl, hlocks, hgv⟩ := id C0
  have hts := fun w h => hts w (wsL_law_in w h)
  have hown : s.vm.findClass RL = some m.cls := hown
  have hb : c0.code = cL_law := hb
  have hbA : ¬ (fun q : Nat => s.heap.size ≤ q) b := Nat.not_le.mpr hbl
  obtain ⟨cy, cy2, aD, aE, aK, aV, aW, aR, aM, aA, aB, k, v, c, lo, li, hi, hn, fl, k2, v2, c2, gl, gh, ml, mh, f2, mlo, mhi, hK, hS, hAD, hW, hRel, hRR, hcq, hcc, hff, hl⟩ := h
  obtain rfl := hcc.symm
  obtain rfl := hff.symm
  obtain ⟨n4, n3, r4, w4, mE4, rM, wM, g4, g3, gR, gW⟩ := id hAD
  have hK1 : va_K D vwCl [(cy, .int)] s := hK.sub [0] rfl
  have hK2 : va_K D vwCl [(cy2, .int)] s := hK.sub [1] rfl
  refine lv_aload_n hx hb dL_law_639 rfl (lv_at hl 1 rfl) ?_
  refine lv_aload_n hx hb dL_law_640 rfl (lv_at hl 0 rfl) ?_
  refine lv_iload_n hx hb dL_law_641 rfl (lv_at hl 3 rfl) ?_
  refine lv_iconst (v := nI 1) hx hb dL_law_642 (by decide) ?_
  refine lv_iadd hx hb dL_law_643 ?_
  refine top_i (y := nI ((6 * q) + 1)) (nI_add _ _) ?_
  refine s_ld hx hb hX hbl hbA hS (by omega) (by omega) dL_law_644 ?_
  refine go_R (va_runV (As := [.int (xs ((6 * q) + 1))]) (rest := []) ⟨hx, hb, hml, hown, hts⟩ (c_X2_viewGet l D cy aD aE aK aV aW aR k v c (by omega) lo li hi hn fl (xs ((6 * q) + 1))) (cwV 1 hts gL_law_X2_viewGet rfl rfl rfl (by decide +kernel) ⟨(Nat.le_of_ble_eq_true rfl), (Nat.le_of_ble_eq_true rfl)⟩) (preV_W hK1 (LW_5 hW) 0 2 rfl rfl) rfl rfl hl.1 rfl (lv_room (Nat.le_of_ble_eq_true rfl)) dL_law_645 ⟨by show 8 + 2 * q + 0 ≤ 600000; omega, by show 1173 + 8 * q + 0 ≤ 7302250; omega⟩) ?_
  refine lv_aload_n hx hb dL_law_648 rfl (lv_at hl 2 rfl) ?_
  refine lv_aload_n hx hb dL_law_649 rfl (lv_at hl 0 rfl) ?_
  refine lv_iload_n hx hb dL_law_650 rfl (lv_at hl 3 rfl) ?_
  refine lv_iconst (v := nI 1) hx hb dL_law_651 (by decide) ?_
  refine lv_iadd hx hb dL_law_652 ?_
  refine top_i (y := nI ((6 * q) + 1)) (nI_add _ _) ?_
  refine s_ld hx hb hX hbl hbA hS (by omega) (by omega) dL_law_653 ?_
  refine go_R (va_runV (As := [.int (xs ((6 * q) + 1))]) (rest := [.long (if hR lo li hi hn (xs ((6 * q) + 1)).toInt64 = true then vOf k v c (xs ((6 * q) + 1)) else NO)]) ⟨hx, hb, hml, hown, hts⟩ (c_X3_viewGet l D cy2 aM aA aB k2 v2 c (by omega) gl gh ml mh fl mlo mhi (xs ((6 * q) + 1))) (cwV 1 hts gL_law_X3_viewGet rfl rfl rfl (by decide +kernel) ⟨(Nat.le_of_ble_eq_true rfl), (Nat.le_of_ble_eq_true rfl)⟩) (preV_W hK2 hW.2.2.2 0 3 rfl rfl) rfl rfl hl.1 rfl (lv_room (Nat.le_of_ble_eq_true rfl)) dL_law_654 ⟨by show 8 + 2 * q + 0 ≤ 600000; omega, by show 1173 + 8 * q + 0 ≤ 7302250; omega⟩) ?_
  refine l_eq (tgt := 858) hx hb dL_law_657 dL_law_658 (by decide) (fun _ => ?_) (fun h9 => absurd (by rw [in_RR hRR, vOf_c hRel]) h9)
  refine W.widen (k := 8 + 2 * (q + 1)) (n := 1173 + 8 * (q + 1)) (by omega) (by omega) ?_
  exact J _ _ _ ⟨_, _, _, _, _, _, _, _, _, _, _, _, _, _, _, _, _, _, _, _, _, _, _, _, _, _, _, _, _, hK, hS, hAD, hW, hRel, hRR, by omega, rfl, rfl, hl⟩

set_option maxHeartbeats 4000000 in
set_option maxRecDepth 100000 in
/-- the law at viewRemove -/
theorem law_15 {p : Program} {l : Launch} {e : Env} {s : State} {m : MethodId} {below : List Frame} {meth : Method} {c0 : Code} {b L q : Nat} {xs : Nat → Int32} {D : va_G} {H : Heap} {locs : List Loc} {ls : Array Slot} (C0 : lw_At p s m meth c0 b L xs) (hL : L ≤ 288) (hq : 6 * q + 6 ≤ L) (h : LI D s b q (nI (6 * q)) H locs ls) (J : ∀ (H : Heap) (locs : List Loc) (ls : Array Slot), LI D s b (q + 1) (nI (6 * q)) H locs ls → W p l e room_1 s m #[Value.ref b] below meth c0 H locs (8 + 2 * (q + 1)) (1173 + 8 * (q + 1)) (lw_Z below #[Value.ref b] s) (F0 m 858 ls [])) : W p l e room_1 s m #[Value.ref b] below meth c0 H locs (8 + 2 * q) (1173 + 8 * q) (lw_Z below #[Value.ref b] s) (F0 m 663 ls []) := by
  obtain ⟨hx, hb, hr, hml, hown, hts, hX, hbl, hlocks, hgv⟩ := id C0
  have hts := fun w h => hts w (wsL_law_in w h)
  have hown : s.vm.findClass RL = some m.cls := hown
  have hb : c0.code = cL_law := hb
  have hbA : ¬ (fun q : Nat => s.heap.size ≤ q) b := Nat.not_le.mpr hbl
  obtain ⟨cy, cy2, aD, aE, aK, aV, aW, aR, aM, aA, aB, k, v, c, lo, li, hi, hn, fl, k2, v2, c2, gl, gh, ml, mh, f2, mlo, mhi, hK, hS, hAD, hW, hRel, hRR, hcq, hcc, hff, hl⟩ := h
  obtain rfl := hcc.symm
  obtain rfl := hff.symm
  obtain ⟨n4, n3, r4, w4, mE4, rM, wM, g4, g3, gR, gW⟩ := id hAD
  have hK1 : va_K D vwCl [(cy, .int)] s := hK.sub [0] rfl
  have hK2 : va_K D vwCl [(cy2, .int)] s := hK.sub [1] rfl
  refine lv_aload_n hx hb dL_law_663 rfl (lv_at hl 1 rfl) ?_
  refine lv_aload_n hx hb dL_law_664 rfl (lv_at hl 0 rfl) ?_
  refine lv_iload_n hx hb dL_law_665 rfl (lv_at hl 3 rfl) ?_
  refine lv_iconst (v := nI 1) hx hb dL_law_666 (by decide) ?_
  refine lv_iadd hx hb dL_law_667 ?_
  refine top_i (y := nI ((6 * q) + 1)) (nI_add _ _) ?_
  refine s_ld hx hb hX hbl hbA hS (by omega) (by omega) dL_law_668 ?_
  refine go_M (va_runV (As := [.int (xs ((6 * q) + 1))]) (rest := []) ⟨hx, hb, hml, hown, hts⟩ (c_X2_viewRemove l D cy aD aE aK aV aW aR k v c (by omega) lo li hi hn fl n4 r4 _ (xs ((6 * q) + 1))) (cwV 1 hts gL_law_X2_viewRemove rfl rfl rfl (by decide +kernel) ⟨(Nat.le_of_ble_eq_true rfl), (Nat.le_of_ble_eq_true rfl)⟩) (preV_Z hK1 (LW_5 hW) 0 2 rfl rfl) rfl rfl hl.1 rfl (lv_room (Nat.le_of_ble_eq_true rfl)) dL_law_669 ⟨by show 8 + 2 * q + 0 ≤ 600000; omega, by show 1173 + 8 * q + 0 ≤ 7302250; omega⟩) hS (fun z h => mA_ge (fun a ha => g4 a (List.mem_cons_of_mem _ ha)) hS.1 h) (fun H1 locs1 hB hzz hk hS => ?_)
  have hW := LW_E hAD hW hB hk
  clear hk hzz
  generalize H1 = H at hW hS ⊢
  generalize locs1 = locs at hS ⊢
  refine lv_aload_n hx hb dL_law_672 rfl (lv_at hl 2 rfl) ?_
  refine lv_aload_n hx hb dL_law_673 rfl (lv_at hl 0 rfl) ?_
  refine lv_iload_n hx hb dL_law_674 rfl (lv_at hl 3 rfl) ?_
  refine lv_iconst (v := nI 1) hx hb dL_law_675 (by decide) ?_
  refine lv_iadd hx hb dL_law_676 ?_
  refine top_i (y := nI ((6 * q) + 1)) (nI_add _ _) ?_
  refine s_ld hx hb hX hbl hbA hS (by omega) (by omega) dL_law_677 ?_
  refine go_M (va_runV (As := [.int (xs ((6 * q) + 1))]) (rest := [.long (if hR lo li hi hn (xs ((6 * q) + 1)).toInt64 = true then vOf k v c (xs ((6 * q) + 1)) else NO)]) ⟨hx, hb, hml, hown, hts⟩ (c_X3_viewRemove l D cy2 aM aA aB k2 v2 c (by omega) gl gh ml mh fl mlo mhi n3 _ (xs ((6 * q) + 1))) (cwV 1 hts gL_law_X3_viewRemove rfl rfl rfl (by decide +kernel) ⟨(Nat.le_of_ble_eq_true rfl), (Nat.le_of_ble_eq_true rfl)⟩) (preV_Z hK2 hW.2.2.2 0 3 rfl rfl) rfl rfl hl.1 rfl (lv_room (Nat.le_of_ble_eq_true rfl)) dL_law_678 ⟨by show 8 + 2 * q + 0 ≤ 600000; omega, by show 1173 + 8 * q + 0 ≤ 7302250; omega⟩) hS (fun z h => mA_ge g3 hS.1 h) (fun H1 locs1 hB hzz hk hS => ?_)
  have hW := LW_M hAD hW hB hk
  clear hk hzz
  generalize H1 = H at hW hS ⊢
  generalize locs1 = locs at hS ⊢
  refine l_eq (tgt := 858) hx hb dL_law_681 dL_law_682 (by decide) (fun _ => ?_) (fun h9 => absurd (by rw [in_RR hRR, vOf_c hRel]) h9)
  refine W.widen (k := 8 + 2 * (q + 1)) (n := 1173 + 8 * (q + 1)) (by omega) (by omega) ?_
  exact J _ _ _ ⟨_, _, _, _, _, _, _, _, _, _, _, _, _, _, _, _, _, _, _, _, _, _, _, _, _, _, _, _, _, hK, hS, hAD, hW, by rw [in_RR hRR]; exact (vrem_Rel hRel _ (xs ((6 * q) + 1))).1.2, hRR, Nat.le_trans (vrem_Rel hRel _ (xs ((6 * q) + 1))).2 (by omega), by rw [in_RR hRR]; exact (vrem_Rel hRel _ (xs ((6 * q) + 1))).1.1, rfl, hl⟩

set_option maxHeartbeats 4000000 in
set_option maxRecDepth 100000 in
/-- the law at viewNear -/
theorem law_16 {p : Program} {l : Launch} {e : Env} {s : State} {m : MethodId} {below : List Frame} {meth : Method} {c0 : Code} {b L q : Nat} {xs : Nat → Int32} {D : va_G} {H : Heap} {locs : List Loc} {ls : Array Slot} (C0 : lw_At p s m meth c0 b L xs) (hL : L ≤ 288) (hq : 6 * q + 6 ≤ L) (h : LI D s b q (nI (6 * q)) H locs ls) (J : ∀ (H : Heap) (locs : List Loc) (ls : Array Slot), LI D s b (q + 1) (nI (6 * q)) H locs ls → W p l e room_1 s m #[Value.ref b] below meth c0 H locs (8 + 2 * (q + 1)) (1173 + 8 * (q + 1)) (lw_Z below #[Value.ref b] s) (F0 m 858 ls [])) : W p l e room_1 s m #[Value.ref b] below meth c0 H locs (8 + 2 * q) (1173 + 8 * q) (lw_Z below #[Value.ref b] s) (F0 m 687 ls []) := by
  obtain ⟨hx, hb, hr, hml, hown, hts, hX, hbl, hlocks, hgv⟩ := id C0
  have hts := fun w h => hts w (wsL_law_in w h)
  have hown : s.vm.findClass RL = some m.cls := hown
  have hb : c0.code = cL_law := hb
  have hbA : ¬ (fun q : Nat => s.heap.size ≤ q) b := Nat.not_le.mpr hbl
  obtain ⟨cy, cy2, aD, aE, aK, aV, aW, aR, aM, aA, aB, k, v, c, lo, li, hi, hn, fl, k2, v2, c2, gl, gh, ml, mh, f2, mlo, mhi, hK, hS, hAD, hW, hRel, hRR, hcq, hcc, hff, hl⟩ := h
  obtain rfl := hcc.symm
  obtain rfl := hff.symm
  obtain ⟨n4, n3, r4, w4, mE4, rM, wM, g4, g3, gR, gW⟩ := id hAD
  have hK1 : va_K D vwCl [(cy, .int)] s := hK.sub [0] rfl
  have hK2 : va_K D vwCl [(cy2, .int)] s := hK.sub [1] rfl
  have q1 := vB_le k c lo li
  have q2 := vE_le k c lo li hi hn
  have q3 := vBE k c lo li hi hn
  have p1 := mF_le k2 c gl mlo ml gh mhi mh
  have p2 := mE_le k2 c gl mlo ml gh mhi mh
  have p3 := mFE k2 c gl mlo ml gh mhi mh
  have hv := vw hRR (fun j hj => (hRel.1 j hj).1) hRel.2
  refine lv_aload_n hx hb dL_law_687 rfl (lv_at hl 1 rfl) ?_
  refine lv_aload_n hx hb dL_law_688 rfl (lv_at hl 0 rfl) ?_
  refine lv_iload_n hx hb dL_law_689 rfl (lv_at hl 3 rfl) ?_
  refine lv_iconst (v := nI 1) hx hb dL_law_690 (by decide) ?_
  refine lv_iadd hx hb dL_law_691 ?_
  refine top_i (y := nI ((6 * q) + 1)) (nI_add _ _) ?_
  refine s_ld hx hb hX hbl hbA hS (by omega) (by omega) dL_law_692 ?_
  refine lv_aload_n hx hb dL_law_693 rfl (lv_at hl 0 rfl) ?_
  refine lv_iload_n hx hb dL_law_694 rfl (lv_at hl 3 rfl) ?_
  refine lv_iconst (v := nI 2) hx hb dL_law_695 (by decide) ?_
  refine lv_iadd hx hb dL_law_696 ?_
  refine top_i (y := nI ((6 * q) + 2)) (nI_add _ _) ?_
  refine s_ld hx hb hX hbl hbA hS (by omega) (by omega) dL_law_697 ?_
  refine go_R (va_runV (As := [.int (xs ((6 * q) + 1)), .int (xs ((6 * q) + 2))]) (rest := []) ⟨hx, hb, hml, hown, hts⟩ (c_X2_viewNear l D cy aD aE aK aV aW aR k v c (by omega) lo li hi hn fl (xs ((6 * q) + 1)) (xs ((6 * q) + 2))) (cwV 2 hts gL_law_X2_viewNear rfl rfl rfl (by decide +kernel) ⟨(Nat.le_of_ble_eq_true rfl), (Nat.le_of_ble_eq_true rfl)⟩) (preV_W hK1 (LW_5 hW) 0 2 rfl rfl) rfl rfl hl.1 rfl (lv_room (Nat.le_of_ble_eq_true rfl)) dL_law_698 ⟨by show 8 + 2 * q + 0 ≤ 600000; omega, by show 1173 + 8 * q + 0 ≤ 7302250; omega⟩) ?_
  refine lv_aload_n hx hb dL_law_701 rfl (lv_at hl 2 rfl) ?_
  refine lv_aload_n hx hb dL_law_702 rfl (lv_at hl 0 rfl) ?_
  refine lv_iload_n hx hb dL_law_703 rfl (lv_at hl 3 rfl) ?_
  refine lv_iconst (v := nI 1) hx hb dL_law_704 (by decide) ?_
  refine lv_iadd hx hb dL_law_705 ?_
  refine top_i (y := nI ((6 * q) + 1)) (nI_add _ _) ?_
  refine s_ld hx hb hX hbl hbA hS (by omega) (by omega) dL_law_706 ?_
  refine lv_aload_n hx hb dL_law_707 rfl (lv_at hl 0 rfl) ?_
  refine lv_iload_n hx hb dL_law_708 rfl (lv_at hl 3 rfl) ?_
  refine lv_iconst (v := nI 2) hx hb dL_law_709 (by decide) ?_
  refine lv_iadd hx hb dL_law_710 ?_
  refine top_i (y := nI ((6 * q) + 2)) (nI_add _ _) ?_
  refine s_ld hx hb hX hbl hbA hS (by omega) (by omega) dL_law_711 ?_
  refine go_R (va_runV (As := [.int (xs ((6 * q) + 1)), .int (xs ((6 * q) + 2))]) (rest := [.long (kN k c (if fl = true then mir (xs ((6 * q) + 1)) else (xs ((6 * q) + 1))) (xs ((6 * q) + 2)) (vB k c lo li) (vE k c lo li hi hn))]) ⟨hx, hb, hml, hown, hts⟩ (c_X3_viewNear l D cy2 aM aA aB k2 v2 c (by omega) gl gh ml mh fl mlo mhi (xs ((6 * q) + 1)) (xs ((6 * q) + 2))) (cwV 2 hts gL_law_X3_viewNear rfl rfl rfl (by decide +kernel) ⟨(Nat.le_of_ble_eq_true rfl), (Nat.le_of_ble_eq_true rfl)⟩) (preV_W hK2 hW.2.2.2 0 3 rfl rfl) rfl rfl hl.1 rfl (lv_room (Nat.le_of_ble_eq_true rfl)) dL_law_712 ⟨by show 8 + 2 * q + 0 ≤ 600000; omega, by show 1173 + 8 * q + 0 ≤ 7302250; omega⟩) ?_
  refine l_eq (tgt := 858) hx hb dL_law_715 dL_law_716 (by decide) (fun _ => ?_) (fun h9 => absurd (vnear_eq hRel fl (xs ((6 * q) + 1)) (xs ((6 * q) + 2)) q3 q2 hv) h9)
  refine W.widen (k := 8 + 2 * (q + 1)) (n := 1173 + 8 * (q + 1)) (by omega) (by omega) ?_
  exact J _ _ _ ⟨_, _, _, _, _, _, _, _, _, _, _, _, _, _, _, _, _, _, _, _, _, _, _, _, _, _, _, _, _, hK, hS, hAD, hW, hRel, hRR, by omega, rfl, rfl, hl⟩

set_option maxHeartbeats 4000000 in
set_option maxRecDepth 100000 in
/-- the law at viewPoll -/
theorem law_17 {p : Program} {l : Launch} {e : Env} {s : State} {m : MethodId} {below : List Frame} {meth : Method} {c0 : Code} {b L q : Nat} {xs : Nat → Int32} {D : va_G} {H : Heap} {locs : List Loc} {ls : Array Slot} (C0 : lw_At p s m meth c0 b L xs) (hL : L ≤ 288) (hq : 6 * q + 6 ≤ L) (h : LI D s b q (nI (6 * q)) H locs ls) (J : ∀ (H : Heap) (locs : List Loc) (ls : Array Slot), LI D s b (q + 1) (nI (6 * q)) H locs ls → W p l e room_1 s m #[Value.ref b] below meth c0 H locs (8 + 2 * (q + 1)) (1173 + 8 * (q + 1)) (lw_Z below #[Value.ref b] s) (F0 m 858 ls [])) : W p l e room_1 s m #[Value.ref b] below meth c0 H locs (8 + 2 * q) (1173 + 8 * q) (lw_Z below #[Value.ref b] s) (F0 m 721 ls []) := by
  obtain ⟨hx, hb, hr, hml, hown, hts, hX, hbl, hlocks, hgv⟩ := id C0
  have hts := fun w h => hts w (wsL_law_in w h)
  have hown : s.vm.findClass RL = some m.cls := hown
  have hb : c0.code = cL_law := hb
  have hbA : ¬ (fun q : Nat => s.heap.size ≤ q) b := Nat.not_le.mpr hbl
  obtain ⟨cy, cy2, aD, aE, aK, aV, aW, aR, aM, aA, aB, k, v, c, lo, li, hi, hn, fl, k2, v2, c2, gl, gh, ml, mh, f2, mlo, mhi, hK, hS, hAD, hW, hRel, hRR, hcq, hcc, hff, hl⟩ := h
  obtain rfl := hcc.symm
  obtain rfl := hff.symm
  obtain ⟨n4, n3, r4, w4, mE4, rM, wM, g4, g3, gR, gW⟩ := id hAD
  have hK1 : va_K D vwCl [(cy, .int)] s := hK.sub [0] rfl
  have hK2 : va_K D vwCl [(cy2, .int)] s := hK.sub [1] rfl
  have q1 := vB_le k c lo li
  have q2 := vE_le k c lo li hi hn
  have q3 := vBE k c lo li hi hn
  have p1 := mF_le k2 c gl mlo ml gh mhi mh
  have p2 := mE_le k2 c gl mlo ml gh mhi mh
  have p3 := mFE k2 c gl mlo ml gh mhi mh
  have hv := vw hRR (fun j hj => (hRel.1 j hj).1) hRel.2
  refine lv_aload_n hx hb dL_law_721 rfl (lv_at hl 1 rfl) ?_
  refine lv_aload_n hx hb dL_law_722 rfl (lv_at hl 0 rfl) ?_
  refine lv_iload_n hx hb dL_law_723 rfl (lv_at hl 3 rfl) ?_
  refine lv_iconst (v := nI 1) hx hb dL_law_724 (by decide) ?_
  refine lv_iadd hx hb dL_law_725 ?_
  refine top_i (y := nI ((6 * q) + 1)) (nI_add _ _) ?_
  refine s_ld hx hb hX hbl hbA hS (by omega) (by omega) dL_law_726 ?_
  refine lv_nz (tgt := 734) (J := 735) hx hb dL_law_727 (by decide) dL_law_730 dL_law_731 (by decide) dL_law_734 rfl ?_
  refine go_M (va_runV (As := [.int (bI (decide (¬ xs ((6 * q) + 1) = 0)))]) (rest := []) ⟨hx, hb, hml, hown, hts⟩ (c_X2_viewPoll l D cy aD aE aK aV aW aR k v c (by omega) lo li hi hn fl n4 r4 _ ((decide (¬ xs ((6 * q) + 1) = 0)))) (cwV 1 hts gL_law_X2_viewPoll rfl rfl rfl (by decide +kernel) ⟨(Nat.le_of_ble_eq_true rfl), (Nat.le_of_ble_eq_true rfl)⟩) (preV_Z hK1 (LW_5 hW) 0 2 rfl rfl) rfl rfl hl.1 rfl (lv_room (Nat.le_of_ble_eq_true rfl)) dL_law_735 ⟨by show 8 + 2 * q + 0 ≤ 600000; omega, by show 1173 + 8 * q + 0 ≤ 7302250; omega⟩) hS (fun z h => mA_ge (fun a ha => g4 a (List.mem_cons_of_mem _ ha)) hS.1 h) (fun H1 locs1 hB hzz hk hS => ?_)
  have hW := LW_E hAD hW hB hk
  clear hk hzz
  generalize H1 = H at hW hS ⊢
  generalize locs1 = locs at hS ⊢
  refine lv_aload_n hx hb dL_law_738 rfl (lv_at hl 2 rfl) ?_
  refine lv_aload_n hx hb dL_law_739 rfl (lv_at hl 0 rfl) ?_
  refine lv_iload_n hx hb dL_law_740 rfl (lv_at hl 3 rfl) ?_
  refine lv_iconst (v := nI 1) hx hb dL_law_741 (by decide) ?_
  refine lv_iadd hx hb dL_law_742 ?_
  refine top_i (y := nI ((6 * q) + 1)) (nI_add _ _) ?_
  refine s_ld hx hb hX hbl hbA hS (by omega) (by omega) dL_law_743 ?_
  refine lv_nz (tgt := 751) (J := 752) hx hb dL_law_744 (by decide) dL_law_747 dL_law_748 (by decide) dL_law_751 rfl ?_
  refine go_M (va_runV (As := [.int (bI (decide (¬ xs ((6 * q) + 1) = 0)))]) (rest := [.long (kW k (pj (((decide (¬ xs ((6 * q) + 1) = 0))) != fl) (vB k c lo li) (vE k c lo li hi hn)) (vB k c lo li) (vE k c lo li hi hn))]) ⟨hx, hb, hml, hown, hts⟩ (c_X3_viewPoll l D cy2 aM aA aB k2 v2 c (by omega) gl gh ml mh fl mlo mhi n3 _ ((decide (¬ xs ((6 * q) + 1) = 0)))) (cwV 1 hts gL_law_X3_viewPoll rfl rfl rfl (by decide +kernel) ⟨(Nat.le_of_ble_eq_true rfl), (Nat.le_of_ble_eq_true rfl)⟩) (preV_Z hK2 hW.2.2.2 0 3 rfl rfl) rfl rfl hl.1 rfl (lv_room (Nat.le_of_ble_eq_true rfl)) dL_law_752 ⟨by show 8 + 2 * q + 0 ≤ 600000; omega, by show 1173 + 8 * q + 0 ≤ 7302250; omega⟩) hS (fun z h => mA_ge g3 hS.1 h) (fun H1 locs1 hB hzz hk hS => ?_)
  have hW := LW_M hAD hW hB hk
  clear hk hzz
  generalize H1 = H at hW hS ⊢
  generalize locs1 = locs at hS ⊢
  refine l_eq (tgt := 858) hx hb dL_law_755 dL_law_756 (by decide) (fun _ => ?_) (fun h9 => absurd (poll_A hRel (((decide (¬ xs ((6 * q) + 1) = 0))) != fl) q3 q2 hv) h9)
  refine W.widen (k := 8 + 2 * (q + 1)) (n := 1173 + 8 * (q + 1)) (by omega) (by omega) ?_
  exact J _ _ _ ⟨_, _, _, _, _, _, _, _, _, _, _, _, _, _, _, _, _, _, _, _, _, _, _, _, _, _, _, _, _, hK, hS, hAD, hW, (poll_Rel hRel (((decide (¬ xs ((6 * q) + 1) = 0))) != fl) q3 q2 hv).2, hRR, Nat.le_trans (pl_le q2) (by omega), (poll_Rel hRel (((decide (¬ xs ((6 * q) + 1) = 0))) != fl) q3 q2 hv).1, rfl, hl⟩

set_option maxHeartbeats 4000000 in
set_option maxRecDepth 100000 in
/-- the law at viewKey -/
theorem law_18 {p : Program} {l : Launch} {e : Env} {s : State} {m : MethodId} {below : List Frame} {meth : Method} {c0 : Code} {b L q : Nat} {xs : Nat → Int32} {D : va_G} {H : Heap} {locs : List Loc} {ls : Array Slot} (C0 : lw_At p s m meth c0 b L xs) (hL : L ≤ 288) (hq : 6 * q + 6 ≤ L) (h : LI D s b q (nI (6 * q)) H locs ls) (J : ∀ (H : Heap) (locs : List Loc) (ls : Array Slot), LI D s b (q + 1) (nI (6 * q)) H locs ls → W p l e room_1 s m #[Value.ref b] below meth c0 H locs (8 + 2 * (q + 1)) (1173 + 8 * (q + 1)) (lw_Z below #[Value.ref b] s) (F0 m 858 ls [])) : W p l e room_1 s m #[Value.ref b] below meth c0 H locs (8 + 2 * q) (1173 + 8 * q) (lw_Z below #[Value.ref b] s) (F0 m 761 ls []) := by
  obtain ⟨hx, hb, hr, hml, hown, hts, hX, hbl, hlocks, hgv⟩ := id C0
  have hts := fun w h => hts w (wsL_law_in w h)
  have hown : s.vm.findClass RL = some m.cls := hown
  have hb : c0.code = cL_law := hb
  have hbA : ¬ (fun q : Nat => s.heap.size ≤ q) b := Nat.not_le.mpr hbl
  obtain ⟨cy, cy2, aD, aE, aK, aV, aW, aR, aM, aA, aB, k, v, c, lo, li, hi, hn, fl, k2, v2, c2, gl, gh, ml, mh, f2, mlo, mhi, hK, hS, hAD, hW, hRel, hRR, hcq, hcc, hff, hl⟩ := h
  obtain rfl := hcc.symm
  obtain rfl := hff.symm
  obtain ⟨n4, n3, r4, w4, mE4, rM, wM, g4, g3, gR, gW⟩ := id hAD
  have hK1 : va_K D vwCl [(cy, .int)] s := hK.sub [0] rfl
  have hK2 : va_K D vwCl [(cy2, .int)] s := hK.sub [1] rfl
  have q1 := vB_le k c lo li
  have q2 := vE_le k c lo li hi hn
  have q3 := vBE k c lo li hi hn
  have p1 := mF_le k2 c gl mlo ml gh mhi mh
  have p2 := mE_le k2 c gl mlo ml gh mhi mh
  have p3 := mFE k2 c gl mlo ml gh mhi mh
  have hv := vw hRR (fun j hj => (hRel.1 j hj).1) hRel.2
  refine lv_aload_n hx hb dL_law_761 rfl (lv_at hl 1 rfl) ?_
  refine lv_aload_n hx hb dL_law_762 rfl (lv_at hl 0 rfl) ?_
  refine lv_iload_n hx hb dL_law_763 rfl (lv_at hl 3 rfl) ?_
  refine lv_iconst (v := nI 1) hx hb dL_law_764 (by decide) ?_
  refine lv_iadd hx hb dL_law_765 ?_
  refine top_i (y := nI ((6 * q) + 1)) (nI_add _ _) ?_
  refine s_ld hx hb hX hbl hbA hS (by omega) (by omega) dL_law_766 ?_
  refine go_R (va_runV (As := [.int (xs ((6 * q) + 1))]) (rest := []) ⟨hx, hb, hml, hown, hts⟩ (c_X2_viewKey l D cy aD aE aK aV aW aR k v c (by omega) lo li hi hn fl (xs ((6 * q) + 1))) (cwV 1 hts gL_law_X2_viewKey rfl rfl rfl (by decide +kernel) ⟨(Nat.le_of_ble_eq_true rfl), (Nat.le_of_ble_eq_true rfl)⟩) (preV_W hK1 (LW_5 hW) 0 2 rfl rfl) rfl rfl hl.1 rfl (lv_room (Nat.le_of_ble_eq_true rfl)) dL_law_767 ⟨by show 8 + 2 * q + 0 ≤ 600000; omega, by show 1173 + 8 * q + 0 ≤ 7302250; omega⟩) ?_
  refine lv_aload_n hx hb dL_law_770 rfl (lv_at hl 2 rfl) ?_
  refine lv_aload_n hx hb dL_law_771 rfl (lv_at hl 0 rfl) ?_
  refine lv_iload_n hx hb dL_law_772 rfl (lv_at hl 3 rfl) ?_
  refine lv_iconst (v := nI 1) hx hb dL_law_773 (by decide) ?_
  refine lv_iadd hx hb dL_law_774 ?_
  refine top_i (y := nI ((6 * q) + 1)) (nI_add _ _) ?_
  refine s_ld hx hb hX hbl hbA hS (by omega) (by omega) dL_law_775 ?_
  refine go_R (va_runV (As := [.int (xs ((6 * q) + 1))]) (rest := [.long (vKy k (vB k c lo li) (vE k c lo li hi hn) fl ((xs ((6 * q) + 1))).toInt)]) ⟨hx, hb, hml, hown, hts⟩ (c_X3_viewKey l D cy2 aM aA aB k2 v2 c (by omega) gl gh ml mh fl mlo mhi (xs ((6 * q) + 1))) (cwV 1 hts gL_law_X3_viewKey rfl rfl rfl (by decide +kernel) ⟨(Nat.le_of_ble_eq_true rfl), (Nat.le_of_ble_eq_true rfl)⟩) (preV_W hK2 hW.2.2.2 0 3 rfl rfl) rfl rfl hl.1 rfl (lv_room (Nat.le_of_ble_eq_true rfl)) dL_law_776 ⟨by show 8 + 2 * q + 0 ≤ 600000; omega, by show 1173 + 8 * q + 0 ≤ 7302250; omega⟩) ?_
  refine l_eq (tgt := 858) hx hb dL_law_779 dL_law_780 (by decide) (fun _ => ?_) (fun h9 => absurd (vKy_eq hRel fl _ q3 q2 hv) h9)
  refine W.widen (k := 8 + 2 * (q + 1)) (n := 1173 + 8 * (q + 1)) (by omega) (by omega) ?_
  exact J _ _ _ ⟨_, _, _, _, _, _, _, _, _, _, _, _, _, _, _, _, _, _, _, _, _, _, _, _, _, _, _, _, _, hK, hS, hAD, hW, hRel, hRR, by omega, rfl, rfl, hl⟩

set_option maxHeartbeats 4000000 in
set_option maxRecDepth 100000 in
/-- the law at walk -/
theorem law_19 {p : Program} {l : Launch} {e : Env} {s : State} {m : MethodId} {below : List Frame} {meth : Method} {c0 : Code} {b L q : Nat} {xs : Nat → Int32} {D : va_G} {H : Heap} {locs : List Loc} {ls : Array Slot} (C0 : lw_At p s m meth c0 b L xs) (hL : L ≤ 288) (hq : 6 * q + 6 ≤ L) (h : LI D s b q (nI (6 * q)) H locs ls) (J : ∀ (H : Heap) (locs : List Loc) (ls : Array Slot), LI D s b (q + 1) (nI (6 * q)) H locs ls → W p l e room_1 s m #[Value.ref b] below meth c0 H locs (8 + 2 * (q + 1)) (1173 + 8 * (q + 1)) (lw_Z below #[Value.ref b] s) (F0 m 858 ls [])) : W p l e room_1 s m #[Value.ref b] below meth c0 H locs (8 + 2 * q) (1173 + 8 * q) (lw_Z below #[Value.ref b] s) (F0 m 785 ls []) := by
  obtain ⟨hx, hb, hr, hml, hown, hts, hX, hbl, hlocks, hgv⟩ := id C0
  have hts := fun w h => hts w (wsL_law_in w h)
  have hown : s.vm.findClass RL = some m.cls := hown
  have hb : c0.code = cL_law := hb
  have hbA : ¬ (fun q : Nat => s.heap.size ≤ q) b := Nat.not_le.mpr hbl
  obtain ⟨cy, cy2, aD, aE, aK, aV, aW, aR, aM, aA, aB, k, v, c, lo, li, hi, hn, fl, k2, v2, c2, gl, gh, ml, mh, f2, mlo, mhi, hK, hS, hAD, hW, hRel, hRR, hcq, hcc, hff, hl⟩ := h
  obtain rfl := hcc.symm
  obtain rfl := hff.symm
  obtain ⟨n4, n3, r4, w4, mE4, rM, wM, g4, g3, gR, gW⟩ := id hAD
  have hK1 : va_K D vwCl [(cy, .int)] s := hK.sub [0] rfl
  have hK2 : va_K D vwCl [(cy2, .int)] s := hK.sub [1] rfl
  have q1 := vB_le k c lo li
  have q2 := vE_le k c lo li hi hn
  have q3 := vBE k c lo li hi hn
  have p1 := mF_le k2 c gl mlo ml gh mhi mh
  have p2 := mE_le k2 c gl mlo ml gh mhi mh
  have p3 := mFE k2 c gl mlo ml gh mhi mh
  have hv := vw hRR (fun j hj => (hRel.1 j hj).1) hRel.2
  refine lv_aload_n hx hb dL_law_785 rfl (lv_at hl 1 rfl) ?_
  refine go_R (va_runV (As := []) (rest := []) ⟨hx, hb, hml, hown, hts⟩ (c_X2_walk l D cy aD aE aK aV aW aR k v c (by omega) lo li hi hn fl ) (cwV 0 hts gL_law_X2_walk rfl rfl rfl (by decide +kernel) ⟨(Nat.le_of_ble_eq_true rfl), (Nat.le_of_ble_eq_true rfl)⟩) (preV_W hK1 (LW_5 hW) 0 2 rfl rfl) rfl rfl hl.1 rfl (lv_room (Nat.le_of_ble_eq_true rfl)) dL_law_786 ⟨by show 8 + 2 * q + 0 ≤ 600000; omega, by show 1173 + 8 * q + 0 ≤ 7302250; omega⟩) ?_
  refine lv_aload_n hx hb dL_law_789 rfl (lv_at hl 2 rfl) ?_
  refine go_R (va_runV (As := []) (rest := [.long (wsm k (wpl (vB k c lo li) (vE k c lo li hi hn) fl) ((vE k c lo li hi hn) - (vB k c lo li)) (vB k c lo li) 0)]) ⟨hx, hb, hml, hown, hts⟩ (c_X3_walk l D cy2 aM aA aB k2 v2 c (by omega) gl gh ml mh fl mlo mhi ) (cwV 0 hts gL_law_X3_walk rfl rfl rfl (by decide +kernel) ⟨(Nat.le_of_ble_eq_true rfl), (Nat.le_of_ble_eq_true rfl)⟩) (preV_W hK2 hW.2.2.2 0 3 rfl rfl) rfl rfl hl.1 rfl (lv_room (Nat.le_of_ble_eq_true rfl)) dL_law_790 ⟨by show 8 + 2 * q + 0 ≤ 600000; omega, by show 1173 + 8 * q + 0 ≤ 7302250; omega⟩) ?_
  refine l_eq (tgt := 858) hx hb dL_law_793 dL_law_794 (by decide) (fun _ => ?_) (fun h9 => absurd (walk_eq hRel fl q3 q2 hv) h9)
  refine W.widen (k := 8 + 2 * (q + 1)) (n := 1173 + 8 * (q + 1)) (by omega) (by omega) ?_
  exact J _ _ _ ⟨_, _, _, _, _, _, _, _, _, _, _, _, _, _, _, _, _, _, _, _, _, _, _, _, _, _, _, _, _, hK, hS, hAD, hW, hRel, hRR, by omega, rfl, rfl, hl⟩

set_option maxHeartbeats 4000000 in
set_option maxRecDepth 100000 in
/-- the law at sweep -/
theorem law_20 {p : Program} {l : Launch} {e : Env} {s : State} {m : MethodId} {below : List Frame} {meth : Method} {c0 : Code} {b L q : Nat} {xs : Nat → Int32} {D : va_G} {H : Heap} {locs : List Loc} {ls : Array Slot} (C0 : lw_At p s m meth c0 b L xs) (hL : L ≤ 288) (hq : 6 * q + 6 ≤ L) (h : LI D s b q (nI (6 * q)) H locs ls) (J : ∀ (H : Heap) (locs : List Loc) (ls : Array Slot), LI D s b (q + 1) (nI (6 * q)) H locs ls → W p l e room_1 s m #[Value.ref b] below meth c0 H locs (8 + 2 * (q + 1)) (1173 + 8 * (q + 1)) (lw_Z below #[Value.ref b] s) (F0 m 858 ls [])) : W p l e room_1 s m #[Value.ref b] below meth c0 H locs (8 + 2 * q) (1173 + 8 * q) (lw_Z below #[Value.ref b] s) (F0 m 799 ls []) := by
  obtain ⟨hx, hb, hr, hml, hown, hts, hX, hbl, hlocks, hgv⟩ := id C0
  have hts := fun w h => hts w (wsL_law_in w h)
  have hown : s.vm.findClass RL = some m.cls := hown
  have hb : c0.code = cL_law := hb
  have hbA : ¬ (fun q : Nat => s.heap.size ≤ q) b := Nat.not_le.mpr hbl
  obtain ⟨cy, cy2, aD, aE, aK, aV, aW, aR, aM, aA, aB, k, v, c, lo, li, hi, hn, fl, k2, v2, c2, gl, gh, ml, mh, f2, mlo, mhi, hK, hS, hAD, hW, hRel, hRR, hcq, hcc, hff, hl⟩ := h
  obtain rfl := hcc.symm
  obtain rfl := hff.symm
  obtain ⟨n4, n3, r4, w4, mE4, rM, wM, g4, g3, gR, gW⟩ := id hAD
  have hK1 : va_K D vwCl [(cy, .int)] s := hK.sub [0] rfl
  have hK2 : va_K D vwCl [(cy2, .int)] s := hK.sub [1] rfl
  have q1 := vB_le k c lo li
  have q2 := vE_le k c lo li hi hn
  have q3 := vBE k c lo li hi hn
  have p1 := mF_le k2 c gl mlo ml gh mhi mh
  have p2 := mE_le k2 c gl mlo ml gh mhi mh
  have p3 := mFE k2 c gl mlo ml gh mhi mh
  have hv := vw hRR (fun j hj => (hRel.1 j hj).1) hRel.2
  refine lv_aload_n hx hb dL_law_799 rfl (lv_at hl 1 rfl) ?_
  refine lv_aload_n hx hb dL_law_800 rfl (lv_at hl 0 rfl) ?_
  refine lv_iload_n hx hb dL_law_801 rfl (lv_at hl 3 rfl) ?_
  refine lv_iconst (v := nI 1) hx hb dL_law_802 (by decide) ?_
  refine lv_iadd hx hb dL_law_803 ?_
  refine top_i (y := nI ((6 * q) + 1)) (nI_add _ _) ?_
  refine s_ld hx hb hX hbl hbA hS (by omega) (by omega) dL_law_804 ?_
  refine lv_aload_n hx hb dL_law_805 rfl (lv_at hl 0 rfl) ?_
  refine lv_iload_n hx hb dL_law_806 rfl (lv_at hl 3 rfl) ?_
  refine lv_iconst (v := nI 2) hx hb dL_law_807 (by decide) ?_
  refine lv_iadd hx hb dL_law_808 ?_
  refine top_i (y := nI ((6 * q) + 2)) (nI_add _ _) ?_
  refine s_ld hx hb hX hbl hbA hS (by omega) (by omega) dL_law_809 ?_
  refine go_M (va_runV (As := [.int (xs ((6 * q) + 1)), .int (xs ((6 * q) + 2))]) (rest := []) ⟨hx, hb, hml, hown, hts⟩ (c_X2_sweep l D cy aD aE aK aV aW aR k v c (by omega) lo li hi hn fl n4 r4 _ (xs ((6 * q) + 1)) (xs ((6 * q) + 2))) (cwV 2 hts gL_law_X2_sweep rfl rfl rfl (by decide +kernel) ⟨(Nat.le_of_ble_eq_true rfl), (Nat.le_of_ble_eq_true rfl)⟩) (preV_Z hK1 (LW_5 hW) 0 2 rfl rfl) rfl rfl hl.1 rfl (lv_room (Nat.le_of_ble_eq_true rfl)) dL_law_810 ⟨by show 8 + 2 * q + 0 ≤ 600000; omega, by show 1173 + 8 * q + 0 ≤ 7302250; omega⟩) hS (fun z h => mA_ge (fun a ha => g4 a (List.mem_cons_of_mem _ ha)) hS.1 h) (fun H1 locs1 hB hzz hk hS => ?_)
  have hW := LW_E hAD hW hB hk
  clear hk hzz
  generalize H1 = H at hW hS ⊢
  generalize locs1 = locs at hS ⊢
  refine lv_aload_n hx hb dL_law_813 rfl (lv_at hl 2 rfl) ?_
  refine lv_aload_n hx hb dL_law_814 rfl (lv_at hl 0 rfl) ?_
  refine lv_iload_n hx hb dL_law_815 rfl (lv_at hl 3 rfl) ?_
  refine lv_iconst (v := nI 1) hx hb dL_law_816 (by decide) ?_
  refine lv_iadd hx hb dL_law_817 ?_
  refine top_i (y := nI ((6 * q) + 1)) (nI_add _ _) ?_
  refine s_ld hx hb hX hbl hbA hS (by omega) (by omega) dL_law_818 ?_
  refine lv_aload_n hx hb dL_law_819 rfl (lv_at hl 0 rfl) ?_
  refine lv_iload_n hx hb dL_law_820 rfl (lv_at hl 3 rfl) ?_
  refine lv_iconst (v := nI 2) hx hb dL_law_821 (by decide) ?_
  refine lv_iadd hx hb dL_law_822 ?_
  refine top_i (y := nI ((6 * q) + 2)) (nI_add _ _) ?_
  refine s_ld hx hb hX hbl hbA hS (by omega) (by omega) dL_law_823 ?_
  refine go_M (va_runV (As := [.int (xs ((6 * q) + 1)), .int (xs ((6 * q) + 2))]) (rest := [.int (if (xs ((6 * q) + 1)) < 1 then (-1) else nI (c - (dlK (xs ((6 * q) + 1)) (xs ((6 * q) + 2)) (vB k c lo li) (vE k c lo li hi hn) c k v).1))]) ⟨hx, hb, hml, hown, hts⟩ (c_X3_sweep l D cy2 aM aA aB k2 v2 c (by omega) gl gh ml mh fl mlo mhi n3 _ (xs ((6 * q) + 1)) (xs ((6 * q) + 2))) (cwV 2 hts gL_law_X3_sweep rfl rfl rfl (by decide +kernel) ⟨(Nat.le_of_ble_eq_true rfl), (Nat.le_of_ble_eq_true rfl)⟩) (preV_Z hK2 hW.2.2.2 0 3 rfl rfl) rfl rfl hl.1 rfl (lv_room (Nat.le_of_ble_eq_true rfl)) dL_law_824 ⟨by show 8 + 2 * q + 0 ≤ 600000; omega, by show 1173 + 8 * q + 0 ≤ 7302250; omega⟩) hS (fun z h => mA_ge g3 hS.1 h) (fun H1 locs1 hB hzz hk hS => ?_)
  have hW := LW_M hAD hW hB hk
  clear hk hzz
  generalize H1 = H at hW hS ⊢
  generalize locs1 = locs at hS ⊢
  refine lv_icmp_eq (tgt := 858) hx hb dL_law_827 (by decide) (fun _ => ?_) (fun h9 => absurd ((sw_Rel hRel (xs ((6 * q) + 1)) (xs ((6 * q) + 2)) q3 q2 hv).2.2) h9)
  refine W.widen (k := 8 + 2 * (q + 1)) (n := 1173 + 8 * (q + 1)) (by omega) (by omega) ?_
  exact J _ _ _ ⟨_, _, _, _, _, _, _, _, _, _, _, _, _, _, _, _, _, _, _, _, _, _, _, _, _, _, _, _, _, hK, hS, hAD, hW, (sw_Rel hRel (xs ((6 * q) + 1)) (xs ((6 * q) + 2)) q3 q2 hv).1.2, hRR, Nat.le_trans (sw_Rel hRel (xs ((6 * q) + 1)) (xs ((6 * q) + 2)) q3 q2 hv).2.1 (by omega), (sw_Rel hRel (xs ((6 * q) + 1)) (xs ((6 * q) + 2)) q3 q2 hv).1.1, rfl, hl⟩

set_option maxHeartbeats 4000000 in
set_option maxRecDepth 100000 in
/-- the law at viewClear -/
theorem law_21 {p : Program} {l : Launch} {e : Env} {s : State} {m : MethodId} {below : List Frame} {meth : Method} {c0 : Code} {b L q : Nat} {xs : Nat → Int32} {D : va_G} {H : Heap} {locs : List Loc} {ls : Array Slot} (C0 : lw_At p s m meth c0 b L xs) (hL : L ≤ 288) (hq : 6 * q + 6 ≤ L) (h : LI D s b q (nI (6 * q)) H locs ls) (J : ∀ (H : Heap) (locs : List Loc) (ls : Array Slot), LI D s b (q + 1) (nI (6 * q)) H locs ls → W p l e room_1 s m #[Value.ref b] below meth c0 H locs (8 + 2 * (q + 1)) (1173 + 8 * (q + 1)) (lw_Z below #[Value.ref b] s) (F0 m 858 ls [])) : W p l e room_1 s m #[Value.ref b] below meth c0 H locs (8 + 2 * q) (1173 + 8 * q) (lw_Z below #[Value.ref b] s) (F0 m 832 ls []) := by
  obtain ⟨hx, hb, hr, hml, hown, hts, hX, hbl, hlocks, hgv⟩ := id C0
  have hts := fun w h => hts w (wsL_law_in w h)
  have hown : s.vm.findClass RL = some m.cls := hown
  have hb : c0.code = cL_law := hb
  have hbA : ¬ (fun q : Nat => s.heap.size ≤ q) b := Nat.not_le.mpr hbl
  obtain ⟨cy, cy2, aD, aE, aK, aV, aW, aR, aM, aA, aB, k, v, c, lo, li, hi, hn, fl, k2, v2, c2, gl, gh, ml, mh, f2, mlo, mhi, hK, hS, hAD, hW, hRel, hRR, hcq, hcc, hff, hl⟩ := h
  obtain rfl := hcc.symm
  obtain rfl := hff.symm
  obtain ⟨n4, n3, r4, w4, mE4, rM, wM, g4, g3, gR, gW⟩ := id hAD
  have hK1 : va_K D vwCl [(cy, .int)] s := hK.sub [0] rfl
  have hK2 : va_K D vwCl [(cy2, .int)] s := hK.sub [1] rfl
  have q1 := vB_le k c lo li
  have q2 := vE_le k c lo li hi hn
  have q3 := vBE k c lo li hi hn
  have p1 := mF_le k2 c gl mlo ml gh mhi mh
  have p2 := mE_le k2 c gl mlo ml gh mhi mh
  have p3 := mFE k2 c gl mlo ml gh mhi mh
  have hv := vw hRR (fun j hj => (hRel.1 j hj).1) hRel.2
  refine lv_aload_n hx hb dL_law_832 rfl (lv_at hl 1 rfl) ?_
  refine go_M (va_runV (As := []) (rest := []) ⟨hx, hb, hml, hown, hts⟩ (c_X2_viewClear l D cy aD aE aK aV aW aR k v c (by omega) lo li hi hn fl n4 r4 _) (cwV 0 hts gL_law_X2_viewClear rfl rfl rfl (by decide +kernel) ⟨(Nat.le_of_ble_eq_true rfl), (Nat.le_of_ble_eq_true rfl)⟩) (preV_Z hK1 (LW_5 hW) 0 2 rfl rfl) rfl rfl hl.1 rfl (lv_room (Nat.le_of_ble_eq_true rfl)) dL_law_833 ⟨by show 8 + 2 * q + 0 ≤ 600000; omega, by show 1173 + 8 * q + 0 ≤ 7302250; omega⟩) hS (fun z h => mA_ge (fun a ha => g4 a (List.mem_cons_of_mem _ ha)) hS.1 h) (fun H1 locs1 hB hzz hk hS => ?_)
  have hW := LW_E hAD hW hB hk
  clear hk hzz
  generalize H1 = H at hW hS ⊢
  generalize locs1 = locs at hS ⊢
  refine lv_aload_n hx hb dL_law_836 rfl (lv_at hl 2 rfl) ?_
  refine go_M (va_runV (As := []) (rest := [.int (nI (c - (dlK 1 0 (vB k c lo li) (vE k c lo li hi hn) c k v).1))]) ⟨hx, hb, hml, hown, hts⟩ (c_X3_viewClear l D cy2 aM aA aB k2 v2 c (by omega) gl gh ml mh fl mlo mhi n3 _) (cwV 0 hts gL_law_X3_viewClear rfl rfl rfl (by decide +kernel) ⟨(Nat.le_of_ble_eq_true rfl), (Nat.le_of_ble_eq_true rfl)⟩) (preV_Z hK2 hW.2.2.2 0 3 rfl rfl) rfl rfl hl.1 rfl (lv_room (Nat.le_of_ble_eq_true rfl)) dL_law_837 ⟨by show 8 + 2 * q + 0 ≤ 600000; omega, by show 1173 + 8 * q + 0 ≤ 7302250; omega⟩) hS (fun z h => mA_ge g3 hS.1 h) (fun H1 locs1 hB hzz hk hS => ?_)
  have hW := LW_M hAD hW hB hk
  clear hk hzz
  generalize H1 = H at hW hS ⊢
  generalize locs1 = locs at hS ⊢
  refine lv_icmp_eq (tgt := 858) hx hb dL_law_840 (by decide) (fun _ => ?_) (fun h9 => absurd (vcl_A q3 q2 hv) h9)
  refine W.widen (k := 8 + 2 * (q + 1)) (n := 1173 + 8 * (q + 1)) (by omega) (by omega) ?_
  exact J _ _ _ ⟨_, _, _, _, _, _, _, _, _, _, _, _, _, _, _, _, _, _, _, _, _, _, _, _, _, _, _, _, _, hK, hS, hAD, hW, (clear_Rel hRel q3 q2 p3 p2 hv).2, hRR, Nat.le_trans (dl_le q1) (by omega), (clear_Rel hRel q3 q2 p3 p2 hv).1, rfl, hl⟩

set_option maxHeartbeats 4000000 in
set_option maxRecDepth 100000 in
/-- the law at again -/
theorem law_22 {p : Program} {l : Launch} {e : Env} {s : State} {m : MethodId} {below : List Frame} {meth : Method} {c0 : Code} {b L q : Nat} {xs : Nat → Int32} {D : va_G} {H : Heap} {locs : List Loc} {ls : Array Slot} (C0 : lw_At p s m meth c0 b L xs) (hL : L ≤ 288) (hq : 6 * q + 6 ≤ L) (h : LI D s b q (nI (6 * q)) H locs ls) (J : ∀ (H : Heap) (locs : List Loc) (ls : Array Slot), LI D s b (q + 1) (nI (6 * q)) H locs ls → W p l e room_1 s m #[Value.ref b] below meth c0 H locs (8 + 2 * (q + 1)) (1173 + 8 * (q + 1)) (lw_Z below #[Value.ref b] s) (F0 m 858 ls [])) : W p l e room_1 s m #[Value.ref b] below meth c0 H locs (8 + 2 * q) (1173 + 8 * q) (lw_Z below #[Value.ref b] s) (F0 m 845 ls []) := by
  obtain ⟨hx, hb, hr, hml, hown, hts, hX, hbl, hlocks, hgv⟩ := id C0
  have hts := fun w h => hts w (wsL_law_in w h)
  have hown : s.vm.findClass RL = some m.cls := hown
  have hb : c0.code = cL_law := hb
  have hbA : ¬ (fun q : Nat => s.heap.size ≤ q) b := Nat.not_le.mpr hbl
  obtain ⟨cy, cy2, aD, aE, aK, aV, aW, aR, aM, aA, aB, k, v, c, lo, li, hi, hn, fl, k2, v2, c2, gl, gh, ml, mh, f2, mlo, mhi, hK, hS, hAD, hW, hRel, hRR, hcq, hcc, hff, hl⟩ := h
  obtain rfl := hcc.symm
  obtain rfl := hff.symm
  obtain ⟨n4, n3, r4, w4, mE4, rM, wM, g4, g3, gR, gW⟩ := id hAD
  have hK1 : va_K D vwCl [(cy, .int)] s := hK.sub [0] rfl
  have hK2 : va_K D vwCl [(cy2, .int)] s := hK.sub [1] rfl
  have h100 : ¬ 100 < c := by omega
  refine lv_aload_n hx hb dL_law_845 rfl (lv_at hl 1 rfl) ?_
  refine go_M (va_runV (As := []) (rest := []) ⟨hx, hb, hml, hown, hts⟩ (c_X2_again l D cy aD aE aK aV aW aR k v c (by omega) fl n4 _ ) (cwV 0 hts gL_law_X2_again rfl rfl rfl (by decide +kernel) ⟨(Nat.le_of_ble_eq_true rfl), (Nat.le_of_ble_eq_true rfl)⟩) (preV_Z hK1 hW.1 0 2 rfl rfl) rfl rfl hl.1 rfl (lv_room (Nat.le_of_ble_eq_true rfl)) dL_law_846 ⟨by show 8 + 2 * q + 0 ≤ 600000; omega, by show 1173 + 8 * q + 0 ≤ 7302250; omega⟩) hS (fun z h => mA_ge (fun a ha => g4 a (by rw [List.mem_singleton.mp ha]; exact List.mem_cons_self)) hS.1 h) (fun H1 locs1 hB hzz hk hS => ?_)
  have hW := LW_A hAD hW hB hk
  have hAD := AD_A hAD
  clear hk hzz
  generalize H1 = H at hW hS ⊢
  generalize locs1 = locs at hS ⊢
  refine lv_aload_n hx hb dL_law_849 rfl (lv_at hl 2 rfl) ?_
  refine go_M (va_runV (As := []) (rest := [.int (nI c)]) ⟨hx, hb, hml, hown, hts⟩ (c_X3_again l D cy2 aM aA aB k2 v2 c (by omega) gl gh ml mh fl mlo mhi n3 _) (cwV 0 hts gL_law_X3_again rfl rfl rfl (by decide +kernel) ⟨(Nat.le_of_ble_eq_true rfl), (Nat.le_of_ble_eq_true rfl)⟩) (preV_Z hK2 hW.2.2.2 0 3 rfl rfl) rfl rfl hl.1 rfl (lv_room (Nat.le_of_ble_eq_true rfl)) dL_law_850 ⟨by show 8 + 2 * q + 0 ≤ 600000; omega, by show 1173 + 8 * q + 0 ≤ 7302250; omega⟩) hS (fun z h => mA_ge g3 hS.1 h) (fun H1 locs1 hB hzz hk hS => ?_)
  have hW := LW_M hAD hW hB hk
  clear hk hzz
  generalize H1 = H at hW hS ⊢
  generalize locs1 = locs at hS ⊢
  refine lv_icmp_eq (tgt := 858) hx hb dL_law_853 (by decide) (fun _ => ?_) (fun h9 => absurd ((if_neg h100).symm) h9)
  refine W.widen (k := 8 + 2 * (q + 1)) (n := 1173 + 8 * (q + 1)) (by omega) (by omega) ?_
  exact J _ _ _ ⟨_, _, _, _, _, _, _, _, _, _, _, _, _, _, _, _, _, _, _, _, _, _, _, _, _, _, _, _, _, hK, hS, hAD, hW, hRel, by rw [if_neg h100, if_neg h100]; exact RR_all _ _ _ _, by omega, rfl, if_neg h100, hl⟩
