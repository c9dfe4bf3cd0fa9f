/-! removing, sweeping, clearing, polling: class and model leave the same -/
theorem del_Rel {k v k2 v2 : Nat → Int32} {c p : Nat} (h : Rel k v k2 v2 c) (hp : p < c) : RelT (dlK 1 0 p (p + 1) c k v) (c - 1, delA k2 p c, delA v2 p c) := by
  refine Rel_of h (dlK_sub 1 0 k v (by omega)) ?_
  show _ = ent (delA k2 p c) (delA v2 p c) (c - 1)
  rw [dl1_ent k v (by omega) (by omega), del_ent hp]
  congr 1
  · rw [ent_seg, ent_seg]
    exact (seg_c (fun j _ hj => h.1 j (by omega))).symm
  · exact (seg_c (fun j _ hj => h.1 j (by omega))).symm
theorem rem_Rel {k v k2 v2 : Nat → Int32} {c : Nat} (h : Rel k v k2 v2 c) (x : Int32) : RelT (drp k v c x) (mdT k2 v2 c x) := by
  have hk : ∀ j, j < c → k2 j = k j := fun j hj => (h.1 j hj).1
  unfold drp mdT
  rw [plc_c hk, atK_c hk]
  by_cases q : atK k c (plc k c x.toInt64) x = true
  · rw [if_pos q, if_pos q]
    exact del_Rel h (atK_lt q)
  · rw [if_neg q, if_neg q]
    exact ⟨rfl, h⟩
/-- the model's sweep, from behind -/
theorem swp_ent (G : Int32 → Bool) (f : Nat) : ∀ (n m c : Nat) (k v : Nat → Int32), f + n ≤ c → ent (swp G f n m c k v).2.2.1 (swp G f n m c k v).2.2.2 (swp G f n m c k v).2.1 = ent k v f ++ (stay G (f + n) k v f n ++ seg k v (f + n) (c - (f + n))) ∧ (swp G f n m c k v).1 + (swp G f n m c k v).2.1 = m + c := by
  intro n
  induction n with
  | zero =>
    intro m c k v h
    refine ⟨?_, rfl⟩
    show ent k v c = ent k v f ++ ([] ++ seg k v f (c - f))
    exact ent_split k v (by omega)
  | succ n ih =>
    intro m c k v h
    rw [swp]
    have hst : stay G (f + (n + 1)) k v f (n + 1) = stay G (f + n) k v f n ++ (if G (k (f + n)) = true then [] else [(k (f + n), v (f + n))]) := by
      rw [stay_app, show stay G (f + (n + 1)) k v (f + n) 1 = (if (decide (f + n < f + (n + 1)) && G (k (f + n))) = true then [] else [(k (f + n), v (f + n))]) ++ stay G (f + (n + 1)) k v (f + n + 1) 0 from stay_1 _ _ _ _ _ _, decide_eq_true (show f + n < f + (n + 1) by omega), Bool.true_and]
      show _ ++ (_ ++ []) = _
      rw [List.append_nil]
      congr 1
      unfold stay
      have h1 : (List.range' f n).filter (fun j => !(decide (j < f + (n + 1)) && G (k j))) = (List.range' f n).filter (fun j => !(decide (j < f + n) && G (k j))) := by
        refine List.filter_congr (fun j hj => ?_)
        obtain ⟨g1, g2⟩ := List.mem_range'_1.mp hj
        rw [decide_eq_true (show j < f + (n + 1) by omega), decide_eq_true (show j < f + n by omega)]
      rw [h1]
    rw [hst]
    by_cases q : G (k (f + n)) = true
    · rw [if_pos q, if_pos q]
      obtain ⟨i1, i2⟩ := ih (m + 1) (c - 1) (delA k (f + n) c) (delA v (f + n) c) (by omega)
      refine ⟨?_, by omega⟩
      rw [i1, List.append_nil]
      have hlo : ∀ j, j < f + n → delA k (f + n) c j = k j ∧ delA v (f + n) c j = v j := fun j hj => by unfold delA; rw [if_neg (by omega), if_neg (by omega)]; exact ⟨rfl, rfl⟩
      congr 1
      · rw [ent_seg, ent_seg]; exact seg_c (fun j _ hj => hlo j (by omega))
      · congr 1
        · exact stay_c (fun j _ hj => hlo j (by omega))
        · have := del_ent (k := k) (v := v) (p := f + n) (c := c) (by omega)
          rw [ent_split _ _ (show f + n ≤ c - 1 by omega)] at this
          have hl : (ent (delA k (f + n) c) (delA v (f + n) c) (f + n)).length = (ent k v (f + n)).length := by rw [ent_len, ent_len]
          have h2 := (List.append_inj this hl).2
          rw [h2]
          rfl
    · rw [if_neg q, if_neg q]
      obtain ⟨i1, i2⟩ := ih m c k v (by omega)
      refine ⟨?_, i2⟩
      rw [i1]
      congr 1
      rw [List.append_assoc]
      congr 1
      rw [show c - (f + n) = (c - (f + (n + 1))) + 1 by omega, seg_1]
      rfl
theorem sweep_Rel {k v k2 v2 : Nat → Int32} {c : Nat} (h : Rel k v k2 v2 c) (step rest : Int32) {b e : Nat} (hbe : b ≤ e) (hec : e ≤ c) :
    RelT (dlK step rest b e c k v) (swp (gLeav step rest) b (e - b) 0 c k2 v2).2 ∧ (swp (gLeav step rest) b (e - b) 0 c k2 v2).1 = c - (dlK step rest b e c k v).1 := by
  obtain ⟨s1, s2⟩ := swp_ent (gLeav step rest) b (e - b) 0 c k2 v2 (by omega)
  have he : ent (dlK step rest b e c k v).2.1 (dlK step rest b e c k v).2.2 (dlK step rest b e c k v).1 = ent (swp (gLeav step rest) b (e - b) 0 c k2 v2).2.2.1 (swp (gLeav step rest) b (e - b) 0 c k2 v2).2.2.2 (swp (gLeav step rest) b (e - b) 0 c k2 v2).2.1 := by
    rw [s1, dlK_ent, show c - b = (e - b) + (c - e) by omega, stay_app, show b + (e - b) = e by omega, stay_all (c - e) e (Nat.le_refl _)]
    congr 1
    · rw [ent_seg, ent_seg]; exact (seg_c (fun j _ hj => h.1 j (by omega))).symm
    · congr 1
      · exact (stay_c (fun j _ hj => h.1 j (by omega))).symm
      · exact (seg_c (fun j _ hj => h.1 j (by omega))).symm
  refine ⟨Rel_of h (dlK_sub step rest k v (by omega)) he, ?_⟩
  have h3 := congrArg List.length he
  rw [ent_len, ent_len] at h3
  omega
theorem sweep_0 {k v k2 v2 : Nat → Int32} {c : Nat} (h : Rel k v k2 v2 c) (step rest : Int32) {b f : Nat} (hb : b ≤ c) :
    RelT (dlK step rest b b c k v) (swp (gLeav step rest) f (f - f) 0 c k2 v2).2 ∧ (swp (gLeav step rest) f (f - f) 0 c k2 v2).1 = c - (dlK step rest b b c k v).1 := by
  rw [Nat.sub_self]
  have he : ent (dlK step rest b b c k v).2.1 (dlK step rest b b c k v).2.2 (dlK step rest b b c k v).1 = ent k2 v2 c := by
    rw [dlK_ent, stay_all (c - b) b (Nat.le_refl _), ← ent_split k v hb, Rel_ent h]
  refine ⟨Rel_of h (dlK_sub step rest k v hb) he, ?_⟩
  have h3 := congrArg List.length he
  rw [ent_len, ent_len] at h3
  show 0 = _
  omega
theorem vcl_ent (f : Nat) : ∀ (n c : Nat) (k v : Nat → Int32), f + n ≤ c → ent (vcl f n c k v).2.1 (vcl f n c k v).2.2 (vcl f n c k v).1 = ent k v f ++ seg k v (f + n) (c - (f + n)) := by
  intro n
  induction n with
  | zero => intro c k v h; show ent k v c = ent k v f ++ seg k v f (c - f); exact ent_split k v (by omega)
  | succ n ih =>
    intro c k v h
    rw [vcl, ih (c - 1) _ _ (by omega)]
    congr 1
    · rw [ent_seg, ent_seg]
      exact seg_c (fun j _ hj => by unfold delA; rw [if_neg (by omega), if_neg (by omega)]; exact ⟨rfl, rfl⟩)
    · unfold seg
      rw [show c - 1 - (f + n) = c - (f + (n + 1)) by omega, List.range'_eq_map_range, List.range'_eq_map_range, List.map_map, List.map_map]
      refine List.map_congr_left (fun j hj => ?_)
      have := List.mem_range.mp hj
      show (delA k f c (f + n + j), delA v f c (f + n + j)) = (k (f + (n + 1) + j), v (f + (n + 1) + j))
      unfold delA
      rw [if_pos (by omega), if_pos (by omega), show f + n + j + 1 = f + (n + 1) + j by omega]
theorem clear_Rel {k v k2 v2 : Nat → Int32} {c : Nat} (h : Rel k v k2 v2 c) {b e f g : Nat} (hbe : b ≤ e) (hec : e ≤ c) (hfg : f ≤ g) (hgc : g ≤ c) (hv : (b = f ∧ e = g) ∨ (b = e ∧ f = g)) : RelT (dlK 1 0 b e c k v) (vcl f (g - f) c k2 v2) := by
  refine Rel_of h (dlK_sub 1 0 k v (by omega)) ?_
  rw [dl1_ent k v hbe hec, vcl_ent f (g - f) c k2 v2 (by omega), show f + (g - f) = g by omega]
  rcases hv with ⟨rfl, rfl⟩ | ⟨rfl, rfl⟩
  · congr 1
    · rw [ent_seg, ent_seg]; exact (seg_c (fun j _ hj => h.1 j (by omega))).symm
    · exact (seg_c (fun j _ hj => h.1 j (by omega))).symm
  · rw [← ent_split k v hec, ← ent_split k2 v2 hgc, Rel_ent h]
/-- poll: the first or the last of the view goes -/
theorem poll_A {k v k2 v2 : Nat → Int32} {c : Nat} (h : Rel k v k2 v2 c) (p : Bool) {b e f g : Nat} (hbe : b ≤ e) (hec : e ≤ c) (hv : (b = f ∧ e = g) ∨ (b = e ∧ f = g)) : kW k (pj p b e) b e = mpA k2 p f g := by
  unfold mpA
  rcases hv with ⟨rfl, rfl⟩ | ⟨rfl, rfl⟩
  · by_cases q : b = e
    · rw [if_pos q, q]; exact kW_e
    · rw [if_neg q]
      unfold pj
      by_cases z : p = true
      · rw [if_pos z, if_pos z, (h.1 (e - 1) (by omega)).1, show (e : Int) - 1 = ((e - 1 : Nat) : Int) by omega]
        exact kW_yes (by omega) (by omega)
      · rw [if_neg z, if_neg z, (h.1 b (by omega)).1]
        exact kW_yes (by omega) (by omega)
  · rw [if_pos rfl]; exact kW_e
theorem poll_Rel {k v k2 v2 : Nat → Int32} {c : Nat} (h : Rel k v k2 v2 c) (p : Bool) {b e f g : Nat} (hbe : b ≤ e) (hec : e ≤ c) (hv : (b = f ∧ e = g) ∨ (b = e ∧ f = g)) : RelT (plP k v c p b e) (mpP k2 v2 c p f g) := by
  unfold plP mpP
  rw [poll_A h p hbe hec hv]
  unfold mpA
  by_cases q : f = g
  · rw [if_pos q, if_pos q, if_pos rfl]
    exact ⟨rfl, h⟩
  · rw [if_neg q, if_neg q, if_neg (NO_ne _)]
    obtain ⟨rfl, rfl⟩ : b = f ∧ e = g := hv.elim id (fun w => absurd w.2 q)
    have hj : (pj p b e).toNat = (if p = true then e - 1 else b) := by
      unfold pj
      by_cases z : p = true
      · rw [if_pos z, if_pos z]; omega
      · rw [if_neg z, if_neg z]; omega
    rw [hj]
    exact del_Rel h (by split <;> omega)
