/-! rows as lists of entries: what goes and what stays -/
def ent (k v : Nat → Int32) (c : Nat) : List (Int32 × Int32) := (List.range c).map (fun j => (k j, v j))
def seg (k v : Nat → Int32) (i n : Nat) : List (Int32 × Int32) := (List.range' i n).map (fun j => (k j, v j))
theorem ent_len (k v : Nat → Int32) (c : Nat) : (ent k v c).length = c := by unfold ent; rw [List.length_map, List.length_range]
theorem ent_get {k v : Nat → Int32} {c j : Nat} (h : j < c) : (ent k v c)[j]? = some (k j, v j) := by
  unfold ent
  rw [List.getElem?_map, List.getElem?_range h]
  rfl
theorem ent_seg (k v : Nat → Int32) (c : Nat) : ent k v c = seg k v 0 c := by unfold ent seg; rw [List.range_eq_range']
theorem seg_app (k v : Nat → Int32) (i a b : Nat) : seg k v i a ++ seg k v (i + a) b = seg k v i (a + b) := by
  unfold seg
  rw [← List.map_append, List.range'_append_1]
theorem seg_1 (k v : Nat → Int32) (i n : Nat) : seg k v i (n + 1) = (k i, v i) :: seg k v (i + 1) n := by
  unfold seg
  rw [List.range'_succ]
  rfl
theorem seg_c {k v k2 v2 : Nat → Int32} {i n : Nat} (h : ∀ j, i ≤ j → j < i + n → k2 j = k j ∧ v2 j = v j) : seg k2 v2 i n = seg k v i n := by
  unfold seg
  refine List.map_congr_left (fun j hj => ?_)
  obtain ⟨h1, h2⟩ := List.mem_range'_1.mp hj
  rw [(h j h1 h2).1, (h j h1 h2).2]
theorem ent_split (k v : Nat → Int32) {b c : Nat} (h : b ≤ c) : ent k v c = ent k v b ++ seg k v b (c - b) := by
  have := seg_app k v 0 b (c - b)
  rw [show b + (c - b) = c by omega, Nat.zero_add] at this
  rw [ent_seg, ent_seg, this]
theorem ent_inj {k v k2 v2 : Nat → Int32} {c c2 : Nat} (h : ent k v c = ent k2 v2 c2) : c2 = c ∧ ∀ j, j < c → k2 j = k j ∧ v2 j = v j := by
  have hl : c2 = c := by
    have := congrArg List.length h
    rw [ent_len, ent_len] at this
    exact this.symm
  subst hl
  refine ⟨rfl, fun j hj => ?_⟩
  have := congrArg (fun l => l[j]?) h
  simp only [ent_get hj, Option.some.injEq, Prod.mk.injEq] at this
  exact ⟨this.1.symm, this.2.symm⟩
def srtL (L : List (Int32 × Int32)) : Prop := L.Pairwise (fun a b => a.1 < b.1)
theorem srt_iff {k v : Nat → Int32} {c : Nat} : srtL (ent k v c) ↔ ∀ i j, i < j → j < c → k i < k j := by
  unfold srtL ent
  rw [List.pairwise_map, List.pairwise_iff_getElem]
  simp only [List.length_range, List.getElem_range]
  exact ⟨fun h i j hij hj => h i j (by omega) hj hij, fun h i j _ hj hij => h i j hij hj⟩
theorem Rel_of {k v k2 v2 : Nat → Int32} {c : Nat} {a b : Nat × (Nat → Int32) × (Nat → Int32)} (h : Rel k v k2 v2 c) (hs : (ent a.2.1 a.2.2 a.1).Sublist (ent k v c)) (he : ent a.2.1 a.2.2 a.1 = ent b.2.1 b.2.2 b.1) : RelT a b := by
  obtain ⟨h1, h2⟩ := ent_inj he
  exact ⟨h1, h2, srt_iff.mp (List.Pairwise.sublist hs (srt_iff.mpr h.2))⟩
theorem Rel_ent {k v k2 v2 : Nat → Int32} {c : Nat} (h : Rel k v k2 v2 c) : ent k2 v2 c = ent k v c := by
  rw [ent_seg, ent_seg]
  exact seg_c (fun j _ hj => h.1 j (by omega))
/-- what stays of the segment from i on, n long, when those before e that G names go -/
def stay (G : Int32 → Bool) (e : Nat) (k v : Nat → Int32) (i n : Nat) : List (Int32 × Int32) := ((List.range' i n).filter (fun j => !(decide (j < e) && G (k j)))).map (fun j => (k j, v j))
theorem stay_1 (G : Int32 → Bool) (e : Nat) (k v : Nat → Int32) (i n : Nat) : stay G e k v i (n + 1) = (if (decide (i < e) && G (k i)) = true then [] else [(k i, v i)]) ++ stay G e k v (i + 1) n := by
  unfold stay
  rw [List.range'_succ, List.filter_cons]
  by_cases q : (decide (i < e) && G (k i)) = true
  · rw [if_pos q, q]; rfl
  · have q2 : (decide (i < e) && G (k i)) = false := by cases h : (decide (i < e) && G (k i)) with
      | true => exact absurd h q
      | false => rfl
    rw [if_neg q, q2]; rfl
theorem stay_c {G : Int32 → Bool} {e : Nat} {k v k2 v2 : Nat → Int32} {i n : Nat} (h : ∀ j, i ≤ j → j < i + n → k2 j = k j ∧ v2 j = v j) : stay G e k2 v2 i n = stay G e k v i n := by
  unfold stay
  have h1 : (List.range' i n).filter (fun j => !(decide (j < e) && G (k2 j))) = (List.range' i n).filter (fun j => !(decide (j < e) && G (k j))) := by
    refine List.filter_congr (fun j hj => ?_)
    obtain ⟨g1, g2⟩ := List.mem_range'_1.mp hj
    rw [(h j g1 g2).1]
  rw [h1]
  refine List.map_congr_left (fun j hj => ?_)
  obtain ⟨g1, g2⟩ := List.mem_range'_1.mp (List.mem_filter.mp hj).1
  rw [(h j g1 g2).1, (h j g1 g2).2]
theorem stay_sub (G : Int32 → Bool) (e : Nat) (k v : Nat → Int32) (i n : Nat) : (stay G e k v i n).Sublist (seg k v i n) := by
  unfold stay seg
  exact List.Sublist.map _ List.filter_sublist
theorem ent_upd {k v : Nat → Int32} {t : Nat} {a b : Int32} : ent (upd k t a) (upd v t b) (t + 1) = ent k v t ++ [(a, b)] := by
  unfold ent
  rw [List.range_succ, List.map_append]
  congr 1
  · refine List.map_congr_left (fun j hj => ?_)
    have := List.mem_range.mp hj
    unfold upd
    rw [if_neg (by omega), if_neg (by omega)]
  · simp [upd]
theorem clp_ent (G : Int32 → Bool) (e : Nat) : ∀ (n i t : Nat) (k v : Nat → Int32), t ≤ i → ent (clp G e n i t k v).2.1 (clp G e n i t k v).2.2 (clp G e n i t k v).1 = ent k v t ++ stay G e k v i n := by
  intro n
  induction n with
  | zero => intro i t k v _; show ent k v t = ent k v t ++ []; rw [List.append_nil]
  | succ n ih =>
    intro i t k v ht
    rw [clp, stay_1]
    by_cases q : (decide (i < e) && G (k i)) = true
    · rw [if_pos q, if_pos q, ih (i + 1) t k v (by omega)]; rfl
    · rw [if_neg q, if_neg q, ih (i + 1) (t + 1) _ _ (by omega), ent_upd, List.append_assoc]
      congr 2
      exact stay_c (fun j h1 _ => by unfold upd; rw [if_neg (by omega), if_neg (by omega)]; exact ⟨rfl, rfl⟩)
theorem dlK_ent (step rest : Int32) {b e c : Nat} (k v : Nat → Int32) : ent (dlK step rest b e c k v).2.1 (dlK step rest b e c k v).2.2 (dlK step rest b e c k v).1 = ent k v b ++ stay (gLeav step rest) e k v b (c - b) := clp_ent _ _ _ _ _ _ _ (Nat.le_refl _)
theorem dlK_sub (step rest : Int32) {b e c : Nat} (k v : Nat → Int32) (hb : b ≤ c) : (ent (dlK step rest b e c k v).2.1 (dlK step rest b e c k v).2.2 (dlK step rest b e c k v).1).Sublist (ent k v c) := by
  rw [dlK_ent, ent_split k v hb]
  exact List.Sublist.append (List.Sublist.refl _) (stay_sub _ _ _ _ _ _)
theorem stay_all {e : Nat} {k v : Nat → Int32} {G : Int32 → Bool} : ∀ (n i : Nat), e ≤ i → stay G e k v i n = seg k v i n := by
  intro n
  induction n with
  | zero => intro i _; rfl
  | succ n ih =>
    intro i h
    rw [stay_1, seg_1, decide_eq_false (by omega), Bool.false_and, if_neg (by decide), ih (i + 1) (by omega)]; rfl
theorem stay_app (G : Int32 → Bool) (e : Nat) (k v : Nat → Int32) (i a b : Nat) : stay G e k v i (a + b) = stay G e k v i a ++ stay G e k v (i + a) b := by
  unfold stay
  rw [← List.range'_append_1, List.filter_append, List.map_append]
theorem stay_none {e : Nat} {k v : Nat → Int32} {G : Int32 → Bool} (hG : ∀ x, G x = true) : ∀ (n i : Nat), i + n ≤ e → stay G e k v i n = [] := by
  intro n
  induction n with
  | zero => intro i _; rfl
  | succ n ih =>
    intro i h
    rw [stay_1, decide_eq_true (by omega), hG, if_pos (by decide), ih (i + 1) (by omega)]; rfl
theorem dv1 (x : Int32) : x / 1 = x := by
  first | exact Int32.div_one | simp
theorem g10 (x : Int32) : gLeav 1 0 x = true := by
  unfold gLeav fMod
  rw [dv1]
  simp
/-- all from b up to before e go -/
theorem dl1_ent {b e c : Nat} (k v : Nat → Int32) (hbe : b ≤ e) (hec : e ≤ c) : ent (dlK 1 0 b e c k v).2.1 (dlK 1 0 b e c k v).2.2 (dlK 1 0 b e c k v).1 = ent k v b ++ seg k v e (c - e) := by
  rw [dlK_ent, show c - b = (e - b) + (c - e) by omega, stay_app, stay_none g10 (e - b) b (by omega), show b + (e - b) = e by omega, stay_all (c - e) e (Nat.le_refl _)]
  rfl
theorem dl1_c {b e c : Nat} (k v : Nat → Int32) (hbe : b ≤ e) (hec : e ≤ c) : (dlK 1 0 b e c k v).1 = b + (c - e) := by
  have := congrArg List.length (dl1_ent k v hbe hec)
  rw [ent_len, List.length_append, ent_len] at this
  unfold seg at this
  rw [List.length_map, List.length_range'] at this
  exact this
/-- the model's delete -/
theorem del_ent {k v : Nat → Int32} {p c : Nat} (hp : p < c) : ent (delA k p c) (delA v p c) (c - 1) = ent k v p ++ seg k v (p + 1) (c - (p + 1)) := by
  rw [ent_split _ _ (show p ≤ c - 1 by omega)]
  congr 1
  · rw [ent_seg, ent_seg]
    exact seg_c (fun j _ hj => by unfold delA; rw [if_neg (by omega), if_neg (by omega)]; exact ⟨rfl, rfl⟩)
  · unfold seg
    rw [show c - 1 - p = c - (p + 1) by omega, List.range'_eq_map_range, List.range'_eq_map_range, List.map_map, List.map_map]
    refine List.map_congr_left (fun j hj => ?_)
    have := List.mem_range.mp hj
    show (delA k p c (p + j), delA v p c (p + j)) = (k (p + 1 + j), v (p + 1 + j))
    unfold delA
    rw [if_pos (by omega), if_pos (by omega), show p + j + 1 = p + 1 + j by omega]
