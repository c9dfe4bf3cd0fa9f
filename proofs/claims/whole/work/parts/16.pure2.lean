/-! the class's functions and the model's, on rows that agree -/
def Rel (k v k2 v2 : Nat → Int32) (c : Nat) : Prop := (∀ j, j < c → k2 j = k j ∧ v2 j = v j) ∧ ∀ i j, i < j → j < c → k i < k j
theorem NO_ne (x : Int32) : ¬ x.toInt64 = NO := by
  intro h
  have h1 : x.toInt64.toInt = (NO : Int64).toInt := by rw [h]
  rw [Int32.toInt_toInt64, show (NO : Int64).toInt = 1099511627776 by decide] at h1
  have h2 := Int32.toInt_lt x
  omega
theorem lt_tr {a b c : Int32} (h1 : a < b) (h2 : b < c) : a < c := by
  rw [Int32.lt_iff_toInt_lt] at *
  omega
theorem plc_c {k k2 : Nat → Int32} {c : Nat} (h : ∀ j, j < c → k2 j = k j) (x : Int64) : plc k2 c x = plc k c x := by
  unfold plc
  exact pf_c c 0 (fun j _ hj => by show decide ((k2 j).toInt64 < x) = decide ((k j).toInt64 < x); rw [h j (by omega)])
theorem atK_c {k k2 : Nat → Int32} {c : Nat} (h : ∀ j, j < c → k2 j = k j) (j : Nat) (x : Int32) : atK k2 c j x = atK k c j x := by
  unfold atK
  by_cases q : j < c
  · rw [h j q]
  · rw [decide_eq_false q]; rfl
theorem vOf_c {k v k2 v2 : Nat → Int32} {c : Nat} (h : Rel k v k2 v2 c) (x : Int32) : vOf k2 v2 c x = vOf k v c x := by
  have hk : ∀ j, j < c → k2 j = k j := fun j hj => (h.1 j hj).1
  unfold vOf
  rw [plc_c hk, atK_c hk]
  by_cases q : atK k c (plc k c x.toInt64) x = true
  · rw [if_pos q, if_pos q, (h.1 _ (atK_lt q)).2]
  · rw [if_neg q, if_neg q]
theorem kW_c {k k2 : Nat → Int32} {c : Nat} (h : ∀ j, j < c → k2 j = k j) {z : Int} {b e : Nat} (he : e ≤ c) : kW k2 z b e = kW k z b e := by
  unfold kW
  by_cases q : (b : Int) ≤ z ∧ z < (e : Int)
  · rw [if_pos q, if_pos q, h _ (by omega)]
  · rw [if_neg q, if_neg q]
theorem kW_e {k : Nat → Int32} {z : Int} {b : Nat} : kW k z b b = NO := if_neg (by omega)
theorem plc_lt {k : Nat → Int32} {c j : Nat} {x : Int64} (h : j < plc k c x) : (k j).toInt64 < x := by
  have := pf_lt (P := fun j => decide ((k j).toInt64 < x)) c 0 j (Nat.zero_le _) h
  simpa using this
theorem plc_at {k : Nat → Int32} {c : Nat} {x : Int64} (h : plc k c x < c) : ¬ (k (plc k c x)).toInt64 < x := by
  have := pf_at (P := fun j => decide ((k j).toInt64 < x)) c 0 (by unfold plc at h; omega)
  exact of_decide_eq_false this
theorem plc_ge {k : Nat → Int32} {c j : Nat} {x : Int64} (hs : ∀ i j, i < j → j < c → k i < k j) (hj : j < c) (h : plc k c x ≤ j) : ¬ (k j).toInt64 < x := by
  intro q
  by_cases e : plc k c x = j
  · exact plc_at (k := k) (c := c) (x := x) (by omega) (by rw [e]; exact q)
  · have h1 := plc_at (k := k) (c := c) (x := x) (by omega)
    have h2 := hs _ j (Nat.lt_of_le_of_ne h e) hj
    rw [Int64.lt_iff_toInt_lt, Int32.toInt_toInt64] at h1 q
    rw [Int32.lt_iff_toInt_lt] at h2
    omega
/-- put: a new key goes in where it belongs -/
theorem ins_srt {k : Nat → Int32} {c : Nat} {x : Int32} (hs : ∀ i j, i < j → j < c → k i < k j) (ha : ¬ atK k c (plc k c x.toInt64) x = true) : ∀ i j, i < j → j < c + 1 → insA k (plc k c x.toInt64) c x i < insA k (plc k c x.toInt64) c x j := by
  have hp := plc_le k c x.toInt64
  have hlo : ∀ j, j < plc k c x.toInt64 → k j < x := fun j hj => i64_lt.mp (plc_lt hj)
  have hhi : ∀ j, plc k c x.toInt64 ≤ j → j < c → x < k j := by
    intro j h1 h2
    have h3 := plc_ge hs h2 h1
    rw [i64_lt] at h3
    have h4 : ¬ k j = x := by
      intro q
      by_cases e : plc k c x.toInt64 = j
      · exact ha (by unfold atK; rw [e, decide_eq_true h2, decide_eq_true q]; rfl)
      · have h5 := hs _ j (Nat.lt_of_le_of_ne h1 e) h2
        have h6 := plc_at (k := k) (c := c) (x := x.toInt64) (by omega)
        rw [i64_lt] at h6
        exact h6 (q ▸ h5)
    rw [Int32.lt_iff_toInt_lt] at h3 ⊢
    have h5 : ¬ (k j).toInt = x.toInt := fun q => h4 (Int32.toInt_inj.mp q)
    omega
  generalize plc k c x.toInt64 = p at *
  intro i j hij hj
  unfold insA
  by_cases e1 : i = p
  · rw [if_pos e1, if_neg (by omega), if_pos (by omega)]
    exact hhi (j - 1) (by omega) (by omega)
  · rw [if_neg e1]
    by_cases e2 : j = p
    · rw [if_pos e2, if_neg (by omega)]
      exact hlo i (by omega)
    · rw [if_neg e2]
      by_cases e3 : p < i ∧ i ≤ c
      · rw [if_pos e3, if_pos (by omega)]
        exact hs (i - 1) (j - 1) (by omega) (by omega)
      · rw [if_neg e3]
        by_cases e4 : p < j ∧ j ≤ c
        · rw [if_pos e4]
          exact lt_tr (hlo i (by omega)) (hhi (j - 1) (by omega) (by omega))
        · rw [if_neg e4]
          exact hs i j hij (by omega)
theorem ins_c {k k2 : Nat → Int32} {c p : Nat} {x : Int32} (hp : p ≤ c) (h : ∀ j, j < c → k2 j = k j) : ∀ j, j < c + 1 → insA k2 p c x j = insA k p c x j := by
  intro j hj
  unfold insA
  by_cases e1 : j = p
  · rw [if_pos e1, if_pos e1]
  · rw [if_neg e1, if_neg e1]
    by_cases e2 : p < j ∧ j ≤ c
    · rw [if_pos e2, if_pos e2]; exact h _ (by omega)
    · rw [if_neg e2, if_neg e2]; exact h _ (by omega)
theorem ins_Rel {k v k2 v2 : Nat → Int32} {c : Nat} {x y : Int32} (h : Rel k v k2 v2 c) (ha : ¬ atK k c (plc k c x.toInt64) x = true) : Rel (insA k (plc k c x.toInt64) c x) (insA v (plc k c x.toInt64) c y) (insA k2 (plc k c x.toInt64) c x) (insA v2 (plc k c x.toInt64) c y) (c + 1) :=
  ⟨fun j hj => ⟨ins_c (plc_le _ _ _) (fun j hj => (h.1 j hj).1) j hj, ins_c (plc_le _ _ _) (fun j hj => (h.1 j hj).2) j hj⟩, ins_srt h.2 ha⟩
theorem put_Rel {k v k2 v2 : Nat → Int32} {c : Nat} (h : Rel k v k2 v2 c) (x y : Int32) : stC k2 c x = stC k c x ∧ Rel (stK k c x) (stV k v c x y) (stK k2 c x) (stV k2 v2 c x y) (stC k c x) := by
  have hk : ∀ j, j < c → k2 j = k j := fun j hj => (h.1 j hj).1
  unfold stC stK stV
  rw [plc_c hk, atK_c hk]
  by_cases q : atK k c (plc k c x.toInt64) x = true
  · rw [if_pos q, if_pos q, if_pos q, if_pos q, if_pos q]
    refine ⟨rfl, fun j hj => ⟨hk j hj, ?_⟩, h.2⟩
    unfold upd
    by_cases e : j = plc k c x.toInt64
    · rw [if_pos e, if_pos e]
    · rw [if_neg e, if_neg e]; exact (h.1 j hj).2
  · rw [if_neg q, if_neg q, if_neg q, if_neg q, if_neg q]
    exact ⟨rfl, ins_Rel h q⟩
theorem vOf_no {k v : Nat → Int32} {c : Nat} {x : Int32} : vOf k v c x = NO ↔ ¬ atK k c (plc k c x.toInt64) x = true := by
  unfold vOf
  by_cases q : atK k c (plc k c x.toInt64) x = true
  · rw [if_pos q]; exact ⟨fun h => absurd h (NO_ne _), fun h => absurd q h⟩
  · rw [if_neg q]; exact ⟨fun _ => q, fun _ => rfl⟩
def RelT (a b : Nat × (Nat → Int32) × (Nat → Int32)) : Prop := b.1 = a.1 ∧ Rel a.2.1 a.2.2 b.2.1 b.2.2 a.1
theorem add_Rel {k v k2 v2 : Nat → Int32} {c : Nat} (h : Rel k v k2 v2 c) (x y : Int32) : RelT (adT k v c x y) (maT k2 v2 c x y) := by
  have hk : ∀ j, j < c → k2 j = k j := fun j hj => (h.1 j hj).1
  unfold adT maT
  rw [plc_c hk, atK_c hk]
  by_cases q : atK k c (plc k c x.toInt64) x = true
  · rw [if_neg (fun z => vOf_no.mp z q), if_pos q]
    exact ⟨rfl, h⟩
  · rw [if_pos (vOf_no.mpr q), if_neg q]
    unfold stC stK stV
    rw [if_neg q, if_neg q, if_neg q]
    exact ⟨rfl, ins_Rel h q⟩
