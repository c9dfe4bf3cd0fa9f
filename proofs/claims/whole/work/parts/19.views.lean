/-! the view's range, class and model -/
def RR (gl : Bool) (lo : Int32) (ml : Bool) (gh : Bool) (hi : Int32) (mh : Bool) (a : Int64) (li : Bool) (b : Int64) (hn : Bool) : Prop :=
  (gl = true → a = lo.toInt64 ∧ li = ml) ∧ (gl = false → a = BA ∧ li = false) ∧ (gh = true → b = hi.toInt64 ∧ hn = mh) ∧ (gh = false → b = BH ∧ hn = false)
def lowO (gl : Bool) (lo : Int32) (ml : Bool) (x : Int32) : Bool := !gl || decide (lo < x) || (decide (x = lo) && ml)
def higO (gh : Bool) (hi : Int32) (mh : Bool) (x : Int32) : Bool := !gh || decide (x < hi) || (decide (x = hi) && mh)
theorem i64_1 (x : Int32) : (x.toInt64 + 1).toInt = x.toInt + 1 := by
  have h1 := Int32.toInt_lt x
  have h2 := Int32.le_toInt x
  rw [Int64.toInt_add, Int32.toInt_toInt64, show (1 : Int64).toInt = 1 by decide]
  rw [Int.bmod_eq_of_le (by omega) (by omega)]
theorem st_low {gl : Bool} {lo : Int32} {ml gh : Bool} {hi : Int32} {mh : Bool} {a : Int64} {li : Bool} {b : Int64} {hn : Bool} (h : RR gl lo ml gh hi mh a li b hn) (x : Int32) : (x.toInt64 < stR a li) ↔ lowO gl lo ml x = false := by
  unfold stR lowO
  rw [Int64.lt_iff_toInt_lt, Int32.toInt_toInt64]
  have hx2 := Int32.le_toInt x
  cases gl with
  | false =>
    obtain ⟨rfl, rfl⟩ := h.2.1 rfl
    rw [if_neg (by decide), show (BA + 1 : Int64).toInt = -2147483648 by decide]
    simp
    omega
  | true =>
    obtain ⟨rfl, rfl⟩ := h.1 rfl
    cases li with
    | true =>
      rw [if_pos rfl, Int32.toInt_toInt64]
      simp [Int32.lt_iff_toInt_lt, ← Int32.toInt_inj, Int32.le_iff_toInt_le]
      omega
    | false =>
      rw [if_neg (by decide), i64_1]
      simp [Int32.lt_iff_toInt_lt, Int32.le_iff_toInt_le]
      omega
theorem sp_hig {gl : Bool} {lo : Int32} {ml gh : Bool} {hi : Int32} {mh : Bool} {a : Int64} {li : Bool} {b : Int64} {hn : Bool} (h : RR gl lo ml gh hi mh a li b hn) (x : Int32) : (x.toInt64 < spR b hn) ↔ higO gh hi mh x = true := by
  unfold spR higO
  rw [Int64.lt_iff_toInt_lt, Int32.toInt_toInt64]
  have hx2 := Int32.toInt_lt x
  cases gh with
  | false =>
    obtain ⟨rfl, rfl⟩ := h.2.2.2 rfl
    rw [if_neg (by decide), show (BH : Int64).toInt = 2147483648 by decide]
    simp
    omega
  | true =>
    obtain ⟨rfl, rfl⟩ := h.2.2.1 rfl
    cases hn with
    | true =>
      rw [if_pos rfl, i64_1]
      simp [Int32.lt_iff_toInt_lt, ← Int32.toInt_inj]
      omega
    | false =>
      rw [if_neg (by decide), Int32.toInt_toInt64]
      simp [Int32.lt_iff_toInt_lt]
theorem iM_eq {gl : Bool} {lo : Int32} {ml gh : Bool} {hi : Int32} {mh : Bool} {x : Int32} : iM gl lo ml gh hi mh x = (lowO gl lo ml x && higO gh hi mh x) := rfl
theorem in_RR {gl : Bool} {lo : Int32} {ml gh : Bool} {hi : Int32} {mh : Bool} {a : Int64} {li : Bool} {b : Int64} {hn : Bool} (h : RR gl lo ml gh hi mh a li b hn) (x : Int32) : hR a li b hn x.toInt64 = iM gl lo ml gh hi mh x := by
  rw [iM_eq]
  unfold hR
  have h1 := st_low h x
  have h2 := sp_hig h x
  have e1 : decide (stR a li ≤ x.toInt64) = lowO gl lo ml x := by
    cases q : lowO gl lo ml x with
    | false => exact decide_eq_false (Int64.not_le.mpr (h1.mpr q))
    | true => exact decide_eq_true (Int64.not_lt.mp (fun z => by rw [h1.mp z] at q; cases q))
  have e2 : decide (x.toInt64 < spR b hn) = higO gh hi mh x := by
    cases q : higO gh hi mh x with
    | false => exact decide_eq_false (fun z => by rw [h2.mp z] at q; cases q)
    | true => exact decide_eq_true (h2.mpr q)
  rw [e1, e2]
theorem may_RR {gl : Bool} {lo : Int32} {ml gh : Bool} {hi : Int32} {mh : Bool} {a : Int64} {li : Bool} {b : Int64} {hn : Bool} (h : RR gl lo ml gh hi mh a li b hn) (x : Int32) (i : Bool) : mR a li b hn x.toInt64 i = mayM gl lo ml gh hi mh x i := by
  unfold mR mayM
  rw [in_RR h]
  by_cases q : i = true
  · rw [if_pos q, if_pos q]
  · rw [if_neg q, if_neg q]
    have hx1 := Int32.le_toInt x
    have hx2 := Int32.toInt_lt x
    congr 1
    · cases gl with
      | false =>
        obtain ⟨rfl, rfl⟩ := h.2.1 rfl
        rw [show (!false || decide (lo ≤ x)) = true from rfl]
        refine decide_eq_true ?_
        rw [Int64.le_iff_toInt_le, Int32.toInt_toInt64, show (BA : Int64).toInt = -2147483649 by decide]
        omega
      | true =>
        obtain ⟨rfl, rfl⟩ := h.1 rfl
        simp only [i64_le, Bool.not_true, Bool.false_or]
    · cases gh with
      | false =>
        obtain ⟨rfl, rfl⟩ := h.2.2.2 rfl
        rw [show (!false || decide (x ≤ hi)) = true from rfl]
        refine decide_eq_true ?_
        rw [Int64.le_iff_toInt_le, Int32.toInt_toInt64, show (BH : Int64).toInt = 2147483648 by decide]
        omega
      | true =>
        obtain ⟨rfl, rfl⟩ := h.2.2.1 rfl
        simp only [i64_le, Bool.not_true, Bool.false_or]
theorem higO_anti {gh : Bool} {hi : Int32} {mh : Bool} {x y : Int32} (hxy : x < y) (h : higO gh hi mh y = true) : higO gh hi mh x = true := by
  unfold higO at *
  cases gh with
  | false => rfl
  | true =>
    simp [Int32.lt_iff_toInt_lt, ← Int32.toInt_inj] at h hxy ⊢
    omega
theorem higO_n {gh : Bool} {hi : Int32} {mh : Bool} {x : Int32} (h : higO gh hi mh x = true) : (gh && decide (hi < x)) = false := by
  unfold higO at h
  cases gh with
  | false => rfl
  | true =>
    simp [Int32.lt_iff_toInt_lt, ← Int32.toInt_inj, Int32.le_iff_toInt_le] at h ⊢
    omega
/-- the two views: the same places, or both are empty -/
theorem vw {k k2 : Nat → Int32} {c : Nat} {gl : Bool} {lo : Int32} {ml gh : Bool} {hi : Int32} {mh : Bool} {a : Int64} {li : Bool} {b : Int64} {hn : Bool} (h : RR gl lo ml gh hi mh a li b hn) (hk : ∀ j, j < c → k2 j = k j) (hs : ∀ i j, i < j → j < c → k i < k j) :
    (vB k c a li = mF k2 c gl lo ml gh hi mh ∧ vE k c a li b hn = mE k2 c gl lo ml gh hi mh) ∨ (vB k c a li = vE k c a li b hn ∧ mF k2 c gl lo ml gh hi mh = mE k2 c gl lo ml gh hi mh) := by
  have hB := plc_le k c (stR a li)
  have hQ := plc_le k c (spR b hn)
  have lowB : ∀ j, j < plc k c (stR a li) → lowO gl lo ml (k j) = false := fun j hj => (st_low h _).mp (plc_lt hj)
  have lowA : ∀ j, plc k c (stR a li) ≤ j → j < c → lowO gl lo ml (k j) = true := fun j h1 h2 => by
    cases q : lowO gl lo ml (k j) with
    | true => rfl
    | false => exact absurd ((st_low h _).mpr q) (plc_ge hs h2 h1)
  have higB : ∀ j, j < plc k c (spR b hn) → higO gh hi mh (k j) = true := fun j hj => (sp_hig h _).mp (plc_lt hj)
  have higA : ∀ j, plc k c (spR b hn) ≤ j → j < c → higO gh hi mh (k j) = false := fun j h1 h2 => by
    cases q : higO gh hi mh (k j) with
    | false => rfl
    | true => exact absurd ((sp_hig h _).mpr q) (plc_ge hs h2 h1)
  unfold vE vB
  generalize plc k c (stR a li) = B at *
  generalize plc k c (spR b hn) = q at *
  have hF1 := mF_le k2 c gl lo ml gh hi mh
  by_cases hbq : B < q
  · refine Or.inl ?_
    have hF : mF k2 c gl lo ml gh hi mh = B := by
      have hlt : ∀ j, j < mF k2 c gl lo ml gh hi mh → (!iM gl lo ml gh hi mh (k2 j) && !(gh && decide (hi < k2 j))) = true := fun j hj => pf_lt (P := fun j => !iM gl lo ml gh hi mh (k2 j) && !(gh && decide (hi < k2 j))) c 0 j (Nat.zero_le _) hj
      rcases Nat.lt_trichotomy (mF k2 c gl lo ml gh hi mh) B with z | z | z
      · have h1 : (!iM gl lo ml gh hi mh (k2 (mF k2 c gl lo ml gh hi mh)) && !(gh && decide (hi < k2 (mF k2 c gl lo ml gh hi mh)))) = false := pf_at (P := fun j => !iM gl lo ml gh hi mh (k2 j) && !(gh && decide (hi < k2 j))) c 0 (by show mF k2 c gl lo ml gh hi mh < 0 + c; omega)
        rw [hk _ (by omega), iM_eq, lowB _ z, higO_n (higB _ (by omega))] at h1
        cases h1
      · exact z
      · have h1 := hlt B z
        rw [hk B (by omega), iM_eq, lowA B (Nat.le_refl _) (by omega), higB B hbq] at h1
        cases h1
    refine ⟨hF.symm, ?_⟩
    rw [Nat.max_eq_right (Nat.le_of_lt hbq)]
    have hE1 := mE_le k2 c gl lo ml gh hi mh
    have hE2 := mFE k2 c gl lo ml gh hi mh
    have hlt : ∀ j, B ≤ j → j < mE k2 c gl lo ml gh hi mh → iM gl lo ml gh hi mh (k2 j) = true := fun j h1 h2 => pf_lt (P := fun j => iM gl lo ml gh hi mh (k2 j)) _ _ j (by rw [hF]; exact h1) h2
    rcases Nat.lt_trichotomy (mE k2 c gl lo ml gh hi mh) q with z | z | z
    · have h1 : iM gl lo ml gh hi mh (k2 (mE k2 c gl lo ml gh hi mh)) = false := pf_at (P := fun j => iM gl lo ml gh hi mh (k2 j)) (c - mF k2 c gl lo ml gh hi mh) (mF k2 c gl lo ml gh hi mh) (by show mE k2 c gl lo ml gh hi mh < _; omega)
      rw [hk _ (by omega), iM_eq, lowA _ (by omega) (by omega), higB _ z] at h1
      cases h1
    · exact z.symm
    · have h1 := hlt q (by omega) z
      rw [hk q (by omega), iM_eq, higA q (Nat.le_refl _) (by omega), Bool.and_false] at h1
      cases h1
  · refine Or.inr ⟨by rw [Nat.max_eq_left (by omega)], ?_⟩
    have hno : ∀ j, j < c → iM gl lo ml gh hi mh (k2 j) = false := fun j hj => by
      rw [hk j hj, iM_eq]
      by_cases z : j < B
      · rw [lowB j z]; rfl
      · rw [higA j (by omega) hj, Bool.and_false]
    unfold mE
    by_cases z : mF k2 c gl lo ml gh hi mh < c
    · exact (pf_f (hno _ z)).symm
    · exact (pf_e (by omega)).symm
