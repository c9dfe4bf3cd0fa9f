/-! near, has, viewKey, walk, look, narrow: class and model -/
theorem nlp_v {k k2 : Nat → Int32} {c : Nat} {x : Int32} {A B f : Nat} (hk : ∀ j, j < c → k2 j = k j) (hfc : f ≤ c) (hA : ∀ j, j < c → (k j < x ↔ j < A)) (hB : ∀ j, j < c → (k j ≤ x ↔ j < B)) :
    ∀ (n i a b : Nat), i + n = f → nlp k2 x n i a b = (if i < min A f then min A f else a, if i < min B f then min B f else b) := by
  intro n
  induction n with
  | zero =>
    intro i a b h
    rw [nlp, if_neg (by omega), if_neg (by omega)]
  | succ n ih =>
    intro i a b h
    have hi : i < c := by omega
    rw [nlp, ih (i + 1) _ _ (by omega), hk i hi]
    have e1 : (if i + 1 < min A f then min A f else if k i < x then i + 1 else a) = (if i < min A f then min A f else a) := by
      by_cases q : i < A
      · rw [if_pos ((hA i hi).mpr q), if_pos (show i < min A f by omega)]
        by_cases z : i + 1 < min A f
        · rw [if_pos z]
        · rw [if_neg z]; omega
      · rw [if_neg (fun z => q ((hA i hi).mp z)), if_neg (show ¬ i + 1 < min A f by omega), if_neg (show ¬ i < min A f by omega)]
    have e2 : (if i + 1 < min B f then min B f else if k i ≤ x then i + 1 else b) = (if i < min B f then min B f else b) := by
      by_cases q : i < B
      · rw [if_pos ((hB i hi).mpr q), if_pos (show i < min B f by omega)]
        by_cases z : i + 1 < min B f
        · rw [if_pos z]
        · rw [if_neg z]; omega
      · rw [if_neg (fun z => q ((hB i hi).mp z)), if_neg (show ¬ i + 1 < min B f by omega), if_neg (show ¬ i < min B f by omega)]
    rw [e1, e2]
theorem near_eq {k k2 : Nat → Int32} {c : Nat} (hk : ∀ j, j < c → k2 j = k j) (hs : ∀ i j, i < j → j < c → k i < k j) (w x : Int32) {b f : Nat} (hbf : b ≤ f) (hfc : f ≤ c) : kN k c w x b f = kNM k2 w x b f := by
  have hA : ∀ j, j < c → (k j < x ↔ j < plc k c x.toInt64) := fun j hj => ⟨fun q => Nat.lt_of_not_le (fun z => plc_ge hs hj z (i64_lt.mpr q)), fun q => i64_lt.mp (plc_lt q)⟩
  have hB : ∀ j, j < c → (k j ≤ x ↔ j < plc k c (x.toInt64 + 1)) := fun j hj => by
    have key : (k j).toInt64 < x.toInt64 + 1 ↔ k j ≤ x := by
      rw [Int64.lt_iff_toInt_lt, i64_1, Int32.toInt_toInt64, Int32.le_iff_toInt_le]
      omega
    exact ⟨fun q => Nat.lt_of_not_le (fun z => plc_ge hs hj z (key.mpr q)), fun q => key.mp (plc_lt q)⟩
  have hn := nlp_v (x := x) (A := plc k c x.toInt64) (B := plc k c (x.toInt64 + 1)) hk hfc hA hB (f - b) b b b (by omega)
  unfold kN kNM
  rw [hn]
  dsimp only
  generalize plc k c x.toInt64 = A
  generalize plc k c (x.toInt64 + 1) = B
  have m1 : ∀ A : Nat, kW k ((min A f : Nat) - 1 : Int) b f = kW k2 (((if b < min A f then min A f else b : Nat) : Int) - 1) b f := fun A => by
    rw [kW_c hk hfc]
    by_cases q : b < min A f
    · rw [if_pos q]
    · rw [if_neg q, kW_no (by omega), kW_no (by omega)]
  have m2 : ∀ A : Nat, kW k ((max A b : Nat) : Int) b f = kW k2 ((if b < min A f then min A f else b : Nat) : Int) b f := fun A => by
    rw [kW_c hk hfc]
    by_cases q : b < min A f
    · rw [if_pos q]
      by_cases z : A ≤ f
      · rw [show max A b = min A f by omega]
      · rw [kW_no (by omega), kW_no (by omega)]
    · rw [if_neg q]
      by_cases z : A ≤ b
      · rw [show max A b = b by omega]
      · rw [kW_no (by omega), kW_no (by omega)]
  rw [m1 B, m2 A, m1 A, m2 B, kW_c (z := (b : Int)) hk hfc, kW_c (z := (f : Int) - 1) hk hfc]
theorem near_no {k : Nat → Int32} {c : Nat} (w x : Int32) {b : Nat} : kN k c w x b b = NO := by
  unfold kN
  simp only [kW_e, ite_self]
theorem nearM_no {k : Nat → Int32} (w x : Int32) {b : Nat} : kNM k w x b b = NO := by
  unfold kNM
  simp only [kW_e, ite_self]
theorem mir_in {w : Int32} (h : ¬ (w < 0 ∨ 5 < w)) : mir w = xw w := by
  obtain ⟨j, hj, rfl⟩ := nI_of2 (n := 5) (x := w) (M := 5) (by decide) (fun z => h (Or.inl z)) (Int32.not_lt.mp (fun z => h (Or.inr z)))
  rcases (show j = 0 ∨ j = 1 ∨ j = 2 ∨ j = 3 ∨ j = 4 ∨ j = 5 by omega) with rfl | rfl | rfl | rfl | rfl | rfl <;> decide
theorem out_ne {w : Int32} (h : w < 0 ∨ 5 < w) : ¬ w = 0 ∧ ¬ w = 1 ∧ ¬ w = 2 ∧ ¬ w = 3 ∧ ¬ w = 4 ∧ ¬ w = 5 := by
  refine ⟨?_, ?_, ?_, ?_, ?_, ?_⟩ <;> (intro q; rw [q] at h; exact absurd h (by decide))
theorem vnear_eq {k v k2 v2 : Nat → Int32} {c : Nat} (h : Rel k v k2 v2 c) (fl : Bool) (w x : Int32) {b e f g : Nat} (hbe : b ≤ e) (hec : e ≤ c) (hv : (b = f ∧ e = g) ∨ (b = e ∧ f = g)) :
    kN k c (if fl = true then mir w else w) x b e = if w < 0 ∨ 5 < w then NO else kNM k2 (if fl = true then xw w else w) x f g := by
  by_cases q : w < 0 ∨ 5 < w
  · rw [if_pos q]
    obtain ⟨a0, a1, a2, a3, a4, a5⟩ := out_ne q
    have hm : mir w = w := by unfold mir; rw [if_neg a0, if_neg a1, if_neg a2, if_neg a3, if_neg a4, if_neg a5]
    rw [hm, ite_self]
    unfold kN
    rw [if_neg a0, if_neg a1, if_neg a2, if_neg a3, if_neg a4, if_neg a5]
  · rw [if_neg q, mir_in q]
    rcases hv with ⟨rfl, rfl⟩ | ⟨rfl, rfl⟩
    · exact near_eq (fun j hj => (h.1 j hj).1) h.2 _ x hbe hec
    · rw [near_no, nearM_no]
theorem hasV_iff {v : Nat → Int32} {c : Nat} {x : Int32} : hasV v c x = true ↔ ∃ j, j < c ∧ v j = x := by
  unfold hasV
  constructor
  · intro h
    have h1 : pf (fun j => !decide (v j = x)) c 0 < c := of_decide_eq_true h
    have h2 := pf_at (P := fun j => !decide (v j = x)) c 0 (by omega)
    exact ⟨_, h1, by simpa using h2⟩
  · rintro ⟨j, hj, e⟩
    refine decide_eq_true (Nat.lt_of_not_le (fun z => ?_))
    have := pf_lt (P := fun j => !decide (v j = x)) c 0 j (Nat.zero_le _) (by omega)
    simp [e] at this
theorem hasV_c {v v2 : Nat → Int32} {c : Nat} (h : ∀ j, j < c → v2 j = v j) (x : Int32) : hasV v2 c x = hasV v c x := by
  unfold hasV
  rw [pf_c (P := fun j => !decide (v2 j = x)) (Q := fun j => !decide (v j = x)) c 0 (fun j _ hj => by show (!decide (v2 j = x)) = !decide (v j = x); rw [h j (by omega)])]
theorem has_eq {k v k2 v2 : Nat → Int32} {c : Nat} (h : Rel k v k2 v2 c) (w x : Int32) : hsD k v c w x = hsM k2 v2 c w x := by
  unfold hsD hsM
  by_cases q : w = 0
  · rw [if_pos q, if_pos q, hasV_c (fun j hj => (h.1 j hj).1)]
    by_cases z : atK k c (plc k c x.toInt64) x = true
    · rw [decide_eq_false (fun y => vOf_no.mp y z)]
      have h1 := atK_lt z
      have h2 : k (plc k c x.toInt64) = x := by simp [atK] at z; exact z.2
      exact (hasV_iff.mpr ⟨_, h1, h2⟩).symm
    · rw [decide_eq_true (vOf_no.mpr z)]
      cases hh : hasV k c x with
      | false => rfl
      | true =>
        obtain ⟨j, hj, e⟩ := hasV_iff.mp hh
        exfalso
        apply z
        have h1 : ¬ j < plc k c x.toInt64 := fun y => by
          have := i64_lt.mp (plc_lt y)
          rw [e] at this
          exact absurd this (Int32.lt_irrefl)
        have h2 : plc k c x.toInt64 = j := by
          rcases Nat.lt_or_eq_of_le (Nat.le_of_not_lt h1) with y | y
          · have h3 := h.2 _ _ y hj
            have h4 := plc_at (k := k) (c := c) (x := x.toInt64) (by omega)
            rw [i64_lt] at h4
            exact absurd (e ▸ h3) h4
          · exact y
        unfold atK
        rw [h2, decide_eq_true hj, decide_eq_true e]
        rfl
  · rw [if_neg q, if_neg q, hasV_c (fun j hj => (h.1 j hj).2)]
theorem vKy_eq {k v k2 v2 : Nat → Int32} {c : Nat} (h : Rel k v k2 v2 c) (fl : Bool) (z : Int) {b e f g : Nat} (hbe : b ≤ e) (hec : e ≤ c) (hv : (b = f ∧ e = g) ∨ (b = e ∧ f = g)) : vKy k b e fl z = vKy k2 f g fl z := by
  unfold vKy
  rcases hv with ⟨rfl, rfl⟩ | ⟨rfl, rfl⟩
  · by_cases q : 0 ≤ z ∧ z < (e : Int) - (b : Int)
    · rw [if_pos q, if_pos q, (h.1 (if fl = true then e - 1 - z.toNat else b + z.toNat) (by split <;> omega)).1]
    · rw [if_neg q, if_neg q]
  · rw [if_neg (by omega), if_neg (by omega)]
theorem wsm_c {k k2 : Nat → Int32} {g : Nat → Int64} {c : Nat} (hk : ∀ j, j < c → k2 j = k j) : ∀ (n i : Nat) (a : Int64), i + n ≤ c → wsm k2 g n i a = wsm k g n i a := by
  intro n
  induction n with
  | zero => intro i a _; rfl
  | succ n ih => intro i a h; rw [wsm, wsm, hk i (by omega), ih (i + 1) _ (by omega)]
theorem walk_eq {k v k2 v2 : Nat → Int32} {c : Nat} (h : Rel k v k2 v2 c) (fl : Bool) {b e f g : Nat} (hbe : b ≤ e) (hec : e ≤ c) (hv : (b = f ∧ e = g) ∨ (b = e ∧ f = g)) : wsm k (wpl b e fl) (e - b) b 0 = wsm k2 (wpl f g fl) (g - f) f 0 := by
  rcases hv with ⟨rfl, rfl⟩ | ⟨rfl, rfl⟩
  · exact (wsm_c (fun j hj => (h.1 j hj).1) _ _ _ (by omega)).symm
  · rw [Nat.sub_self, Nat.sub_self]; rfl
theorem RR_lo {gl : Bool} {lo : Int32} {ml gh : Bool} {hi : Int32} {mh : Bool} {a : Int64} {li : Bool} {b : Int64} {hn : Bool} (h : RR gl lo ml gh hi mh a li b hn) (x : Int32) (i : Bool) : RR true x i gh hi mh x.toInt64 i b hn := ⟨fun _ => ⟨rfl, rfl⟩, fun q => (by cases q), h.2.2.1, h.2.2.2⟩
theorem RR_hi {gl : Bool} {lo : Int32} {ml gh : Bool} {hi : Int32} {mh : Bool} {a : Int64} {li : Bool} {b : Int64} {hn : Bool} (h : RR gl lo ml gh hi mh a li b hn) (x : Int32) (i : Bool) : RR gl lo ml true x i a li x.toInt64 i := ⟨h.1, h.2.1, fun _ => ⟨rfl, rfl⟩, fun q => by cases q⟩
theorem RR_all (lo : Int32) (ml : Bool) (hi : Int32) (mh : Bool) : RR false lo ml false hi mh BA false BH false := ⟨fun q => (by cases q), fun _ => ⟨rfl, rfl⟩, fun q => (by cases q), fun _ => ⟨rfl, rfl⟩⟩
/-- what look and narrow leave of the range -/
def nwR (r : Option (Int64 × Bool × Int64 × Bool)) (S : mS) (a : Int64) (li : Bool) (b : Int64) (hn : Bool) : Prop := match r with
  | none => RR S.1 S.2.2.2.2.2.1 S.2.2.1 S.2.1 S.2.2.2.2.2.2 S.2.2.2.1 a li b hn
  | some q => RR S.1 S.2.2.2.2.2.1 S.2.2.1 S.2.1 S.2.2.2.2.2.2 S.2.2.2.1 q.1 q.2.1 q.2.2.1 q.2.2.2
def mtF (r : Option (Int64 × Bool × Int64 × Bool)) (a b : Bool) : Bool := match r with
  | none => a
  | some _ => b
def mtR (r : Option (Int64 × Bool × Int64 × Bool)) (d : Int64 × Bool × Int64 × Bool) : Int64 × Bool × Int64 × Bool := match r with
  | none => d
  | some q => q
theorem whole_may (x : Int32) (i : Bool) : mR BA false BH false x.toInt64 i = true := by
  rw [may_RR (RR_all 0 false 0 false) x i]
  cases i <;> rfl
theorem look_eq (kind f : Int32) (fi : Bool) (t : Int32) (ti : Bool) {gl gh ml mh fl : Bool} {lo hi : Int32} {a : Int64} {li : Bool} {b : Int64} {hn : Bool} (h : RR gl lo ml gh hi mh a li b hn) :
    lkA (prt BA false BH false kind f fi t ti false) = mLA kind f t ∧ nwR (prt BA false BH false kind f fi t ti false) (mLS kind f fi t ti gl gh ml mh fl lo hi) a li b hn ∧ (mLS kind f fi t ti gl gh ml mh fl lo hi).2.2.2.2.1 = mtF (prt BA false BH false kind f fi t ti false) fl false := by
  unfold prt mLA mLS
  simp only [whole_may, if_true]
  by_cases k0 : kind = 0
  · simp only [if_pos k0]
    exact ⟨rfl, RR_all _ _ _ _, by first | trivial | rfl⟩
  · simp only [if_neg k0]
    by_cases k1 : kind = 1
    · simp only [if_pos k1]
      exact ⟨rfl, RR_hi (RR_all lo ml hi mh) t ti, by first | trivial | rfl⟩
    · simp only [if_neg k1]
      by_cases k2 : kind = 2
      · simp only [if_pos k2]
        exact ⟨rfl, RR_lo (RR_all lo ml hi mh) f fi, by first | trivial | rfl⟩
      · simp only [if_neg k2]
        by_cases k3 : kind = 3
        · simp only [if_pos k3]
          by_cases q : t < f
          · simp only [if_neg (show ¬ false = true by decide), if_pos q]
            exact ⟨rfl, h, by first | trivial | rfl⟩
          · simp only [if_neg (show ¬ false = true by decide), if_neg q]
            exact ⟨rfl, RR_hi (RR_lo (RR_all lo ml hi mh) f fi) t ti, by first | trivial | rfl⟩
        · simp only [if_neg k3]
          exact ⟨rfl, h, by first | trivial | rfl⟩
theorem narrow_eq (kind f : Int32) (fi : Bool) (t : Int32) (ti : Bool) {gl gh ml mh fl : Bool} {lo hi : Int32} {a : Int64} {li : Bool} {b : Int64} {hn : Bool} (h : RR gl lo ml gh hi mh a li b hn) :
    lkA (prt a li b hn kind f fi t ti fl) = mNA kind f fi t ti gl gh ml mh fl lo hi ∧ nwR (prt a li b hn kind f fi t ti fl) (mNS kind f fi t ti gl gh ml mh fl lo hi) a li b hn ∧ (mNS kind f fi t ti gl gh ml mh fl lo hi).2.2.2.2.1 = fl := by
  unfold prt mNA mNS
  simp only [may_RR h]
  by_cases k0 : kind = 0
  · simp only [if_pos k0]
    exact ⟨rfl, h, by first | trivial | rfl⟩
  · simp only [if_neg k0]
    by_cases k1 : kind = 1
    · simp only [if_pos k1]
      by_cases m1 : mayM gl lo ml gh hi mh t ti = true
      · simp only [if_pos m1]
        cases fl
        · exact ⟨rfl, RR_hi h t ti, by first | trivial | rfl⟩
        · exact ⟨rfl, RR_lo h t ti, by first | trivial | rfl⟩
      · simp only [if_neg m1]
        exact ⟨rfl, h, by first | trivial | rfl⟩
    · simp only [if_neg k1]
      by_cases k2 : kind = 2
      · simp only [if_pos k2]
        by_cases m1 : mayM gl lo ml gh hi mh f fi = true
        · simp only [if_pos m1]
          cases fl
          · exact ⟨rfl, RR_lo h f fi, by first | trivial | rfl⟩
          · exact ⟨rfl, RR_hi h f fi, by first | trivial | rfl⟩
        · simp only [if_neg m1]
          exact ⟨rfl, h, by first | trivial | rfl⟩
      · simp only [if_neg k2]
        by_cases k3 : kind = 3
        · simp only [if_pos k3]
          by_cases m1 : mayM gl lo ml gh hi mh f fi = true
          · simp only [if_pos m1]
            by_cases m2 : mayM gl lo ml gh hi mh t ti = true
            · simp only [if_pos m2]
              cases fl
              · by_cases q : t < f
                · simp only [if_neg (show ¬ false = true by decide), if_pos q]
                  exact ⟨rfl, h, by first | trivial | rfl⟩
                · simp only [if_neg (show ¬ false = true by decide), if_neg q]
                  exact ⟨rfl, RR_hi (RR_lo h f fi) t ti, by first | trivial | rfl⟩
              · by_cases q : f < t
                · simp only [if_true, if_pos q]
                  exact ⟨rfl, h, by first | trivial | rfl⟩
                · simp only [if_true, if_neg q]
                  exact ⟨rfl, RR_lo (RR_hi h f fi) t ti, by first | trivial | rfl⟩
            · simp only [if_neg m2]
              exact ⟨rfl, h, by first | trivial | rfl⟩
          · simp only [if_neg m1]
            exact ⟨rfl, h, by first | trivial | rfl⟩
        · simp only [if_neg k3]
          exact ⟨rfl, h, by first | trivial | rfl⟩
