/-! what the methods compute, in plain functions: rows of keys k and values v, c of them in use -/
abbrev NO : Int64 := 1099511627776
abbrev OUT : Int64 := 1099511627777
/-- the first place from i on, within n, where P doesn't hold -/
def pf (P : Nat → Bool) : Nat → Nat → Nat
  | 0, i => i
  | n + 1, i => if P i = true then pf P n (i + 1) else i
theorem pf_t {P : Nat → Bool} {c i : Nat} (hi : i < c) (h : P i = true) : pf P (c - i) i = pf P (c - (i + 1)) (i + 1) := by
  obtain ⟨n, hn⟩ : ∃ n, c - i = n + 1 := ⟨c - i - 1, by omega⟩
  rw [hn, show c - (i + 1) = n by omega, pf, if_pos h]
theorem pf_f {P : Nat → Bool} {n i : Nat} (h : P i = false) : pf P n i = i := by
  cases n with
  | zero => rfl
  | succ n => rw [pf, if_neg (by rw [h]; decide)]
theorem pf_e {P : Nat → Bool} {c i : Nat} (h : c ≤ i) : pf P (c - i) i = i := by rw [show c - i = 0 by omega, pf]
theorem pf_ge {P : Nat → Bool} : ∀ (n i : Nat), i ≤ pf P n i := by
  intro n
  induction n with
  | zero => intro i; exact Nat.le_refl _
  | succ n ih =>
    intro i
    rw [pf]
    split
    · exact Nat.le_trans (Nat.le_succ i) (ih (i + 1))
    · exact Nat.le_refl _
theorem pf_le {P : Nat → Bool} : ∀ (n i : Nat), pf P n i ≤ i + n := by
  intro n
  induction n with
  | zero => intro i; exact Nat.le_refl _
  | succ n ih =>
    intro i
    rw [pf]
    split
    · have := ih (i + 1); omega
    · omega
theorem pf_lt {P : Nat → Bool} : ∀ (n i j : Nat), i ≤ j → j < pf P n i → P j = true := by
  intro n
  induction n with
  | zero => intro i j h1 h2; rw [pf] at h2; omega
  | succ n ih =>
    intro i j h1 h2
    rw [pf] at h2
    split at h2
    · rename_i h
      by_cases e : j = i
      · rw [e]; exact h
      · exact ih (i + 1) j (by omega) h2
    · omega
theorem pf_at {P : Nat → Bool} : ∀ (n i : Nat), pf P n i < i + n → P (pf P n i) = false := by
  intro n
  induction n with
  | zero => intro i h; rw [pf] at h; omega
  | succ n ih =>
    intro i h
    rw [pf] at h ⊢
    split at h
    · rename_i hh
      rw [if_pos hh]
      exact ih (i + 1) (by omega)
    · rename_i hh
      rw [if_neg hh]
      cases hP : P i with
      | true => exact absurd hP hh
      | false => rfl
theorem pf_c {P Q : Nat → Bool} : ∀ (n i : Nat), (∀ j, i ≤ j → j < i + n → P j = Q j) → pf P n i = pf Q n i := by
  intro n
  induction n with
  | zero => intro i _; rfl
  | succ n ih =>
    intro i h
    rw [pf, pf, h i (Nat.le_refl _) (by omega), ih (i + 1) (fun j h1 h2 => h j (by omega) (by omega))]
/-- where the first key stands that is not below x -/
def plc (k : Nat → Int32) (c : Nat) (x : Int64) : Nat := pf (fun j => decide ((k j).toInt64 < x)) c 0
theorem plc_le (k : Nat → Int32) (c : Nat) (x : Int64) : plc k c x ≤ c := by
  have := pf_le (P := fun j => decide ((k j).toInt64 < x)) c 0
  unfold plc
  omega
/-- the key at z, if z is from b up to before e -/
def kW (k : Nat → Int32) (z : Int) (b e : Nat) : Int64 := if (b : Int) ≤ z ∧ z < (e : Int) then (k z.toNat).toInt64 else NO
/-- is the key x at j -/
def atK (k : Nat → Int32) (c j : Nat) (x : Int32) : Bool := decide (j < c) && decide (k j = x)
/-- the value of a key -/
def vOf (k v : Nat → Int32) (c : Nat) (x : Int32) : Int64 := if atK k c (plc k c x.toInt64) x = true then (v (plc k c x.toInt64)).toInt64 else NO
/-- is the value there -/
def hasV (v : Nat → Int32) (c : Nat) (x : Int32) : Bool := decide (pf (fun j => !decide (v j = x)) c 0 < c)
/-- a row with x put in at p, of c in use -/
def insA (k : Nat → Int32) (p c : Nat) (x : Int32) : Nat → Int32 := fun j => if j = p then x else if p < j ∧ j ≤ c then k (j - 1) else k j
/-- the loop of dropLeaving -/
def clp (G : Int32 → Bool) (e : Nat) : Nat → Nat → Nat → (Nat → Int32) → (Nat → Int32) → Nat × (Nat → Int32) × (Nat → Int32)
  | 0, _, t, k, v => (t, k, v)
  | n + 1, i, t, k, v => if (decide (i < e) && G (k i)) = true then clp G e n (i + 1) t k v else clp G e n (i + 1) (t + 1) (upd k t (k i)) (upd v t (v i))
/-- Math.floorMod -/
def fMod (x y : Int32) : Int32 := if x ^^^ y < 0 ∧ ¬ x - x / y * y = 0 then (x - x / y * y) + y else x - x / y * y
def gLeav (step rest : Int32) : Int32 → Bool := fun x => decide (fMod x step = rest)
def dlK (step rest : Int32) (b e c : Nat) (k v : Nat → Int32) : Nat × (Nat → Int32) × (Nat → Int32) := clp (gLeav step rest) e (c - b) b b k v
theorem clp_le (G : Int32 → Bool) (e : Nat) : ∀ (n i t : Nat) (k v : Nat → Int32), t ≤ (clp G e n i t k v).1 ∧ (clp G e n i t k v).1 ≤ t + n := by
  intro n
  induction n with
  | zero => intro i t k v; exact ⟨Nat.le_refl _, Nat.le_refl _⟩
  | succ n ih =>
    intro i t k v
    rw [clp]
    split
    · have := ih (i + 1) t k v; omega
    · have := ih (i + 1) (t + 1) (upd k t (k i)) (upd v t (v i)); omega
