/-! the law's world: class and model side by side -/
def AD (sz aD aE aK aV aW aR aM aA aB : Nat) : Prop := ([aD, aE, aK, aV] : List Nat).Nodup ∧ ([aM, aA, aB] : List Nat).Nodup ∧ (¬ aR ∈ ([aD, aE, aK, aV] : List Nat)) ∧ (¬ aW ∈ ([aD, aE, aK, aV] : List Nat)) ∧ (∀ q ∈ ([aM, aA, aB] : List Nat), ¬ q ∈ ([aD, aE, aK, aV] : List Nat)) ∧ (¬ aR ∈ ([aM, aA, aB] : List Nat)) ∧ (¬ aW ∈ ([aM, aA, aB] : List Nat)) ∧ (∀ q ∈ ([aD, aE, aK, aV] : List Nat), sz ≤ q) ∧ (∀ q ∈ ([aM, aA, aB] : List Nat), sz ≤ q) ∧ sz ≤ aR ∧ sz ≤ aW
def LW (D : va_G) (cy cy2 : ClassId) (aD aE aK aV aW aR aM aA aB : Nat) (k v : Nat → Int32) (c : Nat) (lo : Int64) (li : Bool) (hi : Int64) (hn fl : Bool) (k2 v2 : Nat → Int32) (c2 : Nat) (gl gh ml mh f2 : Bool) (mlo mhi : Int32) (H : Heap) : Prop :=
  va_P D vwCl (d4 cy aD aE aK aV aW aR k v c fl) H ∧ va_P D vwCl (rgW aR lo li hi hn) H ∧ va_P D vwCl (rgW aW BA false BH false) H ∧ va_P D vwCl (mW cy2 aM aA aB k2 v2 c2 gl gh ml mh f2 mlo mhi) H
section LWS
variable {sz : Nat} {D : va_G} {cy cy2 : ClassId} {aD aE aK aV aW aR aM aA aB : Nat} {k v : Nat → Int32} {c : Nat} {lo : Int64} {li : Bool} {hi : Int64} {hn fl : Bool} {k2 v2 : Nat → Int32} {c2 : Nat} {gl gh ml mh f2 : Bool} {mlo mhi : Int32} {H H1 : Heap}
theorem LW_5 (h : LW D cy cy2 aD aE aK aV aW aR aM aA aB k v c lo li hi hn fl k2 v2 c2 gl gh ml mh f2 mlo mhi H) : va_P D vwCl (dW cy aD aE aK aV aW aR k v c lo li hi hn fl) H := va_P.app h.1 h.2.1
theorem LW_W (h : LW D cy cy2 aD aE aK aV aW aR aM aA aB k v c lo li hi hn fl k2 v2 c2 gl gh ml mh f2 mlo mhi H) : va_P D vwCl (dW cy aD aE aK aV aW aR k v c lo li hi hn fl) H ∧ va_P D vwCl ((d4 cy aD aE aK aV aW aR k v c fl) ++ (rgW aW BA false BH false)) H := ⟨va_P.app h.1 h.2.1, va_P.app h.1 h.2.2.1⟩
/-- the entries have changed -/
theorem LW_E {k' v' : Nat → Int32} {c' : Nat} (n : AD sz aD aE aK aV aW aR aM aA aB) (h : LW D cy cy2 aD aE aK aV aW aR aM aA aB k v c lo li hi hn fl k2 v2 c2 gl gh ml mh f2 mlo mhi H) (hB : va_P D vwCl (dW cy aD aE aK aV aW aR k' v' c' lo li hi hn fl) H1) (hk : ∀ q : Nat, q < H.size → ¬ mA [aE, aK, aV] H.size q → H1[q]? = H[q]?) : LW D cy cy2 aD aE aK aV aW aR aM aA aB k' v' c' lo li hi hn fl k2 v2 c2 gl gh ml mh f2 mlo mhi H1 := by
  obtain ⟨n4, n3, r4, w4, mE, rM, wM, g4, g3, gR, gW⟩ := n
  exact ⟨hB.sub [0, 1, 2, 3] rfl, hB.sub [4] rfl, P_keepM h.2.2.1 (fun q hq z => w4 (by have e : q = aW := List.mem_singleton.mp hq; rw [← e]; exact List.mem_cons_of_mem _ z)) hk, P_keepM h.2.2.2 (fun q hq z => mE q hq (List.mem_cons_of_mem _ z)) hk⟩
theorem one_in {a b : Nat} {L : List Nat} (h : ¬ a ∈ b :: L) : ¬ a ∈ [b] := fun z => h (by rw [List.mem_singleton.mp z]; exact List.mem_cons_self)
/-- the direction has changed -/
theorem LW_T {f' : Bool} (n : AD sz aD aE aK aV aW aR aM aA aB) (h : LW D cy cy2 aD aE aK aV aW aR aM aA aB k v c lo li hi hn fl k2 v2 c2 gl gh ml mh f2 mlo mhi H) (hB : va_P D vwCl (dW cy aD aE aK aV aW aR k v c lo li hi hn f') H1) (hk : ∀ q : Nat, q < H.size → ¬ mA [aD] H.size q → H1[q]? = H[q]?) : LW D cy cy2 aD aE aK aV aW aR aM aA aB k v c lo li hi hn f' k2 v2 c2 gl gh ml mh f2 mlo mhi H1 := by
  obtain ⟨n4, n3, r4, w4, mE, rM, wM, g4, g3, gR, gW⟩ := n
  exact ⟨hB.sub [0, 1, 2, 3] rfl, hB.sub [4] rfl, P_keepM h.2.2.1 (fun q hq => by rw [List.mem_singleton.mp hq]; exact one_in w4) hk, P_keepM h.2.2.2 (fun q hq => one_in (mE q hq)) hk⟩
/-- the view is the whole again -/
theorem LW_A (n : AD sz aD aE aK aV aW aR aM aA aB) (h : LW D cy cy2 aD aE aK aV aW aR aM aA aB k v c lo li hi hn fl k2 v2 c2 gl gh ml mh f2 mlo mhi H) (hB : va_P D vwCl (d4 cy aD aE aK aV aW aW k v c false) H1) (hk : ∀ q : Nat, q < H.size → ¬ mA [aD] H.size q → H1[q]? = H[q]?) : LW D cy cy2 aD aE aK aV aW aW aM aA aB k v c BA false BH false false k2 v2 c2 gl gh ml mh f2 mlo mhi H1 := by
  obtain ⟨n4, n3, r4, w4, mE, rM, wM, g4, g3, gR, gW⟩ := n
  have hw : va_P D vwCl (rgW aW BA false BH false) H1 := P_keepM h.2.2.1 (fun q hq => by rw [List.mem_singleton.mp hq]; exact one_in w4) hk
  exact ⟨hB, hw, hw, P_keepM h.2.2.2 (fun q hq => one_in (mE q hq)) hk⟩
theorem AD_N {u : Nat} (n : AD sz aD aE aK aV aW aR aM aA aB) (h : u = aW ∨ u = aR ∨ (∀ q ∈ ([aD, aE, aK, aV] : List Nat), q < u) ∧ (∀ q ∈ ([aM, aA, aB] : List Nat), q < u) ∧ sz ≤ u) : AD sz aD aE aK aV aW u aM aA aB := by
  obtain ⟨n4, n3, r4, w4, mE, rM, wM, g4, g3, gR, gW⟩ := n
  rcases h with rfl | rfl | ⟨h1, h2, h3⟩
  · exact ⟨n4, n3, w4, w4, mE, wM, wM, g4, g3, gW, gW⟩
  · exact ⟨n4, n3, r4, w4, mE, rM, wM, g4, g3, gR, gW⟩
  · exact ⟨n4, n3, fun z => Nat.lt_irrefl _ (h1 u z), w4, mE, fun z => Nat.lt_irrefl _ (h2 u z), wM, g4, g3, h3, gW⟩
theorem AD_A (n : AD sz aD aE aK aV aW aR aM aA aB) : AD sz aD aE aK aV aW aW aM aA aB := AD_N n (Or.inl rfl)
/-- the model has changed -/
theorem LW_M {k' v' : Nat → Int32} {c' : Nat} {gl' gh' ml' mh' f' : Bool} {mlo' mhi' : Int32} (n : AD sz aD aE aK aV aW aR aM aA aB) (h : LW D cy cy2 aD aE aK aV aW aR aM aA aB k v c lo li hi hn fl k2 v2 c2 gl gh ml mh f2 mlo mhi H) (hB : va_P D vwCl (mW cy2 aM aA aB k' v' c' gl' gh' ml' mh' f' mlo' mhi') H1) (hk : ∀ q : Nat, q < H.size → ¬ mA [aM, aA, aB] H.size q → H1[q]? = H[q]?) : LW D cy cy2 aD aE aK aV aW aR aM aA aB k v c lo li hi hn fl k' v' c' gl' gh' ml' mh' f' mlo' mhi' H1 := by
  obtain ⟨n4, n3, r4, w4, mE, rM, wM, g4, g3, gR, gW⟩ := n
  exact ⟨P_keepM h.1 (fun q hq z => mE q z hq) hk, P_keepM h.2.1 (fun q hq => by rw [List.mem_singleton.mp hq]; exact rM) hk, P_keepM h.2.2.1 (fun q hq => by rw [List.mem_singleton.mp hq]; exact wM) hk, hB⟩
theorem P_lt {D : va_G} {cl : List vw_C} {ws : va_W} {H : Heap} (h : va_P D cl ws H) : ∀ q ∈ ws.map Prod.fst, q < H.size := by
  intro q hq
  obtain ⟨x, hx, rfl⟩ := List.mem_map.mp hq
  obtain ⟨i, hi⟩ := List.getElem?_of_mem hx
  exact (h i x hi).lt
/-- look or narrow: the answer 1 changes nothing, 0 gives another range -/
theorem LW_L {aX u : Nat} {f' : Bool} {r : Option (Int64 × Bool × Int64 × Bool)} (hX : aX = aW ∨ aX = aR) (n : AD sz aD aE aK aV aW aR aM aA aB) (h : LW D cy cy2 aD aE aK aV aW aR aM aA aB k v c lo li hi hn fl k2 v2 c2 gl gh ml mh f2 mlo mhi H) (hB : lkB D cy aD aE aK aV aW aR k v c fl f' aX H.size r u H1) (hk : ∀ q : Nat, q < H.size → ¬ mA [aD] H.size q → H1[q]? = H[q]?) (hz : sz ≤ H.size) :
    ∃ (lo' : Int64) (li' : Bool) (hi' : Int64) (hn' : Bool), AD sz aD aE aK aV aW u aM aA aB ∧ LW D cy cy2 aD aE aK aV aW u aM aA aB k v c lo' li' hi' hn' (mtF r fl f') k2 v2 c2 gl gh ml mh f2 mlo mhi H1 ∧ (lo', li', hi', hn') = mtR r (lo, li, hi, hn) := by
  have n0 := n
  obtain ⟨n4, n3, r4, w4, mE, rM, wM, g4, g3, gR, gW⟩ := n
  have hw : va_P D vwCl (rgW aW BA false BH false) H1 := P_keepM h.2.2.1 (fun q hq => by rw [List.mem_singleton.mp hq]; exact one_in w4) hk
  have hm := P_keepM h.2.2.2 (fun q hq => one_in (mE q hq)) hk
  cases r with
  | none =>
    obtain ⟨rfl, h1⟩ := hB
    exact ⟨lo, li, hi, hn, n0, ⟨h1, P_keepM h.2.1 (fun q hq => by rw [List.mem_singleton.mp hq]; exact one_in r4) hk, hw, hm⟩, rfl⟩
  | some q =>
    obtain ⟨hu, h1, h2⟩ := hB
    refine ⟨q.1, q.2.1, q.2.2.1, q.2.2.2, AD_N n0 ?_, ⟨h1, h2, hw, hm⟩, rfl⟩
    rcases hu with rfl | hu
    · rcases hX with rfl | rfl
      · exact Or.inl rfl
      · exact Or.inr (Or.inl rfl)
    · exact Or.inr (Or.inr ⟨fun q hq => Nat.lt_of_lt_of_le (P_lt h.1 q hq) hu, fun q hq => Nat.lt_of_lt_of_le (P_lt h.2.2.2 q hq) hu, Nat.le_trans hz hu⟩)
end LWS
/-- what holds between two calls of the law: q of them done -/
def LI (D : va_G) (s : State) (b q : Nat) (pos : Int32) (H : Heap) (locs : List Loc) (ls : Array Slot) : Prop :=
  ∃ (cy cy2 : ClassId) (aD aE aK aV aW aR aM aA aB : Nat) (k v : Nat → Int32) (c : Nat) (lo : Int64) (li : Bool) (hi : Int64) (hn fl : Bool) (k2 v2 : Nat → Int32) (c2 : Nat) (gl gh ml mh f2 : Bool) (mlo mhi : Int32),
    va_K D vwCl [(cy, .int), (cy2, .int)] s ∧ va_S (fun q => s.heap.size ≤ q) s.heap H locs ∧ AD s.heap.size aD aE aK aV aW aR aM aA aB ∧ LW D cy cy2 aD aE aK aV aW aR aM aA aB k v c lo li hi hn fl k2 v2 c2 gl gh ml mh f2 mlo mhi H ∧ Rel k v k2 v2 c ∧ RR gl mlo ml gh mhi mh lo li hi hn ∧ c ≤ q ∧ c2 = c ∧ f2 = fl ∧ lv_has ls 4 [(0, .ref b), (1, .ref aD), (2, .ref aM), (3, .int pos)]
theorem mA_ge {L : List Nat} {s0 s1 q : Nat} (h : ∀ a ∈ L, s0 ≤ a) (hs : s0 ≤ s1) (hq : mA L s1 q) : s0 ≤ q := hq.elim (h q) (fun z => Nat.le_trans hs z)
theorem st_le {k : Nat → Int32} {c : Nat} {x : Int32} : stC k c x ≤ c + 1 := by unfold stC; split <;> omega
theorem dl_le {step rest : Int32} {b e c : Nat} {k v : Nat → Int32} (hb : b ≤ c) : (dlK step rest b e c k v).1 ≤ c := by
  have := (clp_le (gLeav step rest) e (c - b) b b k v).2
  unfold dlK
  omega
theorem ad_le {k v : Nat → Int32} {c : Nat} {x y : Int32} : (adT k v c x y).1 ≤ c + 1 := by
  unfold adT
  split
  · exact st_le
  · exact Nat.le_succ c
theorem dr_le {k v : Nat → Int32} {c : Nat} {x : Int32} : (drp k v c x).1 ≤ c := by
  unfold drp
  split
  · exact dl_le (plc_le _ _ _)
  · exact Nat.le_refl _
theorem pl_le {k v : Nat → Int32} {c : Nat} {g : Bool} {b e : Nat} (hec : e ≤ c) : (plP k v c g b e).1 ≤ c := by
  unfold plP
  split
  · exact Nat.le_refl _
  · rename_i h
    have := kW_in h
    exact dl_le (by omega)
theorem vput_Rel {k v k2 v2 : Nat → Int32} {c : Nat} (h : Rel k v k2 v2 c) (i : Bool) (x y : Int32) : RelT (vPT k v c i x y) (vPT k2 v2 c i x y) ∧ (vPT k v c i x y).1 ≤ c + 1 := by
  unfold vPT
  cases i
  · exact ⟨⟨rfl, h⟩, Nat.le_succ c⟩
  · exact ⟨put_Rel h x y, st_le⟩
theorem vrem_Rel {k v k2 v2 : Nat → Int32} {c : Nat} (h : Rel k v k2 v2 c) (i : Bool) (x : Int32) : RelT (vRT k v c i x) (vMT k2 v2 c i x) ∧ (vRT k v c i x).1 ≤ c := by
  unfold vRT vMT
  cases i
  · exact ⟨⟨rfl, h⟩, Nat.le_refl c⟩
  · exact ⟨rem_Rel h x, dr_le⟩
theorem sw_Rel {k v k2 v2 : Nat → Int32} {c : Nat} (h : Rel k v k2 v2 c) (step rest : Int32) {b e f g : Nat} (hbe : b ≤ e) (hec : e ≤ c) (hv : (b = f ∧ e = g) ∨ (b = e ∧ f = g)) :
    RelT (dlS step rest b e c k v) (msT step rest f g c k2 v2).2 ∧ (dlS step rest b e c k v).1 ≤ c ∧ (if step < 1 then (-1) else nI (c - (dlK step rest b e c k v).1)) = (if step < 1 then (-1) else nI (msT step rest f g c k2 v2).1) := by
  unfold dlS msT
  by_cases q : step < 1
  · simp only [if_pos q]
    exact ⟨⟨rfl, h⟩, Nat.le_refl _, by first | trivial | rfl⟩
  · simp only [if_neg q]
    rcases hv with ⟨rfl, rfl⟩ | ⟨rfl, rfl⟩
    · obtain ⟨h1, h2⟩ := sweep_Rel h step rest hbe hec
      exact ⟨h1, dl_le (by omega), by rw [h2]⟩
    · obtain ⟨h1, h2⟩ := sweep_0 (f := f) h step rest (show b ≤ c by omega)
      exact ⟨h1, dl_le (by omega), by rw [h2]⟩
theorem clr_Rel {k v k2 v2 : Nat → Int32} {c : Nat} (h : Rel k v k2 v2 c) : RelT (dlK 1 0 0 c c k v) (0, k2, v2) ∧ nI (c - (dlK 1 0 0 c c k v).1) = nI c := by
  have e := dl1_c k v (Nat.zero_le c) (Nat.le_refl c)
  have e0 : (dlK 1 0 0 c c k v).1 = 0 := by omega
  refine ⟨⟨e0.symm, fun j hj => ?_, fun i j _ hj => ?_⟩, by rw [e0, Nat.sub_zero]⟩
  · rw [e0] at hj; omega
  · rw [e0] at hj; omega
theorem vcl_A {k v : Nat → Int32} {c b e f g : Nat} (hbe : b ≤ e) (hec : e ≤ c) (hv : (b = f ∧ e = g) ∨ (b = e ∧ f = g)) : nI (c - (dlK 1 0 b e c k v).1) = nI (g - f) := by
  rw [dl1_c k v hbe hec]
  congr 1
  rcases hv with ⟨rfl, rfl⟩ | ⟨rfl, rfl⟩ <;> omega
theorem vsz_A {b e f g : Nat} (hv : (b = f ∧ e = g) ∨ (b = e ∧ f = g)) : nI (e - b) = nI (g - f) := by
  congr 1
  rcases hv with ⟨rfl, rfl⟩ | ⟨rfl, rfl⟩ <;> omega
theorem nwR_use {r : Option (Int64 × Bool × Int64 × Bool)} {S : mS} {a : Int64} {li : Bool} {b : Int64} {hn : Bool} {lo' : Int64} {li' : Bool} {hi' : Int64} {hn' : Bool} (h : nwR r S a li b hn) (e : (lo', li', hi', hn') = mtR r (a, li, b, hn)) : RR S.1 S.2.2.2.2.2.1 S.2.2.1 S.2.1 S.2.2.2.2.2.2 S.2.2.2.1 lo' li' hi' hn' := by
  cases r with
  | none => cases e; exact h
  | some q => cases e; exact h
theorem mt_same {r : Option (Int64 × Bool × Int64 × Bool)} {f : Bool} : mtF r f f = f := by cases r <;> rfl
section LK
variable {p : Program} {l : Launch} {e : Env} {R : Room} {s : State} {m : MethodId} {args : Array Value} {below : List Frame} {meth : Method} {c : Code} {H : Heap} {locs : List Loc} {cells slots : Nat} {Q : State → Prop}
variable {cc : ByteArray} {pc : Nat} {ls : Array Slot} {rest : List Value} {A : Nat → Prop} {H0 : Heap}
theorem s_ld {b L j : Nat} {xs : Nat → Int32} (hx : p.tables.exec = Jvm.exec) (hb : c.code = cc) (hX : va_X b L xs s H0) (hbl : b < H0.size) (hbA : ¬ A b) (hS : va_S A H0 H locs) (hj : j < L) (hL : L < 2 ^ 31) (hdg : decode cc pc = .ok (.iaload, 1)) (kk : W p l e R s m args below meth c H locs cells slots Q (F0 m (pc + 1) ls (.int (xs j) :: rest))) : W p l e R s m args below meth c H locs cells slots Q (F0 m pc ls (.int (nI j) :: .ref b :: rest)) := by
  refine va_sld hx hb hX hbl hbA hS (vp_in_nI hj hL) hdg ?_
  rw [nI_clamp (by omega)]
  exact kk
theorem W_loopC {ι : Type} (I : ι → Heap → List Loc → Array Slot → Prop) (μ cf sf : ι → Nat) (step : ∀ (x : ι) (H : Heap) (locs : List Loc) (ls : Array Slot), I x H locs ls → (∀ (y : ι) (H' : Heap) (locs' : List Loc) (ls' : Array Slot), μ y < μ x → I y H' locs' ls' → W p l e R s m args below meth c H' locs' (cf y) (sf y) Q (F0 m pc ls' [])) → W p l e R s m args below meth c H locs (cf x) (sf x) Q (F0 m pc ls [])) (x : ι) (h : I x H locs ls) : W p l e R s m args below meth c H locs (cf x) (sf x) Q (F0 m pc ls []) := by
  have key : ∀ (n : Nat) (x : ι) (H : Heap) (locs : List Loc) (ls : Array Slot), μ x < n → I x H locs ls → W p l e R s m args below meth c H locs (cf x) (sf x) Q (F0 m pc ls []) := by
    intro n
    induction n with
    | zero => intro x H locs ls h; exact absurd h (Nat.not_lt_zero _)
    | succ n ih => intro x H locs ls hn hI; exact step x H locs ls hI (fun y H' locs' ls' hy hI' => ih y H' locs' ls' (by omega) hI')
  exact key (μ x + 1) x H locs ls (Nat.lt_succ_self _) h
end LK
