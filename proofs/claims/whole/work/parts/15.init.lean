/-! the constructors (written by wip/gen/xi.py) -/
theorem ret_vX {p : Program} {l : Launch} {e : Env} {R : Room} {s : State} {m : MethodId} {args : Array Value} {below : List Frame} {meth : Method} {c : Code} {H : Heap} {locs : List Loc} {cells slots : Nat} {cc : ByteArray} {pc : Nat} {ls : Array Slot} {A : Nat → Prop} {S : Type} {vf : S → Option Value} {B : S → State → Prop} (hx : p.tables.exec = Jvm.exec) (hb : c.code = cc) (hr : meth.sig.returnType = none) (hlocks : meth.locks = false) (hdg : decode cc pc = .ok (.return_, 1)) (hS : va_S A s.heap H locs) (u : S) (hv : vf u = none) (hB : ∀ t : State, t.heap = H → s.vm.Alike t.vm → B u t) : W p l e R s m args below meth c H locs cells slots (MQ below (qX vf B A) args s cells slots A) (F0 m pc ls []) :=
  W.vret hx hb hr (fun t ht hW => ⟨⟨u, by rw [hv], hB t ht hW.alike⟩, hS.F ht⟩) hS.2.2 hdg hlocks
theorem met_G {l : Launch} {y : MethodName} {ws ws' : List Cond} {rm : Room} {av : List Value} {B : State → Prop} {Qc : Array Value → State → Outcome → State → Prop} {mc ms : Nat} {free : Addr → Prop} {cc : ByteArray} {maxL : Nat} {ret : Option FieldType} (hy : plainName y.cls = true) (hw : ws = Cond.code y cc maxL ret :: ws') (hL : (lg_sl av).length ≤ maxL)
    (body : ∀ (p : Program) (e : Env) (s : State) (m : MethodId) (below : List Frame) (meth : Method) (c : Code) (ls : Array Slot), p.tables.exec = Jvm.exec → c.code = cc → meth.sig.returnType = ret → (∀ w ∈ ws, w.before av.toArray s = true) → s.vm.findClass y.cls = some m.cls → meth.locks = false → c.maxLocals = maxL → meth.name = y.name → B s → lv_has ls maxL (lv_args 0 av) →
      W p l e rm s m av.toArray below meth c s.heap [] 0 0 (MQ below Qc av.toArray s mc ms free) (F0 m 0 ls [])) : Met l y ws rm (va_Pc av B) Qc mc ms free := by
  refine Met.ofW (cc := cc) (maxL := maxL) (ret := ret) hy hw ?_
  intro p e s m args below meth c s₁ B hml hv
  obtain ⟨rfl, hP⟩ := hv
  have hl := lv_entry av (n := maxL) hL
  rw [lg_entry_eq]
  exact body p e s m below meth c _ B.exec B.bytes B.returns (atoms_spec (ws := ws) B.pre) (findClass_of_methodNamed B.named) B.notSynchronized hml (name_of_methodNamed B.named B.method).1 hP hl
def z32 : Nat → Int32 := fun _ => 0
def initE (D : va_G) (aE sz : Nat) (u : Nat × Nat × ClassId) (t : State) : Prop := va_P D vwCl (eW u.2.2 aE u.1 u.2.1 z32 z32 0) t.heap ∧ va_K D vwCl [(u.2.2, .int)] t ∧ sz ≤ u.1 ∧ sz ≤ u.2.1 ∧ ¬ u.1 = u.2.1
def initM (D : va_G) (aM sz : Nat) (u : Nat × Nat × ClassId) (t : State) : Prop := va_P D vwCl (mW u.2.2 aM u.1 u.2.1 z32 z32 0 false false false false false 0 0) t.heap ∧ va_K D vwCl [(u.2.2, .int)] t ∧ sz ≤ u.1 ∧ sz ≤ u.2.1 ∧ ¬ u.1 = u.2.1
abbrev BA : Int64 := -2147483649
abbrev BH : Int64 := 2147483648
def initD (D : va_G) (aD sz : Nat) (u : Nat × Nat × Nat × Nat × ClassId) (t : State) : Prop := va_P D vwCl (dW u.2.2.2.2 aD u.1 u.2.1 u.2.2.1 u.2.2.2.1 u.2.2.2.1 z32 z32 0 BA false BH false false) t.heap ∧ va_K D vwCl [(u.2.2.2.2, .int)] t ∧ sz ≤ u.1 ∧ sz ≤ u.2.1 ∧ sz ≤ u.2.2.1 ∧ sz ≤ u.2.2.2.1 ∧ ([u.1, u.2.1, u.2.2.1] : List Nat).Nodup ∧ ¬ u.2.2.2.1 ∈ ([u.1, u.2.1, u.2.2.1] : List Nat)
abbrev nestE : Cond := .methodLinkNest RX2 11 yX0_init RX2
set_option maxHeartbeats 4000000 in
set_option maxRecDepth 100000 in
/-- Entries() -/
theorem c_X0_init (l : Launch) (D : va_G) (aE sz : Nat) : Met l yX0_init wsX0_init ({ frames := 1, cells := 2, slots := 1024, locals := 12 } : Room) (pcZ D [] [.ref aE] [(aE, .inr (0, [.null, .null, .int 0]))] sz) (qX (fun _ : Nat × Nat × ClassId => none) (fun u t => initE D aE sz u t) (mA [aE] sz)) 2 1024 (mA [aE] sz) := by
  refine met_Z (cc := cX0_init) (maxL := 1) (ret := none) (by decide +kernel) rfl (Nat.le_of_ble_eq_true rfl) ?_
  intro pM eM s mM below meth cM ls hx hb hr hts hown hlocks hml hnm hsz hK hP hl
  have hown : s.vm.findClass RX0 = some mM.cls := hown
  have hl : lv_has ls 1 [(0, .ref aE)] := hl
  have hin_X0 : ∀ w ∈ wsX00, w ∈ wsX0_init := by decide +kernel
  have kf_15 := hts (.fieldLink RX0 15 "OrderedDesk$Entries" "values" "[I") (by decide +kernel)
  have kf_18 := hts (.fieldLink RX0 18 "OrderedDesk$Entries" "count" "I") (by decide +kernel)
  have kf_9 := hts (.fieldLink RX0 9 "OrderedDesk$Entries" "keys" "[I") (by decide +kernel)
  have hP : va_P D vwCl [(aE, .inr (0, [.null, .null, .int 0]))] s.heap := hP
  subst hsz
  have ndw := (List.nodup_cons.mpr ⟨List.not_mem_nil, List.nodup_nil⟩ : ([aE] : List Nat).Nodup)
  have hA : ∀ q : Nat, s.heap.size ≤ q → mA [aE] s.heap.size q := fun q h => Or.inr h
  have hAw : ∀ q ∈ ([aE] : List Nat), mA [aE] s.heap.size q := fun q h => Or.inl h
  have hS : va_S (mA [aE] s.heap.size) s.heap s.heap [] := va_S.rf
  have hD : va_D (mA [aE] s.heap.size) [(aE, .inr (0, [.null, .null, .int 0]))] := D_of ndw hAw
  refine lv_aload_n hx hb dX0_init_0 rfl (lv_at hl 0 rfl) ?_
  refine W.objInit hx hb hown (hts (.methodLink RX0 3 objectInit) (by decide +kernel)) (hts (.instanceMethod objectInit) (by decide +kernel)) (hts (.code objectInit ⟨#[0xb1]⟩ 1 none) (by decide +kernel)) rfl (by rw [hml]; exact hl.1) rfl dX0_init_1 (Nat.le_of_ble_eq_true rfl) (Nat.le_of_ble_eq_true rfl) ?_
  refine W.eq (g2 := F0 mM 4 ls []) rfl ?_
  refine lv_aload_n hx hb dX0_init_4 rfl (lv_at hl 0 rfl) ?_
  refine lv_sipush (v := 512) hx hb dX0_init_5 (by decide) ?_
  refine va_newa (atype := .int) (ty := .int) (a0 := (512, .inl z32)) (N' := 512) hx hb (hts (.arrayClass .int) (by decide +kernel)) rfl hK hP hD hS hA (fun _ => rfl) (by decide) (by decide) (by decide) (Nat.le_of_ble_eq_true rfl) (Nat.le_of_ble_eq_true rfl) dX0_init_8 (fun q1 cA1 H hK hP hD hS => ?_)
  have hP : va_P D vwCl [(aE, .inr (0, [.null, .null, .int 0])), (q1, .inl (cA1, 512, .inl z32))] H := hP
  have hD : va_D _ [(aE, .inr (0, [.null, .null, .int 0])), (q1, .inl (cA1, 512, .inl z32))] := hD
  have hK : va_K D vwCl [(cA1, .int)] s := hK
  have hq1 : s.heap.size ≤ q1 := (hD.2 1 _ rfl).elim (fun h => absurd (hD.1 1 0 _ _ rfl rfl (List.mem_singleton.mp h)) (by decide)) id
  refine W.widen (k := 1) (n := 512) (by decide) (by decide) ?_
  refine va_putF (ci := 0) (v := .ref q1) (ty := .array .int) (C := RX0) (T := TX0) (N := 3) hx hb hts hin_X0 tyX0 tyX0_ok nmX0 hown hK hP hD hS 0 rfl rfl 0 (by decide) kf_9 (fun _ h9 => h9) rfl hnm rfl (by decide +kernel) rfl rfl (Nat.le_of_ble_eq_true rfl) dX0_init_10 (fun H locs hP hD hS => ?_)
  have hP : va_P D vwCl [(aE, .inr (0, [.ref q1, .null, .int 0])), (q1, .inl (cA1, 512, .inl z32))] H := hP
  have hD : va_D _ [(aE, .inr (0, [.ref q1, .null, .int 0])), (q1, .inl (cA1, 512, .inl z32))] := hD
  refine lv_aload_n hx hb dX0_init_13 rfl (lv_at hl 0 rfl) ?_
  refine lv_sipush (v := 512) hx hb dX0_init_14 (by decide) ?_
  refine va_newa (atype := .int) (ty := .int) (a0 := (512, .inl z32)) (N' := 512) hx hb (hts (.arrayClass .int) (by decide +kernel)) rfl hK hP hD hS hA (fun _ => rfl) (by decide) (by decide) (by decide) (Nat.le_of_ble_eq_true rfl) (Nat.le_of_ble_eq_true rfl) dX0_init_17 (fun q2 cA2 H hK hP hD hS => ?_)
  have hP : va_P D vwCl [(aE, .inr (0, [.ref q1, .null, .int 0])), (q1, .inl (cA1, 512, .inl z32)), (q2, .inl (cA2, 512, .inl z32))] H := hP
  have hD : va_D _ [(aE, .inr (0, [.ref q1, .null, .int 0])), (q1, .inl (cA1, 512, .inl z32)), (q2, .inl (cA2, 512, .inl z32))] := hD
  have hK : va_K D vwCl [(cA1, .int), (cA2, .int)] s := hK
  have hq2 : s.heap.size ≤ q2 := (hD.2 2 _ rfl).elim (fun h => absurd (hD.1 2 0 _ _ rfl rfl (List.mem_singleton.mp h)) (by decide)) id
  have hq12 : ¬ q1 = q2 := fun e => absurd (hD.1 1 2 _ _ rfl rfl e) (by decide)
  refine W.widen (k := 2) (n := 1024) (by decide) (by decide) ?_
  refine va_putF (ci := 0) (v := .ref q2) (ty := .array .int) (C := RX0) (T := TX0) (N := 3) hx hb hts hin_X0 tyX0 tyX0_ok nmX0 hown hK hP hD hS 0 rfl rfl 1 (by decide) kf_15 (fun _ h9 => h9) rfl hnm rfl (by decide +kernel) rfl rfl (Nat.le_of_ble_eq_true rfl) dX0_init_19 (fun H locs hP hD hS => ?_)
  have hP : va_P D vwCl [(aE, .inr (0, [.ref q1, .ref q2, .int 0])), (q1, .inl (cA1, 512, .inl z32)), (q2, .inl (cA2, 512, .inl z32))] H := hP
  have hD : va_D _ [(aE, .inr (0, [.ref q1, .ref q2, .int 0])), (q1, .inl (cA1, 512, .inl z32)), (q2, .inl (cA2, 512, .inl z32))] := hD
  refine lv_aload_n hx hb dX0_init_22 rfl (lv_at hl 0 rfl) ?_
  refine lv_iconst (v := nI 0) hx hb dX0_init_23 (by decide) ?_
  refine va_put (ci := 0) (v := .int (nI 0)) (ty := .int) (C := RX0) (T := TX0) (N := 3) hx hb hts hin_X0 tyX0 tyX0_ok nmX0 hown hK hP hD hS 0 rfl rfl 2 (by decide) kf_18 (fun _ h9 => h9) rfl (by decide +kernel) rfl rfl (Nat.le_of_ble_eq_true rfl) dX0_init_24 (fun H locs hP hD hS => ?_)
  have hP : va_P D vwCl [(aE, .inr (0, [.ref q1, .ref q2, .int (nI 0)])), (q1, .inl (cA1, 512, .inl z32)), (q2, .inl (cA2, 512, .inl z32))] H := hP
  have hD : va_D _ [(aE, .inr (0, [.ref q1, .ref q2, .int (nI 0)])), (q1, .inl (cA1, 512, .inl z32)), (q2, .inl (cA2, 512, .inl z32))] := hD
  have hcc : cA1 = cA2 := Option.some.inj ((hK.2 0 _ rfl).2.symm.trans (hK.2 1 _ rfl).2)
  subst hcc
  exact ret_vX hx hb hr hlocks dX0_init_27 hS (q1, q2, cA1) rfl (fun t ht hvm => ⟨by rw [ht]; exact hP, va_K.moved hvm (hK.sub [0] rfl), hq1, hq2, hq12⟩)

set_option maxHeartbeats 4000000 in
set_option maxRecDepth 100000 in
/-- OrderedDeskModel() -/
theorem c_X3_init (l : Launch) (D : va_G) (aM sz : Nat) : Met l yX3_init wsX3_init ({ frames := 1, cells := 2, slots := 128, locals := 12 } : Room) (pcZ D [] [.ref aM] [(aM, .inr (3, [.null, .null, .int 0, .int 0, .int 0, .int 0, .int 0, .int 0, .int 0, .int 0]))] sz) (qX (fun _ : Nat × Nat × ClassId => none) (fun u t => initM D aM sz u t) (mA [aM] sz)) 2 128 (mA [aM] sz) := by
  refine met_Z (cc := cX3_init) (maxL := 1) (ret := none) (by decide +kernel) rfl (Nat.le_of_ble_eq_true rfl) ?_
  intro pM eM s mM below meth cM ls hx hb hr hts hown hlocks hml hnm hsz hK hP hl
  have hown : s.vm.findClass RX3 = some mM.cls := hown
  have hl : lv_has ls 1 [(0, .ref aM)] := hl
  have hin_X3 : ∀ w ∈ wsX30, w ∈ wsX3_init := by decide +kernel
  have kf_13 := hts (.fieldLink RX3 13 "OrderedDeskModel" "value" "[I") (by decide +kernel)
  have kf_9 := hts (.fieldLink RX3 9 "OrderedDeskModel" "key" "[I") (by decide +kernel)
  have hP : va_P D vwCl [(aM, .inr (3, [.null, .null, .int 0, .int 0, .int 0, .int 0, .int 0, .int 0, .int 0, .int 0]))] s.heap := hP
  subst hsz
  have ndw := (List.nodup_cons.mpr ⟨List.not_mem_nil, List.nodup_nil⟩ : ([aM] : List Nat).Nodup)
  have hA : ∀ q : Nat, s.heap.size ≤ q → mA [aM] s.heap.size q := fun q h => Or.inr h
  have hAw : ∀ q ∈ ([aM] : List Nat), mA [aM] s.heap.size q := fun q h => Or.inl h
  have hS : va_S (mA [aM] s.heap.size) s.heap s.heap [] := va_S.rf
  have hD : va_D (mA [aM] s.heap.size) [(aM, .inr (3, [.null, .null, .int 0, .int 0, .int 0, .int 0, .int 0, .int 0, .int 0, .int 0]))] := D_of ndw hAw
  refine lv_aload_n hx hb dX3_init_0 rfl (lv_at hl 0 rfl) ?_
  refine W.objInit hx hb hown (hts (.methodLink RX3 3 objectInit) (by decide +kernel)) (hts (.instanceMethod objectInit) (by decide +kernel)) (hts (.code objectInit ⟨#[0xb1]⟩ 1 none) (by decide +kernel)) rfl (by rw [hml]; exact hl.1) rfl dX3_init_1 (Nat.le_of_ble_eq_true rfl) (Nat.le_of_ble_eq_true rfl) ?_
  refine W.eq (g2 := F0 mM 4 ls []) rfl ?_
  refine lv_aload_n hx hb dX3_init_4 rfl (lv_at hl 0 rfl) ?_
  refine lv_bipush (v := 64) hx hb dX3_init_5 (by decide) ?_
  refine va_newa (atype := .int) (ty := .int) (a0 := (64, .inl z32)) (N' := 64) hx hb (hts (.arrayClass .int) (by decide +kernel)) rfl hK hP hD hS hA (fun _ => rfl) (by decide) (by decide) (by decide) (Nat.le_of_ble_eq_true rfl) (Nat.le_of_ble_eq_true rfl) dX3_init_7 (fun q1 cA1 H hK hP hD hS => ?_)
  have hP : va_P D vwCl [(aM, .inr (3, [.null, .null, .int 0, .int 0, .int 0, .int 0, .int 0, .int 0, .int 0, .int 0])), (q1, .inl (cA1, 64, .inl z32))] H := hP
  have hD : va_D _ [(aM, .inr (3, [.null, .null, .int 0, .int 0, .int 0, .int 0, .int 0, .int 0, .int 0, .int 0])), (q1, .inl (cA1, 64, .inl z32))] := hD
  have hK : va_K D vwCl [(cA1, .int)] s := hK
  have hq1 : s.heap.size ≤ q1 := (hD.2 1 _ rfl).elim (fun h => absurd (hD.1 1 0 _ _ rfl rfl (List.mem_singleton.mp h)) (by decide)) id
  refine W.widen (k := 1) (n := 64) (by decide) (by decide) ?_
  refine va_put (ci := 3) (v := .ref q1) (ty := .array .int) (C := RX3) (T := TX3) (N := 10) hx hb hts hin_X3 tyX3 tyX3_ok nmX3 hown hK hP hD hS 0 rfl rfl 0 (by decide) kf_9 (fun _ h9 => h9) rfl (by decide +kernel) rfl rfl (Nat.le_of_ble_eq_true rfl) dX3_init_9 (fun H locs hP hD hS => ?_)
  have hP : va_P D vwCl [(aM, .inr (3, [.ref q1, .null, .int 0, .int 0, .int 0, .int 0, .int 0, .int 0, .int 0, .int 0])), (q1, .inl (cA1, 64, .inl z32))] H := hP
  have hD : va_D _ [(aM, .inr (3, [.ref q1, .null, .int 0, .int 0, .int 0, .int 0, .int 0, .int 0, .int 0, .int 0])), (q1, .inl (cA1, 64, .inl z32))] := hD
  refine lv_aload_n hx hb dX3_init_12 rfl (lv_at hl 0 rfl) ?_
  refine lv_bipush (v := 64) hx hb dX3_init_13 (by decide) ?_
  refine va_newa (atype := .int) (ty := .int) (a0 := (64, .inl z32)) (N' := 64) hx hb (hts (.arrayClass .int) (by decide +kernel)) rfl hK hP hD hS hA (fun _ => rfl) (by decide) (by decide) (by decide) (Nat.le_of_ble_eq_true rfl) (Nat.le_of_ble_eq_true rfl) dX3_init_15 (fun q2 cA2 H hK hP hD hS => ?_)
  have hP : va_P D vwCl [(aM, .inr (3, [.ref q1, .null, .int 0, .int 0, .int 0, .int 0, .int 0, .int 0, .int 0, .int 0])), (q1, .inl (cA1, 64, .inl z32)), (q2, .inl (cA2, 64, .inl z32))] H := hP
  have hD : va_D _ [(aM, .inr (3, [.ref q1, .null, .int 0, .int 0, .int 0, .int 0, .int 0, .int 0, .int 0, .int 0])), (q1, .inl (cA1, 64, .inl z32)), (q2, .inl (cA2, 64, .inl z32))] := hD
  have hK : va_K D vwCl [(cA1, .int), (cA2, .int)] s := hK
  have hq2 : s.heap.size ≤ q2 := (hD.2 2 _ rfl).elim (fun h => absurd (hD.1 2 0 _ _ rfl rfl (List.mem_singleton.mp h)) (by decide)) id
  have hq12 : ¬ q1 = q2 := fun e => absurd (hD.1 1 2 _ _ rfl rfl e) (by decide)
  refine W.widen (k := 2) (n := 128) (by decide) (by decide) ?_
  refine va_put (ci := 3) (v := .ref q2) (ty := .array .int) (C := RX3) (T := TX3) (N := 10) hx hb hts hin_X3 tyX3 tyX3_ok nmX3 hown hK hP hD hS 0 rfl rfl 1 (by decide) kf_13 (fun _ h9 => h9) rfl (by decide +kernel) rfl rfl (Nat.le_of_ble_eq_true rfl) dX3_init_17 (fun H locs hP hD hS => ?_)
  have hP : va_P D vwCl [(aM, .inr (3, [.ref q1, .ref q2, .int 0, .int 0, .int 0, .int 0, .int 0, .int 0, .int 0, .int 0])), (q1, .inl (cA1, 64, .inl z32)), (q2, .inl (cA2, 64, .inl z32))] H := hP
  have hD : va_D _ [(aM, .inr (3, [.ref q1, .ref q2, .int 0, .int 0, .int 0, .int 0, .int 0, .int 0, .int 0, .int 0])), (q1, .inl (cA1, 64, .inl z32)), (q2, .inl (cA2, 64, .inl z32))] := hD
  have hcc : cA1 = cA2 := Option.some.inj ((hK.2 0 _ rfl).2.symm.trans (hK.2 1 _ rfl).2)
  subst hcc
  exact ret_vX hx hb hr hlocks dX3_init_20 hS (q1, q2, cA1) rfl (fun t ht hvm => ⟨by rw [ht]; exact hP, va_K.moved hvm (hK.sub [0] rfl), hq1, hq2, hq12⟩)

set_option maxHeartbeats 4000000 in
set_option maxRecDepth 100000 in
/-- OrderedDesk() -/
theorem c_X2_init (l : Launch) (D : va_G) (aD sz : Nat) : Met l yX2_init wsX2_init ({ frames := 2, cells := 4, slots := 1031, locals := 38 } : Room) (va_Pc [.ref aD] (fun U => U.heap.size = sz ∧ va_P D vwCl [(aD, .inr (2, [.null, .null, .null, .int 0]))] U.heap ∧ va_K D vwCl [] U ∧ va_Nw nestE U)) (qX (fun _ : Nat × Nat × Nat × Nat × ClassId => none) (fun u t => initD D aD sz u t) (mA [aD] sz)) 4 1031 (mA [aD] sz) := by
  refine met_G (cc := cX2_init) (maxL := 1) (ret := none) (by decide +kernel) rfl (Nat.le_of_ble_eq_true rfl) ?_
  intro pM eM s mM below meth cM ls hx hb hr hts hown hlocks hml hnm hBB hl
  obtain ⟨hsz, hP, hK, hNw⟩ := hBB
  have hown : s.vm.findClass RX2 = some mM.cls := hown
  have hl : lv_has ls 1 [(0, .ref aD)] := hl
  have hin_X0 : ∀ w ∈ wsX00, w ∈ wsX2_init := by decide +kernel
  have hin_X1 : ∀ w ∈ wsX10, w ∈ wsX2_init := by decide +kernel
  have hin_X2 : ∀ w ∈ wsX20, w ∈ wsX2_init := by decide +kernel
  have kf_12 := hts (.fieldLink RX2 12 "OrderedDesk" "entries" "LOrderedDesk$Entries;") (by decide +kernel)
  have kf_25 := hts (.fieldLink RX2 25 "OrderedDesk" "whole" "LOrderedDesk$Range;") (by decide +kernel)
  have kf_29 := hts (.fieldLink RX2 29 "OrderedDesk" "range" "LOrderedDesk$Range;") (by decide +kernel)
  have kf_32 := hts (.fieldLink RX2 32 "OrderedDesk" "falling" "Z") (by decide +kernel)
  have kc_18 := hts (.constantLong RX2 18 (-2147483649)) (by decide +kernel)
  have kc_20 := hts (.constantLong RX2 20 (2147483648)) (by decide +kernel)
  have hP : va_P D vwCl [(aD, .inr (2, [.null, .null, .null, .int 0]))] s.heap := hP
  subst hsz
  have ndw := (List.nodup_cons.mpr ⟨List.not_mem_nil, List.nodup_nil⟩ : ([aD] : List Nat).Nodup)
  have hA : ∀ q : Nat, s.heap.size ≤ q → mA [aD] s.heap.size q := fun q h => Or.inr h
  have hAw : ∀ q ∈ ([aD] : List Nat), mA [aD] s.heap.size q := fun q h => Or.inl h
  have hl_D : aD < s.heap.size := (hP 0 _ rfl).lt
  have hS : va_S (mA [aD] s.heap.size) s.heap s.heap [] := va_S.rf
  have hD : va_D (mA [aD] s.heap.size) [(aD, .inr (2, [.null, .null, .null, .int 0]))] := D_of ndw hAw
  refine lv_aload_n hx hb dX2_init_0 rfl (lv_at hl 0 rfl) ?_
  refine W.objInit hx hb hown (hts (.methodLink RX2 3 objectInit) (by decide +kernel)) (hts (.instanceMethod objectInit) (by decide +kernel)) (hts (.code objectInit ⟨#[0xb1]⟩ 1 none) (by decide +kernel)) rfl (by rw [hml]; exact hl.1) rfl dX2_init_1 (Nat.le_of_ble_eq_true rfl) (Nat.le_of_ble_eq_true rfl) ?_
  refine W.eq (g2 := F0 mM 4 ls []) rfl ?_
  refine lv_aload_n hx hb dX2_init_4 rfl (lv_at hl 0 rfl) ?_
  refine va_new (ci := 0) (fs := [.null, .null, .int 0]) (C := RX0) (T := TX0) (N := 3) hx hb hts hin_X0 tyX0 tyX0_ok hown (hts (.classLink RX2 9 RX0) (by decide +kernel)) (hts (.instantiable RX0 3) (by decide +kernel)) (hts (.initialized RX0) (by decide +kernel)) hK hP hD hS hA rfl (fun j hj => by rcases (show j = 0 ∨ j = 1 ∨ j = 2 by omega) with rfl | rfl | rfl <;> rfl) (Nat.le_of_ble_eq_true rfl) (Nat.le_of_ble_eq_true rfl) dX2_init_5 (fun qE H hP hD hS => ?_)
  have hP : va_P D vwCl [(aD, .inr (2, [.null, .null, .null, .int 0])), (qE, .inr (0, [.null, .null, .int 0]))] H := hP
  have hD : va_D _ [(aD, .inr (2, [.null, .null, .null, .int 0])), (qE, .inr (0, [.null, .null, .int 0]))] := hD
  have hqE : s.heap.size ≤ qE := (hD.2 1 _ rfl).elim (fun h => absurd (hD.1 1 0 _ _ rfl rfl (List.mem_singleton.mp h)) (by decide)) id
  have hl_qE : qE < H.size := (hP 1 _ rfl).lt
  refine W.widen (k := 1) (n := 3) (by decide) (by decide) ?_
  refine lv_dup hx hb dX2_init_8 rfl ?_
  refine go_X (va_runIN (As := []) (rest := [.ref qE, .ref aD]) ⟨hx, hb, hml, hown, hts⟩ (c_X0_init l D qE H.size) ⟨va_cnB 0 hts gX2_init_X0_init_n11 rfl rfl rfl hNw (hts (.initialized RX0) (by decide +kernel)) (by decide +kernel) ⟨Nat.le_of_ble_eq_true rfl, Nat.le_of_ble_eq_true rfl⟩, rfl, hts (.instanceMethod yX0_init) (by decide +kernel)⟩ (preS_Z (hK.sub [] rfl) (hP.sub [1] rfl)) rfl rfl hl.1 rfl (lv_room (Nat.le_of_ble_eq_true rfl)) dX2_init_9 ⟨Nat.le_of_ble_eq_true rfl, Nat.le_of_ble_eq_true rfl⟩) hS (fun q h => Or.inr (h.elim (fun w => by rw [List.mem_singleton.mp w]; exact hqE) (fun w => Nat.le_trans hS.1 w))) (fun u tt H1 locs1 ht hvm hB hzz hk hS => ?_)
  obtain ⟨aK, aV, cy⟩ := u
  obtain ⟨hPe, hKe, hk1, hk2, hk3⟩ := hB
  rw [ht] at hPe
  have hK : va_K D vwCl [(cy, .int)] s := va_K.moved hvm.symm hKe
  dsimp only at hk1 hk2 hk3
  have hS1 := hS.1
  have hP : va_P D vwCl [(aD, .inr (2, [.null, .null, .null, .int 0])), (qE, .inr (0, [.ref aK, .ref aV, .int (nI 0)])), (aK, .inl (cy, 512, .inl z32)), (aV, .inl (cy, 512, .inl z32))] H1 := (P_keepM (ws := [(aD, .inr (2, [.null, .null, .null, .int 0]))]) (hP.sub [0] rfl) (by intro q hq; simp only [List.map_cons, List.map_nil, List.mem_cons, List.not_mem_nil, or_false] at hq ⊢; omega) hk).app hPe
  have hS0 : s.heap.size ≤ H.size := by omega
  have hD : va_D (mA [aD] s.heap.size) [(aD, .inr (2, [.null, .null, .null, .int 0])), (qE, .inr (0, [.ref aK, .ref aV, .int (nI 0)])), (aK, .inl (cy, 512, .inl z32)), (aV, .inl (cy, 512, .inl z32))] := D_of (show ([aD, qE, aK, aV] : List Nat).Nodup by simp; omega) (by intro q hq; simp only [List.map_cons, List.map_nil, List.mem_cons, List.not_mem_nil, or_false] at hq; exact if h : q = aD then Or.inl (List.mem_singleton.mpr h) else Or.inr (by omega))
  generalize H1 = H at hP hS ⊢
  generalize locs1 = locs at hS ⊢
  refine W.eq (g2 := F0 mM 12 ls [.ref qE, .ref aD]) rfl ?_
  refine W.widen (k := 3) (n := 1027) (by decide) (by decide) ?_
  refine va_putF (ci := 2) (v := .ref qE) (ty := .object "OrderedDesk$Entries") (C := RX2) (T := TX2) (N := 4) hx hb hts hin_X2 tyX2 tyX2_ok nmX2 hown hK hP hD hS 0 rfl rfl 0 (by decide) kf_12 (fun _ h9 => h9) rfl hnm rfl (by decide +kernel) rfl rfl (Nat.le_of_ble_eq_true rfl) dX2_init_12 (fun H locs hP hD hS => ?_)
  have hP : va_P D vwCl [(aD, .inr (2, [.ref qE, .null, .null, .int 0])), (qE, .inr (0, [.ref aK, .ref aV, .int (nI 0)])), (aK, .inl (cy, 512, .inl z32)), (aV, .inl (cy, 512, .inl z32))] H := hP
  have hD : va_D _ [(aD, .inr (2, [.ref qE, .null, .null, .int 0])), (qE, .inr (0, [.ref aK, .ref aV, .int (nI 0)])), (aK, .inl (cy, 512, .inl z32)), (aV, .inl (cy, 512, .inl z32))] := hD
  refine lv_aload_n hx hb dX2_init_15 rfl (lv_at hl 0 rfl) ?_
  refine va_new (ci := 1) (fs := [.long 0, .int 0, .long 0, .int 0]) (C := RX1) (T := TX1) (N := 4) hx hb hts hin_X1 tyX1 tyX1_ok hown (hts (.classLink RX2 16 RX1) (by decide +kernel)) (hts (.instantiable RX1 4) (by decide +kernel)) (hts (.initialized RX1) (by decide +kernel)) hK hP hD hS hA rfl (fun j hj => by rcases (show j = 0 ∨ j = 1 ∨ j = 2 ∨ j = 3 by omega) with rfl | rfl | rfl | rfl <;> rfl) (Nat.le_of_ble_eq_true rfl) (Nat.le_of_ble_eq_true rfl) dX2_init_16 (fun qW H hP hD hS => ?_)
  have hP : va_P D vwCl [(aD, .inr (2, [.ref qE, .null, .null, .int 0])), (qE, .inr (0, [.ref aK, .ref aV, .int (nI 0)])), (aK, .inl (cy, 512, .inl z32)), (aV, .inl (cy, 512, .inl z32)), (qW, .inr (1, [.long 0, .int 0, .long 0, .int 0]))] H := hP
  have hD : va_D _ [(aD, .inr (2, [.ref qE, .null, .null, .int 0])), (qE, .inr (0, [.ref aK, .ref aV, .int (nI 0)])), (aK, .inl (cy, 512, .inl z32)), (aV, .inl (cy, 512, .inl z32)), (qW, .inr (1, [.long 0, .int 0, .long 0, .int 0]))] := hD
  have hqW : s.heap.size ≤ qW := (hD.2 4 _ rfl).elim (fun h => absurd (hD.1 4 0 _ _ rfl rfl (List.mem_singleton.mp h)) (by decide)) id
  have hqW_1 : ¬ qW = qE := fun e => absurd (hD.1 4 1 _ _ rfl rfl e) (by decide)
  have hqW_2 : ¬ qW = aK := fun e => absurd (hD.1 4 2 _ _ rfl rfl e) (by decide)
  have hqW_3 : ¬ qW = aV := fun e => absurd (hD.1 4 3 _ _ rfl rfl e) (by decide)
  have hl_qW : qW < H.size := (hP 4 _ rfl).lt
  refine W.widen (k := 4) (n := 1031) (by decide) (by decide) ?_
  refine lv_dup hx hb dX2_init_19 rfl ?_
  refine lv_ldc2 hx hb hown kc_18 dX2_init_20 ?_
  refine lv_iconst (v := bI false) hx hb dX2_init_23 (by decide) ?_
  refine lv_ldc2 hx hb hown kc_20 dX2_init_24 ?_
  refine lv_iconst (v := bI false) hx hb dX2_init_27 (by decide) ?_
  refine go_V (va_runI (As := [.long ((-2147483649)), .int (bI false), .long 2147483648, .int (bI false)]) (rest := [.ref qW, .ref aD]) ⟨hx, hb, hml, hown, hts⟩ (c_X1_init l D cy qW ((-2147483649)) false 2147483648 false H.size) (cwI 4 hts gX2_init_X1_init rfl rfl rfl (hts (.initialized RX1) (by decide +kernel)) (hts (.methodLink RX2 22 yX1_init) (by decide +kernel)) (hts (.instanceMethod yX1_init) (by decide +kernel)) rfl (by decide +kernel) ⟨Nat.le_of_ble_eq_true rfl, Nat.le_of_ble_eq_true rfl⟩) (preS_Z hK (hP.sub [4] rfl)) rfl rfl hl.1 rfl (lv_room (Nat.le_of_ble_eq_true rfl)) dX2_init_28 ⟨Nat.le_of_ble_eq_true rfl, Nat.le_of_ble_eq_true rfl⟩) hS (fun q h => Or.inr (h.elim (fun w => by rw [List.mem_singleton.mp w]; exact hqW) (fun w => Nat.le_trans hS.1 w))) (fun H1 locs1 hB hzz hk hS => ?_)
  have hP : va_P D vwCl [(aD, .inr (2, [.ref qE, .null, .null, .int 0])), (qE, .inr (0, [.ref aK, .ref aV, .int (nI 0)])), (aK, .inl (cy, 512, .inl z32)), (aV, .inl (cy, 512, .inl z32)), (qW, .inr (1, [.long ((-2147483649)), .int (bI false), .long 2147483648, .int (bI false)]))] H1 := (P_keepM (ws := [(aD, .inr (2, [.ref qE, .null, .null, .int 0])), (qE, .inr (0, [.ref aK, .ref aV, .int (nI 0)])), (aK, .inl (cy, 512, .inl z32)), (aV, .inl (cy, 512, .inl z32))]) (hP.sub [0, 1, 2, 3] rfl) (by intro q hq; simp only [List.map_cons, List.map_nil, List.mem_cons, List.not_mem_nil, or_false] at hq ⊢; omega) hk).app hB
  have hD : va_D (mA [aD] s.heap.size) [(aD, .inr (2, [.ref qE, .null, .null, .int 0])), (qE, .inr (0, [.ref aK, .ref aV, .int (nI 0)])), (aK, .inl (cy, 512, .inl z32)), (aV, .inl (cy, 512, .inl z32)), (qW, .inr (1, [.long ((-2147483649)), .int (bI false), .long 2147483648, .int (bI false)]))] := D_of (show ([aD, qE, aK, aV, qW] : List Nat).Nodup by simp; omega) (by intro q hq; simp only [List.map_cons, List.map_nil, List.mem_cons, List.not_mem_nil, or_false] at hq; exact if h : q = aD then Or.inl (List.mem_singleton.mpr h) else Or.inr (by omega))
  generalize H1 = H at hP hS ⊢
  generalize locs1 = locs at hS ⊢
  refine va_putF (ci := 2) (v := .ref qW) (ty := .object "OrderedDesk$Range") (C := RX2) (T := TX2) (N := 4) hx hb hts hin_X2 tyX2 tyX2_ok nmX2 hown hK hP hD hS 0 rfl rfl 1 (by decide) kf_25 (fun _ h9 => h9) rfl hnm rfl (by decide +kernel) rfl rfl (Nat.le_of_ble_eq_true rfl) dX2_init_31 (fun H locs hP hD hS => ?_)
  have hP : va_P D vwCl [(aD, .inr (2, [.ref qE, .ref qW, .null, .int 0])), (qE, .inr (0, [.ref aK, .ref aV, .int (nI 0)])), (aK, .inl (cy, 512, .inl z32)), (aV, .inl (cy, 512, .inl z32)), (qW, .inr (1, [.long ((-2147483649)), .int (bI false), .long 2147483648, .int (bI false)]))] H := hP
  have hD : va_D _ [(aD, .inr (2, [.ref qE, .ref qW, .null, .int 0])), (qE, .inr (0, [.ref aK, .ref aV, .int (nI 0)])), (aK, .inl (cy, 512, .inl z32)), (aV, .inl (cy, 512, .inl z32)), (qW, .inr (1, [.long ((-2147483649)), .int (bI false), .long 2147483648, .int (bI false)]))] := hD
  refine lv_aload_n hx hb dX2_init_34 rfl (lv_at hl 0 rfl) ?_
  refine lv_aload_n hx hb dX2_init_35 rfl (lv_at hl 0 rfl) ?_
  refine va_get (ci := 2) (v := .ref qW) (C := RX2) (T := TX2) (N := 4) hx hb hts hin_X2 hown hK hP 0 rfl rfl 1 (by decide) kf_25 (fun _ h9 => h9) rfl dX2_init_36 ?_
  refine va_put (ci := 2) (v := .ref qW) (ty := .object "OrderedDesk$Range") (C := RX2) (T := TX2) (N := 4) hx hb hts hin_X2 tyX2 tyX2_ok nmX2 hown hK hP hD hS 0 rfl rfl 2 (by decide) kf_29 (fun _ h9 => h9) rfl (by decide +kernel) rfl rfl (Nat.le_of_ble_eq_true rfl) dX2_init_39 (fun H locs hP hD hS => ?_)
  have hP : va_P D vwCl [(aD, .inr (2, [.ref qE, .ref qW, .ref qW, .int 0])), (qE, .inr (0, [.ref aK, .ref aV, .int (nI 0)])), (aK, .inl (cy, 512, .inl z32)), (aV, .inl (cy, 512, .inl z32)), (qW, .inr (1, [.long ((-2147483649)), .int (bI false), .long 2147483648, .int (bI false)]))] H := hP
  have hD : va_D _ [(aD, .inr (2, [.ref qE, .ref qW, .ref qW, .int 0])), (qE, .inr (0, [.ref aK, .ref aV, .int (nI 0)])), (aK, .inl (cy, 512, .inl z32)), (aV, .inl (cy, 512, .inl z32)), (qW, .inr (1, [.long ((-2147483649)), .int (bI false), .long 2147483648, .int (bI false)]))] := hD
  refine lv_aload_n hx hb dX2_init_42 rfl (lv_at hl 0 rfl) ?_
  refine lv_iconst (v := bI false) hx hb dX2_init_43 (by decide) ?_
  refine va_put (ci := 2) (v := .int (bI false)) (ty := .boolean) (C := RX2) (T := TX2) (N := 4) hx hb hts hin_X2 tyX2 tyX2_ok nmX2 hown hK hP hD hS 0 rfl rfl 3 (by decide) kf_32 (fun _ h9 => h9) rfl (by decide +kernel) (bI_nar _) (bI_fit _) (Nat.le_of_ble_eq_true rfl) dX2_init_44 (fun H locs hP hD hS => ?_)
  have hP : va_P D vwCl [(aD, .inr (2, [.ref qE, .ref qW, .ref qW, .int (bI false)])), (qE, .inr (0, [.ref aK, .ref aV, .int (nI 0)])), (aK, .inl (cy, 512, .inl z32)), (aV, .inl (cy, 512, .inl z32)), (qW, .inr (1, [.long ((-2147483649)), .int (bI false), .long 2147483648, .int (bI false)]))] H := hP
  have hD : va_D _ [(aD, .inr (2, [.ref qE, .ref qW, .ref qW, .int (bI false)])), (qE, .inr (0, [.ref aK, .ref aV, .int (nI 0)])), (aK, .inl (cy, 512, .inl z32)), (aV, .inl (cy, 512, .inl z32)), (qW, .inr (1, [.long ((-2147483649)), .int (bI false), .long 2147483648, .int (bI false)]))] := hD
  exact ret_vX hx hb hr hlocks dX2_init_47 hS (qE, aK, aV, qW, cy) rfl (fun t ht hvm => ⟨by rw [ht]; exact hP, va_K.moved hvm hK, (show s.heap.size ≤ qE by omega), (show s.heap.size ≤ aK by omega), (show s.heap.size ≤ aV by omega), (show s.heap.size ≤ qW by omega), (show ([qE, aK, aV] : List Nat).Nodup by simp; omega), (show ¬ qW ∈ ([qE, aK, aV] : List Nat) by simp; omega)⟩)
