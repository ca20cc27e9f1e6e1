/-! THE THREE KINDS OF CALL; WHAT IS THROWN -/
theorem mm_ca_spec {y k z : Nat} (hk : tb_ca y k = some z) (hz : z < 1000) : 0 < z ∧ ∃ nest : Bool, (if nest = true then .methodLinkNest (tb_nm (tb_cls y)) k (tb_y z) "LoadRoom" else .methodLink (tb_nm (tb_cls y)) k (tb_y z) : Cond) ∈ lw_tbl := by
  unfold tb_ca at hk
  cases hlk : tb_cal.lookup (tb_cls y, k) with
  | none => rw [hlk] at hk; cases hk
  | some q =>
    rw [hlk] at hk
    obtain ⟨q1, q2, q3⟩ := q
    simp only [Option.map_some, Option.some.injEq] at hk
    subst hk
    have hok := List.all_eq_true.mp tb_okC_all _ (mm_lookup hlk)
    unfold tb_okC at hok
    rw [if_pos hz] at hok
    simp only [Bool.and_eq_true, decide_eq_true_eq] at hok
    exact ⟨hok.2, q3, List.mem_of_getElem? hok.1⟩
theorem tb_cal_lt : tb_cal.all (fun q => decide (q.2.1 < 149 ∨ 1000 ≤ q.2.1)) = true := by decide +kernel
theorem mm_ca_lt {y k z : Nat} (hk : tb_ca y k = some z) (hz : z < 1000) : z < 149 := by
  unfold tb_ca at hk
  cases hlk : tb_cal.lookup (tb_cls y, k) with
  | none => rw [hlk] at hk; cases hk
  | some q =>
    rw [hlk] at hk
    simp only [Option.map_some, Option.some.injEq] at hk
    subst hk
    have hok := List.all_eq_true.mp tb_cal_lt _ (mm_lookup hlk)
    simp only [decide_eq_true_eq] at hok
    rcases hok with q | q
    · exact q
    · omega
section
variable {P : mm_P} {y d n0 z0 : Nat} {p : Program} {l : Launch} {e : Env} {R : Room} {s : State} {m : MethodId} {args : Array Value} {below : List Frame} {meth : Method} {c : Code} {Q : State → Prop} {pc k : Nat} {ls ls' st r : List Value} {h h1 : mm_H} {x x2 : Int32} {w w2 : Int64} {a b : Nat} {n off : Int}
/-- what must come of the caller behind a call that came to res -/
def mm_K (P : mm_P) (y n0 z0 : Nat) (p : Program) (l : Launch) (e : Env) (R : Room) (s : State) (m : MethodId) (args : Array Value) (below : List Frame) (meth : Method) (c : Code) (Q : State → Prop) (pc : Nat) (ls rest : List Value) (res : Option Value ⊕ Nat) (h1 : mm_H) : Prop :=
  ∀ (T' : State) (locs : List Loc) (cells slots : Nat) (lsR : Array Slot), Stand p l e R s m args below meth c T' locs cells slots → mm_rep P s h1 T'.heap → mm_lv P y ls lsR → (∀ q ∈ locs, P.1.2 ≤ q.base) → mm_n h1 = n0 + cells → mm_z h1 = z0 + slots → ∃ t, Steps p.tables e below (mm_after P m pc lsR rest res T') t ∧ Q t
theorem mm_K.ret {v : Option Value} {rest : List Value} (G : mm_G P y n0 z0 p l e R s m args below meth c Q (pc + 3) ls (v.toList ++ rest) h1) : mm_K P y n0 z0 p l e R s m args below meth c Q pc ls rest (.inl v) h1 := by
  intro T' locs cells slots lsR X hr hlv hl hn hz
  exact G T'.heap locs cells slots lsR hr hlv hl hn hz T' rfl X
/-- the arguments, and what stays -/
theorem mm_split {st : List Value} {n : Nat} (hn : n ≤ st.length) : st = (st.take n).reverse.reverse ++ st.drop n := by rw [List.reverse_reverse, List.take_append_drop]
theorem sg_static {z : Nat} {res : Option Value ⊕ Nat} (C : mm_Cx P y (d + 1) p R s m meth c) (hc : tb_cod y pc = some (.invokestatic k, 3)) (hk : tb_ca y k = some z) (hz : z < 1000) (hst : tb_sta z = true) (h1a : tb_na z ≤ st.length) (h1b : st.length ≤ tb_na z + 8) (hok : mm_eok z (mm_ent z (st.take (tb_na z)).reverse) = true)
    (q1 : mm_n h1 ≤ n0 + R.cells) (q2 : mm_z h1 ≤ z0 + R.slots) (q3 : mm_n h ≤ mm_n h1) (q4 : mm_z h ≤ mm_z h1)
    (IH : ∀ (R' : Room) (s' : State) (m' : MethodId) (args' : Array Value) (below' : List Frame) (meth' : Method) (c' : Code), mm_Cx P z d p R' s' m' meth' c' → mm_n h1 ≤ mm_n h + R'.cells → mm_z h1 ≤ mm_z h + R'.slots → mm_G P z (mm_n h) (mm_z h) p l e R' s' m' args' below' meth' c' (mm_fin P s' below' (mm_n h) (mm_z h) res h1) 0 (mm_ent z (st.take (tb_na z)).reverse) [] h)
    (K : mm_K P y n0 z0 p l e R s m args below meth c Q pc ls (st.drop (tb_na z)) res h1) : mm_G P y n0 z0 p l e R s m args below meth c Q pc ls st h := by
  intro H locs cells slots lsR hr hlv hl hn hzz T hT X
  have E := C.2.1.2.2.2
  obtain ⟨h0, nest, hw⟩ := mm_ca_spec hk hz
  have h149 := mm_ca_lt hk hz
  obtain ⟨mk, methk, ck, F⟩ := mm_callee E h0 h149
  have F' := F
  obtain ⟨hnamed, f1, f2, f3, f4, f5, f6, f7, f8, f9, f10⟩ := F'
  obtain ⟨g1, g2, g3, g4⟩ := mm_plain h149
  have hokM := mm_okM h0 h149
  unfold tb_okM at hokM
  simp only [hst, if_true, Bool.and_eq_true, decide_eq_true_eq] at hokM
  have hstat := E.1 _ (List.mem_of_getElem? hokM.1) rfl args
  have hini := E.1 _ (List.mem_of_getElem? hokM.2.2) rfl args
  have hstatic : methk.isStatic = true := Cond.static_spec hnamed f1 hstat
  obtain ⟨kP, hkP, -⟩ := className_of_methodNamed hnamed
  have hinitP : kP.init = .initialized := Cond.initialized_spec (findClass_of_methodNamed hnamed) hkP hini
  have hlen : (((st.take (tb_na z)).reverse).map (mm_rv P)).length = methk.sig.parameters.length := by
    rw [f8] at g4
    simp only [Option.map_some, hst, if_true, Option.some.injEq] at g4
    simp [List.length_take]
    omega
  have hstack : st.map (mm_rv P) = (((st.take (tb_na z)).reverse).map (mm_rv P)).reverse ++ (st.drop (tb_na z)).map (mm_rv P) := by
    rw [← List.map_reverse, List.reverse_reverse, ← List.map_append, List.take_append_drop]
  have hdc : decode c.code pc = .ok (.invokestatic k, 3) := by rw [C.1.2.1]; exact (mm_dec hc).1
  have hstep : ∃ vm', Stand p l e R s m args below meth c (T.setVm vm') locs cells slots ∧ ∀ target, (∀ acts, Steps p.tables e below (doInvoke e ((T.setVm vm').setTop (F0 m pc lsR ((st.drop (tb_na z)).map (mm_rv P)))) acts mk (((st.take (tb_na z)).reverse).map (mm_rv P)).toArray).1 target) → Steps p.tables e below (T.setTop (F0 m pc lsR (st.map (mm_rv P)))) target := by
    cases nest with
    | true => exact X.invokestaticNest C.1.1 C.2.1.1 (E.1 _ hw rfl args) hnamed f1 hstatic hkP hinitP g3 (g := F0 m pc lsR (st.map (mm_rv P))) rfl hlen hstack hdc
    | false => exact X.invokestatic C.1.1 C.2.1.1 (E.1 _ hw rfl args) hnamed f1 hstatic hkP hinitP g3 (g := F0 m pc lsR (st.map (mm_rv P))) rfl hlen hstack hdc
  obtain ⟨vm', X₁, hst1⟩ := hstep
  obtain ⟨T', L, cells', slots', X', hr', hl', n1, z1, hsteps⟩ := mm_enter C h149 hok (rest := st.drop (tb_na z)) (by rw [List.length_drop]; omega) F hdc X₁ hT hr hlv.1 hl hn hzz q1 q2 q3 q4 IH
  obtain ⟨t, ht, hQ⟩ := K T' _ cells' slots' lsR X' hr' hlv hl' n1 z1
  exact ⟨t, hst1 t (fun acts => (hsteps acts).trans ht), hQ⟩
theorem sg_virtual {z : Nat} {res : Option Value ⊕ Nat} (C : mm_Cx P y (d + 1) p R s m meth c) (hc : tb_cod y pc = some (.invokevirtual k, 3)) (hk : tb_ca y k = some z) (hz : z < 1000) (hst : tb_sta z = false) (hini : (tb_y z).name ≠ "<init>") (hcls : tb_cls z < 11) (h1a : tb_na z ≤ st.length) (h1b : st.length ≤ tb_na z + 8) (hv : st[tb_na z - 1]? = some (.ref a)) (hka : (mm_s h a).1 = tb_cls z) (hok : mm_eok z (mm_ent z (st.take (tb_na z)).reverse) = true)
    (q1 : mm_n h1 ≤ n0 + R.cells) (q2 : mm_z h1 ≤ z0 + R.slots) (q3 : mm_n h ≤ mm_n h1) (q4 : mm_z h ≤ mm_z h1)
    (IH : ∀ (R' : Room) (s' : State) (m' : MethodId) (args' : Array Value) (below' : List Frame) (meth' : Method) (c' : Code), mm_Cx P z d p R' s' m' meth' c' → mm_n h1 ≤ mm_n h + R'.cells → mm_z h1 ≤ mm_z h + R'.slots → mm_G P z (mm_n h) (mm_z h) p l e R' s' m' args' below' meth' c' (mm_fin P s' below' (mm_n h) (mm_z h) res h1) 0 (mm_ent z (st.take (tb_na z)).reverse) [] h)
    (K : mm_K P y n0 z0 p l e R s m args below meth c Q pc ls (st.drop (tb_na z)) res h1) : mm_G P y n0 z0 p l e R s m args below meth c Q pc ls st h := by
  intro H locs cells slots lsR hr hlv hl hn hzz T hT X
  have E := C.2.1.2.2.2
  obtain ⟨h0, nest, hw⟩ := mm_ca_spec hk hz
  have h149 := mm_ca_lt hk hz
  obtain ⟨mk, methk, ck, F⟩ := mm_callee E h0 h149
  have F' := F
  obtain ⟨hnamed, f1, f2, f3, f4, f5, f6, f7, f8, f9, f10⟩ := F'
  obtain ⟨g1, g2, g3, g4⟩ := mm_plain h149
  have hokM := mm_okM h0 h149
  unfold tb_okM at hokM
  simp only [hst, Bool.false_eq_true, if_false, Bool.false_or, Bool.and_eq_true, Bool.or_eq_true, beq_iff_eq, decide_eq_true_eq] at hokM
  have hinst := E.1 _ (List.mem_of_getElem? hokM.1) rfl args
  have hsel := E.1 _ (List.mem_of_getElem? (hokM.2.1.resolve_left hini)) rfl args
  obtain ⟨ha, ha0, cell, e1, e2, e3, e4⟩ := hr.obj hka hcls
  obtain ⟨mk2, methM, hnamed2, hmethM, hstM, habM⟩ := Cond.instanceMethod_spec hinst
  cases hnamed.symm.trans hnamed2
  cases f1.symm.trans hmethM
  obtain ⟨c2, r2, m2, s1, s2, s3, s4, kP, hkP, hkPi⟩ := Cond.selects_spec hsel
  have hfc : s.vm.findClass (tb_y z).cls = some cell.cls := by
    have := (E.2.1 (tb_cls z) _ (tb_cl_at (tb_cls z) hcls)).2.1
    rw [e2]; exact this
  cases hfc.symm.trans s1
  cases (State.methodFound?_of_named hnamed g3).symm.trans s2
  cases hnamed.symm.trans s3
  have hselP : selectMethod e.platform s.vm cell.cls mk = .method mk := by rw [Launch.admits_selectMethod X.admits]; exact s4
  have hna : 1 ≤ tb_na z := by
    rw [f8] at g4
    simp only [Option.map_some, hst, Bool.false_eq_true, if_false, Option.some.injEq] at g4
    omega
  have hrev : (st.take (tb_na z)).reverse = .ref a :: (st.take (tb_na z - 1)).reverse := by
    have : st.take (tb_na z) = st.take (tb_na z - 1) ++ [.ref a] := by
      have h3 : tb_na z = tb_na z - 1 + 1 := by omega
      rw [h3, List.take_succ, show tb_na z - 1 + 1 - 1 = tb_na z - 1 by omega, hv]
      rfl
    rw [this, List.reverse_append]
    rfl
  have hlen : (((st.take (tb_na z - 1)).reverse).map (mm_rv P)).length = methk.sig.parameters.length := by
    rw [f8] at g4
    simp only [Option.map_some, hst, Bool.false_eq_true, if_false, Option.some.injEq] at g4
    simp [List.length_take]
    omega
  have hstack : st.map (mm_rv P) = (((st.take (tb_na z - 1)).reverse).map (mm_rv P)).reverse ++ .ref (mm_ad P a) :: (st.drop (tb_na z)).map (mm_rv P) := by
    have h4 : st = (st.take (tb_na z)).reverse.reverse ++ st.drop (tb_na z) := mm_split h1a
    rw [hrev] at h4
    conv => lhs; rw [h4]
    simp [mm_rv]
  have harr : (((st.take (tb_na z)).reverse).map (mm_rv P)).toArray = (Value.ref (mm_ad P a) :: ((st.take (tb_na z - 1)).reverse).map (mm_rv P)).toArray := by rw [hrev]; rfl
  have hdc : decode c.code pc = .ok (.invokevirtual k, 3) := by rw [C.1.2.1]; exact (mm_dec hc).1
  have hobj : ∀ z', cell.vm ≠ .statics z' := fun z' q => by rw [e3] at q; cases q
  have hcell : T.heap[mm_ad P a]? = some cell := by rw [hT]; exact e1
  have hstep : ∃ vm', Stand p l e R s m args below meth c (T.setVm vm') locs cells slots ∧ ∀ target, (∀ acts, Steps p.tables e below (doInvoke e ((T.setVm vm').setTop (F0 m pc lsR ((st.drop (tb_na z)).map (mm_rv P)))) acts mk (((st.take (tb_na z)).reverse).map (mm_rv P)).toArray).1 target) → Steps p.tables e below (T.setTop (F0 m pc lsR (st.map (mm_rv P)))) target := by
    rw [harr]
    cases nest with
    | true => exact X.invokevirtualNest C.1.1 C.2.1.1 (E.1 _ hw rfl args) hnamed f1 hstM hkP hkPi g3 (a := mm_ad P a) (cell := cell) hcell hobj hselP f1 habM hkP hkPi (g := F0 m pc lsR (st.map (mm_rv P))) rfl hlen hstack hdc
    | false => exact X.invokevirtual C.1.1 C.2.1.1 (E.1 _ hw rfl args) hnamed f1 hstM hkP hkPi g3 (a := mm_ad P a) (cell := cell) hcell hobj hselP f1 habM hkP hkPi (g := F0 m pc lsR (st.map (mm_rv P))) rfl hlen hstack hdc
  obtain ⟨vm', X₁, hst1⟩ := hstep
  obtain ⟨T', L, cells', slots', X', hr', hl', n1, z1, hsteps⟩ := mm_enter C h149 hok (rest := st.drop (tb_na z)) (by rw [List.length_drop]; omega) F hdc X₁ hT hr hlv.1 hl hn hzz q1 q2 q3 q4 IH
  obtain ⟨t, ht, hQ⟩ := K T' _ cells' slots' lsR X' hr' hlv hl' n1 z1
  exact ⟨t, hst1 t (fun acts => (hsteps acts).trans ht), hQ⟩
theorem sg_special {z : Nat} {res : Option Value ⊕ Nat} (C : mm_Cx P y (d + 1) p R s m meth c) (hc : tb_cod y pc = some (.invokespecial k, 3)) (hk : tb_ca y k = some z) (hz : z < 1000) (hst : tb_sta z = false) (hini : (tb_y z).name = "<init>") (hhan : tb_han.getD z [] = []) (hrt : tb_rt z = 0) (h1a : tb_na z ≤ st.length) (h1b : st.length ≤ tb_na z + 8) (hv : st[tb_na z - 1]? = some (.ref a)) (hok : mm_eok z (mm_ent z (st.take (tb_na z)).reverse) = true)
    (q1 : mm_n h1 ≤ n0 + R.cells) (q2 : mm_z h1 ≤ z0 + R.slots) (q3 : mm_n h ≤ mm_n h1) (q4 : mm_z h ≤ mm_z h1)
    (IH : ∀ (R' : Room) (s' : State) (m' : MethodId) (args' : Array Value) (below' : List Frame) (meth' : Method) (c' : Code), mm_Cx P z d p R' s' m' meth' c' → mm_n h1 ≤ mm_n h + R'.cells → mm_z h1 ≤ mm_z h + R'.slots → mm_G P z (mm_n h) (mm_z h) p l e R' s' m' args' below' meth' c' (mm_fin P s' below' (mm_n h) (mm_z h) res h1) 0 (mm_ent z (st.take (tb_na z)).reverse) [] h)
    (K : mm_K P y n0 z0 p l e R s m args below meth c Q pc ls (st.drop (tb_na z)) res h1) : mm_G P y n0 z0 p l e R s m args below meth c Q pc ls st h := by
  intro H locs cells slots lsR hr hlv hl hn hzz T hT X
  have E := C.2.1.2.2.2
  obtain ⟨h0, nest, hw⟩ := mm_ca_spec hk hz
  have h149 := mm_ca_lt hk hz
  obtain ⟨mk, methk, ck, F⟩ := mm_callee E h0 h149
  have F' := F
  obtain ⟨hnamed, f1, f2, f3, f4, f5, f6, f7, f8, f9, f10⟩ := F'
  obtain ⟨g1, g2, g3, g4⟩ := mm_plain h149
  have hokM := mm_okM h0 h149
  unfold tb_okM at hokM
  simp only [hst, Bool.false_eq_true, if_false, Bool.and_eq_true, decide_eq_true_eq] at hokM
  have hinst := E.1 _ (List.mem_of_getElem? hokM.1) rfl args
  have hcode : (Cond.code (tb_y z) (tb_byt.getD z ⟨#[]⟩) (tb_nL z) none).before args s = true := by
    have hmem := mm_mem h0 h149
    have e0 : tb_cw z = .code (tb_y z) (tb_byt.getD z ⟨#[]⟩) (tb_nL z) none := by
      unfold tb_cw
      rw [hhan]
      have : tb_rty z = none := by unfold tb_rty; rw [hrt]; rfl
      simp [this]
    rw [e0] at hmem
    exact E.1 _ hmem rfl args
  have hna : 1 ≤ tb_na z := by
    rw [f8] at g4
    simp only [Option.map_some, hst, Bool.false_eq_true, if_false, Option.some.injEq] at g4
    omega
  have hrev : (st.take (tb_na z)).reverse = .ref a :: (st.take (tb_na z - 1)).reverse := by
    have : st.take (tb_na z) = st.take (tb_na z - 1) ++ [.ref a] := by
      have h3 : tb_na z = tb_na z - 1 + 1 := by omega
      rw [h3, List.take_succ, show tb_na z - 1 + 1 - 1 = tb_na z - 1 by omega, hv]
      rfl
    rw [this, List.reverse_append]
    rfl
  have hlen : ∀ sig, parseMethodDescriptor (tb_y z).desc = some sig → (((st.take (tb_na z - 1)).reverse).map (mm_rv P)).length = sig.parameters.length := by
    intro sig hsig
    rw [hsig] at g4
    simp only [Option.map_some, hst, Bool.false_eq_true, if_false, Option.some.injEq] at g4
    simp [List.length_take]
    omega
  have hstack : st.map (mm_rv P) = (((st.take (tb_na z - 1)).reverse).map (mm_rv P)).reverse ++ .ref (mm_ad P a) :: (st.drop (tb_na z)).map (mm_rv P) := by
    have h4 : st = (st.take (tb_na z)).reverse.reverse ++ st.drop (tb_na z) := mm_split h1a
    rw [hrev] at h4
    conv => lhs; rw [h4]
    simp [mm_rv]
  have harr : (((st.take (tb_na z)).reverse).map (mm_rv P)).toArray = (Value.ref (mm_ad P a) :: ((st.take (tb_na z - 1)).reverse).map (mm_rv P)).toArray := by rw [hrev]; rfl
  have hdc : decode c.code pc = .ok (.invokespecial k, 3) := by rw [C.1.2.1]; exact (mm_dec hc).1
  have hpl : e.platform.magicAccessors = ({} : Platform).magicAccessors := by rw [X.admits.platform]
  have hstep : ∃ vm', Stand p l e R s m args below meth c (T.setVm vm') locs cells slots ∧ ∀ target, (∀ acts, Steps p.tables e below (doInvoke e ((T.setVm vm').setTop (F0 m pc lsR ((st.drop (tb_na z)).map (mm_rv P)))) acts mk (((st.take (tb_na z)).reverse).map (mm_rv P)).toArray).1 target) → Steps p.tables e below (T.setTop (F0 m pc lsR (st.map (mm_rv P)))) target := by
    rw [harr]
    cases nest with
    | true =>
      obtain ⟨mk2, methM, cM, kP, vm₁, hn2, hmethM, hcodeM, -, hlocalsM, -, hkP, -, hW₁, hstep₁⟩ := Steps.initColdArgsNest (e := e) X.here C.1.1 X.warmed hpl C.2.1.1 hini g3 (E.1 _ hw rfl args) hinst hcode (f := F0 m pc lsR (st.map (mm_rv P))) rfl hlen hstack hdc
      cases hnamed.symm.trans hn2
      exact ⟨vm₁, X.noted hW₁, hstep₁⟩
    | false =>
      obtain ⟨mk2, methM, cM, kP, vm₁, hn2, hmethM, hcodeM, -, hlocalsM, -, hkP, -, hW₁, hstep₁⟩ := Steps.initColdArgs (e := e) X.here C.1.1 X.warmed hpl C.2.1.1 hini g3 (E.1 _ hw rfl args) hinst hcode (f := F0 m pc lsR (st.map (mm_rv P))) rfl hlen hstack hdc
      cases hnamed.symm.trans hn2
      exact ⟨vm₁, X.noted hW₁, hstep₁⟩
  obtain ⟨vm', X₁, hst1⟩ := hstep
  obtain ⟨T', L, cells', slots', X', hr', hl', n1, z1, hsteps⟩ := mm_enter C h149 hok (rest := st.drop (tb_na z)) (by rw [List.length_drop]; omega) F hdc X₁ hT hr hlv.1 hl hn hzz q1 q2 q3 q4 IH
  obtain ⟨t, ht, hQ⟩ := K T' _ cells' slots' lsR X' hr' hlv hl' n1 z1
  exact ⟨t, hst1 t (fun acts => (hsteps acts).trans ht), hQ⟩
end
