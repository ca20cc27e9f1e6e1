/-! AN EXCEPTION'S CONSTRUCTOR -/
section
set_option maxHeartbeats 2000000 in
theorem mm_ox (P : mm_P) (l : Launch) (hf : l.flags = flags0) : mm_OX P l := by
  intro y d n0 z0 p e R s m args below meth c Q pc k z a q ls r h C hc hk hz hka hrl K H locs cells slots lsR hr hlv hl hn hzz T hT X
  subst hT
  have htr : e.platform.stackTraces = false := Launch.traces_off hf X.admits
  have howns : e.platform.frameOwnsMonitors = true := by rw [X.admits.platform]
  have hfin : e.platform.finalization = false := by rw [X.admits.platform]
  have hpl : e.platform.magicAccessors = ({} : Platform).magicAccessors := by rw [X.admits.platform]
  have E := C.2.1.2.2.2
  obtain ⟨ha, ha0, h33, cell, e1, e2, e3, x1, x2, kX, hkX, hord, hsize, hnull⟩ := hr.exc hka (by omega)
  obtain ⟨i, hi⟩ := Nat.exists_eq_add_of_le (show 1001 ≤ z by omega)
  have hkd : z - 971 = 30 + i := by omega
  rw [hkd] at e2
  have hi4 : i < 4 := by omega
  obtain ⟨hfX, -⟩ := E.2.2.2.2.1 i hi4
  have hfound : s.vm.findClass (mm_xn i) = some cell.cls := by rw [e2]; exact hfX
  have hw : Cond.methodLink (tb_nm (tb_cls y)) k (Bundle.initS (mm_xn i)) ∈ lw_tbl := by
    unfold tb_ca at hk
    cases hlk : tb_cal.lookup (tb_cls y, k) with
    | none => rw [hlk] at hk; cases hk
    | some w =>
      rw [hlk] at hk
      obtain ⟨w1, w2, w3⟩ := w
      simp only [Option.map_some, Option.some.injEq] at hk
      subst hk
      have hok := List.all_eq_true.mp tb_okC_all _ (mm_lookup hlk)
      unfold tb_okC at hok
      rw [if_neg (show ¬ w1 < 1000 by omega), if_neg (show ¬ w1 = 1000 by omega), decide_eq_true_eq, hkd] at hok
      exact List.mem_of_getElem? hok
  have wT := mm_xT_at E.1 args
  obtain ⟨wA, hfit⟩ := mm_xA_at E.1 args hi4
  have hb1 : P.1.2 ≤ s.heap.size := E.2.2.2.2.2.2.2
  obtain ⟨SU, SS⟩ := hr.1.2
  have wU := SU.at args X.same hb1
  have wS := SS.at args X.same hb1
  have wTh : ∀ w ∈ Bundle.throwableAtoms, w.before args s = true := by
    intro w hw
    by_cases hls : mm_nls w = true
    · exact wT w (by
        unfold mm_xT
        rw [List.mem_append, List.mem_append]
        exact Or.inl (Or.inl (List.mem_filter.mpr ⟨hw, hls⟩)))
    · simp only [Bundle.throwableAtoms, List.mem_cons, List.not_mem_nil, or_false] at hw
      rcases hw with rfl | rfl | rfl | rfl | rfl | rfl | rfl | rfl | rfl | rfl | rfl | rfl | rfl | rfl | rfl | rfl | rfl | rfl | rfl | rfl | rfl | rfl | rfl | rfl <;> first | exact absurd rfl hls | exact wU | exact wS
  obtain ⟨TT, Z0, L, -, Y⟩ := ThrowableC.of_atoms (args := args) howns hfin hpl wTh
  obtain ⟨Z, M, LZ, LM, hnZ⟩ := Init0T.ofS_atoms (args := args) hpl L Y (fun x hx => wT x (by unfold mm_xT; rw [List.mem_append, List.mem_append]; exact Or.inl (Or.inr hx)))
  have wR : ∀ w ∈ [Cond.instanceMethod (Bundle.initS "java/lang/RuntimeException"), .code (Bundle.initS "java/lang/RuntimeException") Bundle.six 2 none, .methodLink "java/lang/RuntimeException" 7 (Bundle.initS "java/lang/Exception"), .instanceMethod (Bundle.initS "java/lang/Exception"), .code (Bundle.initS "java/lang/Exception") Bundle.six 2 none, .methodLink "java/lang/Exception" 7 (Bundle.initS Bundle.tN), .fieldLink Bundle.tN 198 Bundle.tN "backtrace" "Ljava/lang/Object;", .lays Bundle.tN Bundle.tN "backtrace" "Ljava/lang/Object;"], w.before args s = true := fun w hw => wT w (by unfold mm_xT; rw [List.mem_append]; exact Or.inr hw)
  have wI : ∀ w ∈ Bundle.throwableSAtoms, w.before args s = true := fun w hw => wT w (by unfold mm_xT; rw [List.mem_append, List.mem_append]; exact Or.inl (Or.inr hw))
  have dT := mm_decl (wI (.instanceMethod (Bundle.initS Bundle.tN)) (by simp [Bundle.throwableSAtoms])) (wI (.code (Bundle.initS Bundle.tN) LibCode.Throwable.InitS.code 2 none) (by simp [Bundle.throwableSAtoms]))
  have dE := mm_decl (wR (.instanceMethod (Bundle.initS "java/lang/Exception")) (by simp)) (wR (.code (Bundle.initS "java/lang/Exception") Bundle.six 2 none) (by simp))
  have dR := mm_decl (wR (.instanceMethod (Bundle.initS "java/lang/RuntimeException")) (by simp)) (wR (.code (Bundle.initS "java/lang/RuntimeException") Bundle.six 2 none) (by simp))
  have wC : ∀ w ∈ Bundle.chainSAtoms (mm_xn i) ["java/lang/RuntimeException", "java/lang/Exception"], w.before args s = true := by
    intro w hw
    simp only [Bundle.chainSAtoms, Bundle.passSAtoms, List.cons_append, List.nil_append, List.mem_cons, List.not_mem_nil, or_false] at hw
    rcases hw with rfl | rfl | rfl | rfl | rfl | rfl | rfl | rfl | rfl | rfl | rfl | rfl | rfl | rfl | rfl
    · exact wA _ (by simp [mm_xA])
    · exact wA _ (by simp [mm_xA])
    · exact wA _ (by simp [mm_xA])
    · exact wR _ (by simp)
    · exact dR
    · exact wR _ (by simp)
    · exact wR _ (by simp)
    · exact wR _ (by simp)
    · exact wR _ (by simp)
    · exact dE
    · exact wR _ (by simp)
    · exact wR _ (by simp)
    · exact wR _ (by simp)
    · exact wI _ (by simp [Bundle.throwableSAtoms])
    · exact dT
  obtain ⟨P1, Ps, hlen, L1, hL, hP1m, hlink1, hlink⟩ := Bundle.chainS (args := args) hpl hnZ ["java/lang/RuntimeException", "java/lang/Exception"] (mm_xn i) hfit (by decide) wC
  have hcls : P1.m.cls = cell.cls := Option.some.inj ((findClass_of_methodNamed hP1m).symm.trans hfound)
  have hsel0 := mm_sel X.admits hfound Y.fill0 (State.methodFound?_of_named Y.fill0 (by decide)) (wA (.selects (mm_xn i) Bundle.tFill0 Bundle.tFill0) (by simp [mm_xA]))
  have hselF := mm_sel X.admits hfound Y.fill (State.methodFound?_of_named Y.fill (by decide)) (wA (.selects (mm_xn i) Bundle.tFill Bundle.tFill) (by simp [mm_xA]))
  obtain ⟨cU, kU, iU, fU, aU, cellU, vU, u1, u2, u3, u4, u5, u6, u7, u8, u9⟩ := SU
  obtain ⟨cS, kS, iS, fS, aS, cellS, vS, s1, s2, s3, s4, s5, s6, s7, s8, s9⟩ := SS
  cases Option.some.inj (u2.symm.trans Y.unassigned)
  cases Option.some.inj (s2.symm.trans Y.sentinel)
  cases Option.some.inj (u4.symm.trans L.statics)
  cases Option.some.inj (s4.symm.trans L.statics)
  cases Option.some.inj (u6.symm.trans s6)
  have hknownS : cellU.vm ≠ .unknown := fun hu => by have := u7.1; rw [hu] at this; cases this
  have hneS : TT.aS ≠ mm_ad P a := fun hq => by
    have q1 := mm_ad_base (P := P) ha0
    have q2 := u5.1
    rw [hq] at q2
    exact absurd q1 (Nat.not_le.mpr q2)
  obtain ⟨ci198, i198, fB, hk198, hg198, ha198, hsB, -, hnB, htB, hffB⟩ := Cond.ownField (t := .object "java/lang/Object") Y.found L.cls (by decide +kernel) (wR (.fieldLink Bundle.tN 198 Bundle.tN "backtrace" "Ljava/lang/Object;") (by simp)) (wR (.lays Bundle.tN Bundle.tN "backtrace" "Ljava/lang/Object;") (by simp)) e.platform hpl
  obtain ⟨iM, hffM⟩ := Y.msg
  have tyC := (Cond.laysAt hfound hkX Y.cause (wA (.lays (mm_xn i) Bundle.tN "cause" "Ljava/lang/Throwable;") (by simp [mm_xA]))).1
  have tyS := (Cond.laysAt hfound hkX Y.stack (wA (.lays (mm_xn i) Bundle.tN "stackTrace" Bundle.steD) (by simp [mm_xA]))).1
  have tyP := (Cond.laysAt hfound hkX Y.supp (wA (.lays (mm_xn i) Bundle.tN "suppressedExceptions" Bundle.listD) (by simp [mm_xA]))).1
  have tyM := (Cond.laysAt hfound hkX hffM (wA (.lays (mm_xn i) Bundle.tN "detailMessage" "Ljava/lang/String;") (by simp [mm_xA]))).1
  have tyB := (Cond.laysAt hfound hkX hffB (wA (.lays (mm_xn i) Bundle.tN "backtrace" "Ljava/lang/Object;") (by simp [mm_xA]))).1
  have tyC' := tyC
  have tyS' := tyS
  have tyP' := tyP
  have tyM' := tyM
  rw [Y.causeType] at tyC'
  rw [Y.stackType] at tyS'
  rw [Y.suppType] at tyP'
  rw [Y.msgType] at tyM'
  rw [htB] at tyB
  have nO : ∀ j : Nat, kX.instanceTypes[j]? = some (.object "java/lang/Object") → TT.fCause.slot ≠ j ∧ TT.fStack.slot ≠ j ∧ TT.fSupp.slot ≠ j ∧ TT.fMsg.slot ≠ j := fun j hj => ⟨mm_ne tyC' hj (by decide), mm_ne tyS' hj (by decide), mm_ne tyP' hj (by decide), mm_ne tyM' hj (by decide)⟩
  have hB := nO _ tyB
  have hskip : SkipFacts TT e.platform s (fun u => u) ⟨vU, u9⟩ ((preparedCellV TT.toThrowableT cell (mm_ad P a) ⟨vU, u9⟩ ⟨vS, s9⟩).withEntry T.cur) := by
    refine ⟨{ ci198 := ci198, i198 := i198, fBack := fB }, ⟨hk198, hg198, ha198, hsB⟩, ?_, fun _ _ => rfl⟩
    show (((cell.slots.setIfInBounds TT.fCause.slot _).setIfInBounds TT.fStack.slot _).setIfInBounds TT.fSupp.slot _)[fB.slot]? = _
    rw [Array.getElem?_setIfInBounds_ne hB.2.2.1, Array.getElem?_setIfInBounds_ne hB.2.1, Array.getElem?_setIfInBounds_ne hB.1]
    exact hnull _ tyB
  have hexec := C.1.1
  have hcb := C.1.2.1
  have hd := (mm_dec hc).1
  rw [← hcb] at hd
  have hsum := mm_catsum (P := P) r
  have hR := C.2.2.2
  obtain ⟨tm, methC, cdC, kC, vm1, hnC, -, -, -, -, -, -, -, hW1, st1⟩ := Steps.initColdS (tb := p.tables) (e := e) (below := below) (s := s) (U := T) X.here hexec X.warmed hpl C.2.1.1 (t := Bundle.initS (mm_xn i)) rfl rfl (Bundle.fit_spec hfit).2
    (E.1 _ hw rfl args) (wA (.instanceMethod (Bundle.initS (mm_xn i))) (by simp [mm_xA])) (bytes := Bundle.six) (maxL := 2) (wA (.code (Bundle.initS (mm_xn i)) Bundle.six 2 none) (by simp [mm_xA]))
    (f := F0 m pc lsR (.ref (P.2.1 q.toNat) :: .ref (mm_ad P a) :: r.map (mm_rv P))) rfl (a := mm_ad P a) (msg := .ref (P.2.1 q.toNat)) (rest := r.map (mm_rv P)) rfl hd
  cases Option.some.inj (hnC.symm.trans hP1m)
  have X1 := X.noted hW1
  obtain ⟨vm2, X2, st2⟩ := X1.ctorMessageOffV hexec (g := F0 m pc lsR (r.map (mm_rv P))) rfl (by rw [C.1.2.2.1]; exact hlv.1) TT L Z LZ M LM (P1 :: Ps)
    (fun W hW => by
      rcases List.mem_cons.mp hW with rfl | hW
      · exact L1
      · exact hL W hW) ⟨hlink1, hlink⟩ (u0 := ⟨vU, u9⟩) (sen := ⟨vS, s9⟩) (self := mm_ad P a) (msg := .ref (P.2.1 q.toNat)) rfl (cell := cell) (cellS := cellU)
    e1 (fun w => by rw [e3]; exact fun z => by cases z) (by rw [e3]; exact fun z => by cases z) x1 x2 hsel0 hselF u6 hneS hknownS u8 s8
    (mm_tk hkX hord hsize e3 tyC (by rw [Y.causeType]; rfl)) (mm_tk hkX hord hsize e3 tyS (by rw [Y.stackType]; exact fits_refV_array _ ⟨vU, u9⟩)) (mm_tk hkX hord hsize e3 tyP (by rw [Y.suppType]; exact fits_refV_object _ ⟨vS, s9⟩))
    (mm_tk hkX hord hsize e3 tyM (by rw [Y.msgType]; rfl)) Y.objLocals hskip htr [] hd
    (by simp only [List.length_cons, hlen, List.length_nil]; omega) (by
      simp only [List.length_cons, hlen, List.length_nil]
      show 2 * 0 + _ + (13 * (0 + 1 + 1 + 1) + 42) ≤ R.locals
      omega)
  have hlt : mm_ad P a < T.heap.size := (Array.getElem?_eq_some_iff.mp e1).1
  have hU := heapAt_setCell_self (s := (T.setVm vm1).setVm vm2) (plainBareV TT.toThrowableT cell (mm_ad P a) ⟨vU, u9⟩ ⟨vS, s9⟩ (.ref (P.2.1 q.toNat))) hlt
  have rep2 : mm_rep P s h (((T.setVm vm1).setVm vm2).setCell (mm_ad P a) (plainBareV TT.toThrowableT cell (mm_ad P a) ⟨vU, u9⟩ ⟨vS, s9⟩ (.ref (P.2.1 q.toNat)))).heap := by
    refine hr.upd ha (by simp [State.setCell]) (fun w hw => State.heap_setCell_other (fun z => hw z.symm)) rfl rfl (fun _ _ _ => rfl) (fun _ _ _ => rfl) (fun _ _ _ => rfl) ⟨_, hU, by show cell.vm ≠ _; rw [e3]; exact (fun z => by cases z), ?_⟩
    rw [mm_cl, hka, hkd]
    refine Or.inr (Or.inr ⟨⟨by omega, by omega⟩, e2, e3, x1, x2, kX, hkX, hord, ?_, fun j hj => ?_⟩)
    · show (((((cell.slots.setIfInBounds _ _).setIfInBounds _ _).setIfInBounds _ _).setIfInBounds _ _).setIfInBounds _ _).size = _
      simp only [Array.size_setIfInBounds]
      exact hsize
    · obtain ⟨j1, j2, j3, j4⟩ := nO j hj
      show (((((cell.slots.setIfInBounds TT.fCause.slot _).setIfInBounds TT.fStack.slot _).setIfInBounds TT.fSupp.slot _).setIfInBounds TT.fStack.slot _).setIfInBounds TT.fMsg.slot _)[j]? = _
      rw [Array.getElem?_setIfInBounds_ne j4, Array.getElem?_setIfInBounds_ne j2, Array.getElem?_setIfInBounds_ne j3, Array.getElem?_setIfInBounds_ne j2, Array.getElem?_setIfInBounds_ne j1]
      exact hnull j hj
  obtain ⟨t, hs, hQ⟩ := K _ _ cells slots lsR rep2 hlv (fun w hw => by
    rcases List.mem_append.mp hw with w1 | w1
    · exact hl w w1
    · have hwb : w.base = mm_ad P a := by
        simp only [List.mem_cons, List.not_mem_nil, or_false] at w1
        rcases w1 with rfl | rfl | rfl | rfl | rfl <;> rfl
      rw [hwb]
      exact mm_ad_base ha0) hn hzz _ rfl X2
  refine ⟨t, st1 t (fun acts => ?_), hQ⟩
  rw [doInvoke_state]
  exact st2 t hs
end
