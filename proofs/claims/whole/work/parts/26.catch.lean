/-! A CATCH, THE CATCH'S CLASS COLD OR WARM -/
section
variable {E : CtlPost} {e : Env} {d : Bool} {acts : List Action} {s : State} {f : JFrame} {a : Addr} {Q : Handler → Pre}
theorem mm_goCold {x : ExceptionTableEntry} {t : List ExceptionTableEntry} {c : ClassId} {cell : Cell} {vm' : Vm} (hx : covers x f.pc = true) (h0 : x.catchType ≠ 0)
    (hg : (Jvm.resolveClass f.method.cls x.catchType).Gives e.toSetting s.vm (.ok c) vm') (hsz : vm'.classes.size ≤ s.vm.classes.size) (hcell : s.heap[a]? = some cell) (hobj : ∀ k, cell.vm ≠ .statics k)
    (hk : ∃ k, vm'.classes[cell.cls]? = some k) (hc : ∃ k, vm'.classes[c]? = some k) :
    wp (findHandler.go f a (x :: t)) Q E e d acts s ↔ if vm'.assignable cell.cls c = true then Q (.found x.handlerPc) d acts (s.setVm vm') else wp (findHandler.go f a t) Q E e d acts (s.setVm vm') := by
  simp only [covers] at hx
  obtain ⟨ha, ht⟩ := hg.op (op := VmOp.resolveClass f.method.cls x.catchType) rfl
  cases hfit : vm'.assignable cell.cls c <;> simp [findHandler.go, hx, h0, ha, ht, hsz, hcell, hobj, hk, hc, hfit, VmOp.dirties, VmOp.acts]
end
/-- the search ends there, at warmer tables -/
def mm_Fi (e : Env) (U : State) (f : JFrame) (a : Addr) (L : List ExceptionTableEntry) (pc : Nat) (vm' : Vm) : Prop := ∀ (Q : Handler → Pre) (E : CtlPost) (d : Bool) (acts : List Action), wp (findHandler.go f a L) Q E e d acts U ↔ Q (.found pc) d acts (U.setVm vm')
theorem mm_caught {tb : Tables} [Ours tb] {e : Env} {s target : State} {g : JFrame} {c : Code} {below : List Frame} {a : Addr} (h : At s g.method c below) {meth : Method} (hm : s.vm.method? g.method = some meth) (hcd : meth.code = some c) {pc : Nat} {vm' : Vm} (hfind : mm_Fi e ((s.setTop g).pushFrame (.throwing a)) g a c.exceptionTable.toList pc vm')
    (hrest : Steps tb e below ((s.setVm vm').setTop { g with pc := pc, stack := [.ref a] }) target) : Steps tb e below ((s.setTop g).pushFrame (.throwing a)) target := by
  obtain ⟨hgo, hw⟩ := h.throwing a
  refine Steps.head hgo hw ?_
  have hm2 : ((s.setTop g).pushFrame (.throwing a)).vm.method? g.method = some meth := by rw [Stand.throwing_vm]; exact hm
  have hstep : (stepThrowing e ((s.setTop g).pushFrame (.throwing a)) a (.java g :: s.frames.tail)).1 = (((s.setTop g).pushFrame (.throwing a)).setVm vm').setFrames (.java { g with pc := pc, stack := [.ref a] } :: s.frames.tail) := by
    simp only [stepThrowing, searchFrame, vmDo]
    generalize hr : Sem.go _ e false [] ((s.setTop g).pushFrame (.throwing a)) = res
    obtain ⟨as, rfl, ha⟩ := Sem.eq_ok_of hr (a := Handler.found pc) (s' := ((s.setTop g).pushFrame (.throwing a)).setVm vm') (acts' := []) (by simp [W.findHandler_eq hm2 hcd, hfind _ _ _ _])
    rfl
  rw [stepThread_throwing (frames_entered h.top _), hstep]
  obtain ⟨g₀, hg⟩ := Option.isSome_iff_exists.mp h.top
  obtain ⟨r, hr⟩ := State.topJava?_eq_some.mp hg
  have hr' : (s.setVm vm').frames = .java g₀ :: r := hr
  rw [State.setTop_of_frames _ hr'] at hrest
  have hs : ∀ (A B D : List Frame), ((((s.setFrames A).setFrames B).setVm vm').setFrames D) = (s.setVm vm').setFrames D := by
    intro A B D
    show ((((s.setVm vm').setFrames A).setFrames B).setFrames D) = _
    rw [State.setFrames_setFrames, State.setFrames_setFrames]
  rw [State.pushFrame, State.setTop_of_frames _ hr, hr, hs]
  exact hrest
def tb_okH (y : Nat) : Bool := (tb_han.getD y []).all fun q => decide (q.2.2.2.2 ≠ 0 ∧ 30 ≤ q.2.2.2.1 ∧ q.2.2.2.1 ≤ 33) && decide (tb_ck y q.2.2.2.2 = some q.2.2.2.1)
theorem tb_okH_all : (List.range 149).all tb_okH = true := by decide +kernel
section
variable {P : mm_P} {y d n0 z0 : Nat} {p : Program} {l : Launch} {e : Env} {R : Room} {s : State} {m : MethodId} {args : Array Value} {below : List Frame} {meth : Method} {c : Code} {Q : State → Prop} {pc k : Nat} {ls ls' st r : List Value} {h h1 : mm_H}
theorem mm_find (C : mm_Cx P y d p R s m meth c) (hpl : e.platform.magicAccessors = ({} : Platform).magicAccessors) {kd : Nat} {f : JFrame} {ad : Nat} {cell : Cell} (hf : f.method = m) (hpc : f.pc = pc) (h30 : 30 ≤ kd) (h33 : kd ≤ 33) (hcls : cell.cls = P.2.2.2 kd) (hvm : cell.vm = .none) :
    ∀ (L : List ExceptionTableEntry) (HL : List (Nat × Nat × Nat × Nat × Nat)), L.map (fun h => (h.startPc, h.endPc, h.handlerPc, h.catchType)) = HL.map (fun q => (q.1, q.2.1, q.2.2.1, q.2.2.2.2)) → (∀ q ∈ HL, (q.2.2.2.2 ≠ 0 ∧ 30 ≤ q.2.2.2.1 ∧ q.2.2.2.1 ≤ 33) ∧ tb_ck y q.2.2.2.2 = some q.2.2.2.1) →
      ∀ (U : State), s.WarmedH U.vm → U.heap[ad]? = some cell → ∀ pc', (HL.find? (fun q => decide (q.1 ≤ pc) && (decide (pc < q.2.1) && decide (q.2.2.2.1 = kd)))).map (·.2.2.1) = some pc' → ∃ vm', s.WarmedH vm' ∧ mm_Fi e U f ad L pc' vm' := by
  intro L
  induction L with
  | nil =>
    intro HL hmap _ U _ _ pc' hfd
    cases HL with
    | nil => simp at hfd
    | cons q t => simp at hmap
  | cons z t ih =>
    intro HL hmap hok U hW hcell pc' hfd
    cases HL with
    | nil => simp at hmap
    | cons q t' =>
      simp only [List.map_cons, List.cons.injEq, Prod.mk.injEq] at hmap
      obtain ⟨⟨e1, e2, e3, e4⟩, hmap'⟩ := hmap
      obtain ⟨⟨k0, k1, k2⟩, hck⟩ := hok q List.mem_cons_self
      have hok' : ∀ q ∈ t', (q.2.2.2.2 ≠ 0 ∧ 30 ≤ q.2.2.2.1 ∧ q.2.2.2.1 ≤ 33) ∧ tb_ck y q.2.2.2.2 = some q.2.2.2.1 := fun q hq => hok q (List.mem_cons_of_mem _ hq)
      by_cases hcov : covers z f.pc = true
      · have E := C.2.1.2.2.2
        have hks : q.2.2.2.1 ∈ tb_ks := (mm_ck_ks hck).resolve_right (by omega)
        obtain ⟨i, hi⟩ := Nat.exists_eq_add_of_le k1
        obtain ⟨j, hj⟩ := Nat.exists_eq_add_of_le h30
        have hcl : Cond.classLink (tb_nm (tb_cls y)) q.2.2.2.2 (mm_xn i) ∈ lw_tbl := by
          rcases mm_ck_spec hck with w | w
          · have w2 := w.2
            rw [hi] at w2
            exact w2
          · omega
        obtain ⟨cc, hfcc, hcl2⟩ := Cond.classLink_spec C.2.1.1 (E.1 _ hcl rfl #[]) e.platform hpl
        obtain ⟨hfi, kI, hkI, hkindI⟩ := E.2.2.2.2.1 i (by omega)
        obtain ⟨hfj, kJ, hkJ, hkindJ⟩ := E.2.2.2.2.1 j (by omega)
        have hcc : cc = P.2.2.2 (30 + i) := Option.some.inj (hfcc.symm.trans hfi)
        subst hcc
        obtain ⟨hg, hW', -⟩ := State.classEntry (e := e) hW hcl2
        have hsz : (U.vm.noted m.cls q.2.2.2.2 (.cls (P.2.2.2 (30 + i)))).classes.size ≤ U.vm.classes.size := by simp [Vm.noted]
        generalize U.vm.noted m.cls q.2.2.2.2 (.cls (P.2.2.2 (30 + i))) = vm1 at hg hW' hsz
        have hobj : ∀ k, cell.vm ≠ .statics k := fun k q => by rw [hvm] at q; cases q
        have hkc : ∃ k, vm1.classes[cell.cls]? = some k := by
          obtain ⟨k', hk', -⟩ := hW'.alike.2.2 _ _ hkJ
          rw [hcls, hj]; exact ⟨k', hk'⟩
        have hkt : ∃ k, vm1.classes[P.2.2.2 (30 + i)]? = some k := by
          obtain ⟨k', hk', -⟩ := hW'.alike.2.2 _ _ hkI
          exact ⟨k', hk'⟩
        have hgo : ∀ (Q : Handler → Pre) (E : CtlPost) (d : Bool) (acts : List Action), wp (findHandler.go f ad (z :: t)) Q E e d acts U ↔ if vm1.assignable cell.cls (P.2.2.2 (30 + i)) = true then Q (.found z.handlerPc) d acts (U.setVm vm1) else wp (findHandler.go f ad t) Q E e d acts (U.setVm vm1) := fun Q E d acts => mm_goCold hcov (by rw [e4]; exact k0) (by rw [hf, e4]; exact hg) hsz hcell hobj hkc hkt
        by_cases hkd : q.2.2.2.1 = kd
        · have hij : i = j := by omega
          subst hij
          have hasg : vm1.assignable cell.cls (P.2.2.2 (30 + i)) = true := by
            rw [hW'.alike.assignable, hcls, hj]
            exact va_assign ⟨hfi, kI, hkI, hkindI⟩
          have hpc' : pc' = z.handlerPc := by
            rw [List.find?_cons_of_pos (by
              simp only [covers, Bool.and_eq_true, decide_eq_true_eq] at hcov ⊢
              rw [← hpc, ← e1, ← e2]
              exact ⟨hcov.1, hcov.2, hkd⟩)] at hfd
            simp only [Option.map_some, Option.some.injEq] at hfd
            rw [← hfd, e3]
          subst hpc'
          refine ⟨vm1, hW', fun Q E d acts => ?_⟩
          rw [hgo, if_pos hasg]
        · have hne : j ≠ i := by omega
          have hasg : vm1.assignable cell.cls (P.2.2.2 (30 + i)) = false := by
            obtain ⟨c1, c2, n1, n2, n3⟩ := E.2.2.2.2.2.1 j i (by omega) (by omega) hne
            cases hfj.symm.trans n1
            cases hfi.symm.trans n2
            rw [hW'.alike.assignable, hcls, hj]
            exact n3
          rw [List.find?_cons_of_neg (by
            simp only [Bool.and_eq_true, decide_eq_true_eq]
            exact fun w => hkd w.2.2)] at hfd
          obtain ⟨vm2, hW2, hF⟩ := ih t' hmap' hok' (U.setVm vm1) hW' hcell pc' hfd
          refine ⟨vm2, hW2, fun Q E d acts => ?_⟩
          rw [hgo, if_neg (by rw [hasg]; decide), hF Q E d acts]
          rfl
      · have hcov' : covers z f.pc = false := by simpa using hcov
        rw [List.find?_cons_of_neg (by
          simp only [Bool.and_eq_true, decide_eq_true_eq]
          intro w
          apply hcov
          simp only [covers, Bool.and_eq_true, decide_eq_true_eq]
          rw [hpc, e1, e2]
          exact ⟨w.1, w.2.1⟩)] at hfd
        obtain ⟨vm2, hW2, hF⟩ := ih t' hmap' hok' U hW hcell pc' hfd
        refine ⟨vm2, hW2, fun Q E d acts => ?_⟩
        rw [W.findHandler_go_skip hcov', hF Q E d acts]
end
theorem mm_oc (P : mm_P) : mm_OC P := by
  intro y d n0 z0 p l e R s m args below meth c Q pc pc' a ls rest h1 C hh G T' locs cells slots lsR X hr hlv hl hn hz
  have hy := C.2.2.1.1
  have hok := List.all_eq_true.mp tb_okH_all y (List.mem_range.mpr hy)
  unfold tb_okH at hok
  have hok2 : ∀ q ∈ tb_han.getD y [], (q.2.2.2.2 ≠ 0 ∧ 30 ≤ q.2.2.2.1 ∧ q.2.2.2.1 ≤ 33) ∧ tb_ck y q.2.2.2.2 = some q.2.2.2.1 := by
    intro q hq
    have := List.all_eq_true.mp hok q hq
    simpa using this
  have h30 : 30 ≤ (mm_s h1 a).1 := by
    unfold mm_hnd at hh
    cases hfd : (tb_han.getD y []).find? (fun q => decide (q.1 ≤ pc) && (decide (pc < q.2.1) && decide (q.2.2.2.1 = (mm_s h1 a).1))) with
    | none => rw [hfd] at hh; cases hh
    | some q =>
      have hm := List.mem_of_find?_eq_some hfd
      have hp := List.find?_some hfd
      simp only [Bool.and_eq_true, decide_eq_true_eq] at hp
      have := (hok2 q hm).1.2.1
      omega
  obtain ⟨ha, ha0, h33, cell, e1, e2, e3, e4⟩ := hr.exc rfl h30
  have hpl : e.platform.magicAccessors = ({} : Platform).magicAccessors := by rw [X.admits.platform]
  obtain ⟨vm', hW', hF⟩ := mm_find C hpl (f := F0 m pc lsR (rest.map (mm_rv P))) (ad := mm_ad P a) rfl rfl h30 h33 e2 e3 c.exceptionTable.toList (tb_han.getD y []) C.2.2.1.2 hok2 ((T'.setTop (F0 m pc lsR (rest.map (mm_rv P)))).pushFrame (.throwing (mm_ad P a))) (by rw [Stand.throwing_vm]; exact X.warmed) (by rw [Stand.throwing_heap]; exact e1) pc' hh
  obtain ⟨t, ht, hQ⟩ := G T'.heap locs cells slots lsR hr hlv hl hn hz (T'.setVm vm') rfl (X.noted hW')
  refine ⟨t, ?_, hQ⟩
  show Steps p.tables e below ((T'.setTop (F0 m pc lsR (rest.map (mm_rv P)))).pushFrame (.throwing (mm_ad P a))) t
  exact mm_caught (g := F0 m pc lsR (rest.map (mm_rv P))) X.here X.method' X.code hF ht
