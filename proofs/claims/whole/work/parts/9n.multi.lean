/-! AN ARRAY OF ARRAYS: the loop that fills it, carried over the model's heap itself -/
section
variable {E : CtlPost} {e : Env} {d : Bool} {acts : List Action} {s : State}
/-- one array is made -/
theorem mm_nA {c comp : ClassId} {k : Class} {ty : FieldType} {len : Nat} {v : Value} {Q : Addr → Pre} (hk : s.vm.classes[c]? = some k) (hkd : k.kind = .array comp ty) (hf : fits ty v = true)
    (b1 : len ≤ e.platform.arrayLengthLimit) (b2 : len * componentBytes ty ≤ e.platform.maxHeapBytes) (b3 : s.heap.size < e.platform.maxCells) (b4 : s.slotsUsed + len ≤ e.platform.maxSlots)
    (hq : ∀ acts', Q s.heap.size d acts' (s.pushCell { cls := c, slots := Array.replicate len v, vm := .none })) : wp (Jvm.newArray c len v) Q E e d acts s := by
  have c1 : ¬ len > e.platform.arrayLengthLimit := Nat.not_lt.mpr b1
  have c2 : ¬ len * componentBytes ty > e.platform.maxHeapBytes := Nat.not_lt.mpr b2
  have c3 : ¬ len > e.platform.maxSlots := by omega
  simp only [Jvm.newArray, Jvm.arrayFits, wp_bind', W.ask, W.ite, wp_pure', W.theClass, W.stop, W.alloc, hk, hkd, c1, c2, c3, if_false, Option.some.injEq, exists_eq_left', Array.size_replicate]
  refine ⟨b3, b4, fun i w hw => ?_, hq _⟩
  rw [Array.getElem?_replicate] at hw
  split at hw
  · cases hw
    simp [State.fitsSlot, State.slotType?, hk, hkd, hf]
  · cases hw
/-- the arrays of an array, one after the other: A i says what holds once i of them are there -/
theorem mm_mk {cA comp cc : ClassId} {kA kC : Class} {x x2 : Int32} {N M : Nat} {A : Nat → State → Prop} {Q : Addr → Pre} (hN : x.toNatClampNeg = N) (hM : x2.toNatClampNeg = M) (hx : ¬ x < 0) (hx2 : ¬ x2 < 0) (hA : kA.kind = .array comp (.array .int)) (hC : kC.kind = .array cc .int)
    (b1 : N ≤ e.platform.arrayLengthLimit) (b2 : N * 4 ≤ e.platform.maxHeapBytes) (b3 : M ≤ e.platform.arrayLengthLimit) (b4 : M * 4 ≤ e.platform.maxHeapBytes)
    (hkA : s.vm.classes[cA]? = some kA) (r1 : s.heap.size < e.platform.maxCells) (r2 : s.slotsUsed + N ≤ e.platform.maxSlots)
    (a0 : A 0 (s.pushCell { cls := cA, slots := Array.replicate N .null, vm := .none }))
    (aS : ∀ i u, i < N → A i u → u.vm.classes[comp]? = some kC ∧ u.heap.size < e.platform.maxCells ∧ u.slotsUsed + M ≤ e.platform.maxSlots ∧ ∃ cell : Cell, (u.pushCell { cls := comp, slots := Array.replicate M (.int 0), vm := .none }).heap[s.heap.size]? = some cell ∧ cell.vm ≠ .unknown ∧ i < cell.slots.size ∧ u.fitsSlot cell.cls cell.vm i (.ref u.heap.size) = true ∧
      A (i + 1) ((u.pushCell { cls := comp, slots := Array.replicate M (.int 0), vm := .none }).setCell s.heap.size (cell.setSlot i (.ref u.heap.size))))
    (hq : ∀ u d' acts', A N u → Q s.heap.size d' acts' u) : wp (multianewarray.make cA [x, x2]) Q E e d acts s := by
  have hnone : ([x2].find? (· < 0)) = none := by simp [hx2]
  rw [multianewarray.make]
  simp only [wp_bind', W.ite, hx, if_false, wp_pure', W.theClass, hkA, hA, Option.some.injEq, exists_eq_left', hN]
  refine mm_nA hkA hA rfl b1 b2 r1 r2 (fun acts1 => ?_)
  simp only [hnone]
  rw [ite_self, wp_bind', Std.Legacy.Range.forIn_eq_forIn_range']
  have hsz : ([:N] : Std.Legacy.Range).size = N := by simp [Std.Legacy.Range.size]
  rw [hsz]
  show wp (forIn (List.range' 0 N 1) PUnit.unit _) _ E e d acts1 _
  refine wp_forIn_inv (fun rest u => ∃ i, i + rest.length = N ∧ rest = List.range' i rest.length ∧ A i u) _ _ ⟨0, by simp, by simp, a0⟩ ?_ ?_
  · rintro j rest u d1 acts2 Q1 ⟨i, h1, h2, h3⟩ hnext
    rw [List.length_cons, List.range'_succ, List.cons.injEq] at h2
    obtain ⟨rfl, h4⟩ := h2
    rw [List.length_cons] at h1
    obtain ⟨q1, q2, q3, cell, q4, q5, q6, q7, q8⟩ := aS j u (by omega) h3
    simp only [wp_bind']
    rw [multianewarray.make]
    simp only [wp_bind', W.ite, hx2, if_false, wp_pure', W.theClass, q1, hC, Option.some.injEq, exists_eq_left', hM]
    refine mm_nA q1 hC rfl b3 b4 q2 q3 (fun acts3 => ?_)
    simp only [wp_bind', W.writeLoc, wp_pure']
    exact ⟨cell, q4, q5, q6, q7, hnext _ _ _ ⟨j + 1, by omega, h4, q8⟩⟩
  · rintro u d1 acts2 ⟨i, h1, -, h3⟩
    have hi : i = N := by simpa using h1
    subst hi
    exact hq _ _ _ h3
end
/-- the model's heap once i of the inner arrays are there -/
def mm_g2 (h : mm_H) (N M : Nat) : Nat → mm_H
  | 0 => mm_nw h 26 N N
  | i + 1 => mm_pr (mm_nw (mm_g2 h N M i) 20 M M) (mm_n h) i (some (mm_n (mm_g2 h N M i)))
theorem mm_g2_n (h : mm_H) (N M : Nat) : ∀ i, mm_n (mm_g2 h N M i) = mm_n h + 1 + i ∧ mm_z (mm_g2 h N M i) = mm_z h + N + i * M
  | 0 => ⟨rfl, by show mm_z h + N = _; omega⟩
  | i + 1 => by
    obtain ⟨a, b⟩ := mm_g2_n h N M i
    refine ⟨?_, ?_⟩
    · show mm_n (mm_g2 h N M i) + 1 = _
      omega
    · show mm_z (mm_g2 h N M i) + M = _
      rw [b, Nat.succ_mul]; omega
theorem mm_g2_s (h : mm_H) (N M b : Nat) : ∀ i, mm_s (mm_g2 h N M i) b = if b = mm_n h then (26, N) else if mm_n h < b ∧ b ≤ mm_n h + i then (20, M) else mm_s h b
  | 0 => by
    show (if b = mm_n h then _ else _) = _
    split
    · rfl
    · rw [if_neg (by omega)]; rfl
  | i + 1 => by
    show mm_s (mm_nw (mm_g2 h N M i) 20 M M) b = _
    rw [mm_s_nw, (mm_g2_n h N M i).1, mm_g2_s h N M b i]
    by_cases e1 : b = mm_n h
    · rw [if_neg (by omega), if_pos e1, if_pos e1]
    · rw [if_neg e1, if_neg e1]
      by_cases e2 : b = mm_n h + 1 + i
      · rw [if_pos e2, if_pos (by omega)]
      · rw [if_neg e2]
        by_cases e3 : mm_n h < b ∧ b ≤ mm_n h + i
        · rw [if_pos e3, if_pos (by omega)]
        · rw [if_neg e3, if_neg (by omega)]
theorem mm_g2_i (h : mm_H) (N M b j : Nat) : ∀ i, mm_i (mm_g2 h N M i) b j = (if mm_n h ≤ b ∧ b ≤ mm_n h + i then 0 else mm_i h b j) ∧ mm_l (mm_g2 h N M i) b j = (if mm_n h ≤ b ∧ b ≤ mm_n h + i then 0 else mm_l h b j)
  | 0 => by
    refine ⟨?_, ?_⟩
    · show mm_i (mm_nw h 26 N N) b j = _
      rw [mm_i_nw]
      by_cases e : b = mm_n h
      · rw [if_pos e, if_pos (by omega)]
      · rw [if_neg e, if_neg (by omega)]
    · show mm_l (mm_nw h 26 N N) b j = _
      rw [mm_l_nw]
      by_cases e : b = mm_n h
      · rw [if_pos e, if_pos (by omega)]
      · rw [if_neg e, if_neg (by omega)]
  | i + 1 => by
    obtain ⟨a, c⟩ := mm_g2_i h N M b j i
    refine ⟨?_, ?_⟩
    · show mm_i (mm_nw (mm_g2 h N M i) 20 M M) b j = _
      rw [mm_i_nw, (mm_g2_n h N M i).1, a]
      by_cases e : b = mm_n h + 1 + i
      · rw [if_pos e, if_pos (by omega)]
      · rw [if_neg e]
        by_cases e3 : mm_n h ≤ b ∧ b ≤ mm_n h + i
        · rw [if_pos e3, if_pos (by omega)]
        · rw [if_neg e3, if_neg (by omega)]
    · show mm_l (mm_nw (mm_g2 h N M i) 20 M M) b j = _
      rw [mm_l_nw, (mm_g2_n h N M i).1, c]
      by_cases e : b = mm_n h + 1 + i
      · rw [if_pos e, if_pos (by omega)]
      · rw [if_neg e]
        by_cases e3 : mm_n h ≤ b ∧ b ≤ mm_n h + i
        · rw [if_pos e3, if_pos (by omega)]
        · rw [if_neg e3, if_neg (by omega)]
theorem mm_g2_r (h : mm_H) (N M b j : Nat) : ∀ i, mm_r (mm_g2 h N M i) b j = if b = mm_n h then (if j < i then some (mm_n h + 1 + j) else none) else if mm_n h ≤ b ∧ b ≤ mm_n h + i then none else mm_r h b j
  | 0 => by
    show mm_r (mm_nw h 26 N N) b j = _
    rw [mm_r_nw]
    by_cases e : b = mm_n h
    · rw [if_pos e, if_pos e, if_neg (by omega)]
    · rw [if_neg e, if_neg e, if_neg (by omega)]
  | i + 1 => by
    show mm_r (mm_pr (mm_nw (mm_g2 h N M i) 20 M M) (mm_n h) i (some (mm_n (mm_g2 h N M i)))) b j = _
    rw [mm_r_pr, mm_r_nw, (mm_g2_n h N M i).1, mm_g2_r h N M b j i]
    repeat' split
    all_goals first | rfl | (exfalso; omega) | (congr 1; omega)
theorem mm_g2_eq (h : mm_H) (N M : Nat) : mm_g2 h N M N = mm_nw2 h 26 20 N M := by
  refine Prod.ext (Prod.ext (mm_g2_n h N M N).1 (mm_g2_n h N M N).2) (Prod.ext ?_ (Prod.ext ?_ (Prod.ext ?_ ?_)))
  · funext b; exact mm_g2_s h N M b N
  · funext b j; exact (mm_g2_i h N M b j N).1
  · funext b j; exact (mm_g2_i h N M b j N).2
  · funext b j; exact mm_g2_r h N M b j N
/-- the states of the loop -/
def mm_fl (U : State) (b : Nat) (ic : Cell) : Nat → State
  | 0 => U
  | i + 1 => ((mm_fl U b ic i).pushCell ic).setCell b ((((mm_fl U b ic i).heap[b]?).getD ic).setSlot i (.ref (mm_fl U b ic i).heap.size))
theorem mm_fitA {u : State} {cell : Cell} {k : Class} {comp : ClassId} (hk : u.vm.classes[cell.cls]? = some k) (hkd : k.kind = .array comp (.array .int)) (hv : ∀ q, cell.vm ≠ .statics q) (i a : Nat) : u.fitsSlot cell.cls cell.vm i (.ref a) = true := by
  unfold State.fitsSlot State.slotType?
  rw [hk]
  cases hvm : cell.vm with
  | statics q => exact absurd hvm (hv q)
  | _ => simp [hkd, fits]
theorem mm_fl_step {P : mm_P} {s U : State} {b N M i : Nat} {ic : Cell} {h : mm_H} (hb : mm_ad P (mm_n h) = b) (hr' : mm_rep P s (mm_g2 h N M i) (mm_fl U b ic i).heap) :
    ∃ cell : Cell, ((mm_fl U b ic i).pushCell ic).heap[b]? = some cell ∧ cell.vm ≠ .unknown ∧ cell.slots.size = N ∧ (∀ q, cell.vm ≠ .statics q) ∧ cell.cls = P.2.2.2 26 ∧ mm_fl U b ic (i + 1) = ((mm_fl U b ic i).pushCell ic).setCell b (cell.setSlot i (.ref (mm_fl U b ic i).heap.size)) := by
  have hs := mm_g2_s h N M (mm_n h) i
  rw [if_pos rfl] at hs
  obtain ⟨ha, cell, e1, e2, e3, e4, e5, e6⟩ := hr'.arr (a := mm_n h) (kd := 26) (by rw [hs]) (by decide) (by decide)
  rw [hs] at e3
  rw [hb] at e1
  have hlt : b < (mm_fl U b ic i).heap.size := (Array.getElem?_eq_some_iff.mp e1).1
  refine ⟨cell, by rw [State.heap_pushCell_of_lt (h := hlt)]; exact e1, e2, e3, e4.1, e5 (by decide), ?_⟩
  show ((mm_fl U b ic i).pushCell ic).setCell b ((((mm_fl U b ic i).heap[b]?).getD ic).setSlot i _) = _
  rw [e1]; rfl
section
variable {P : mm_P} {p : Program} {l : Launch} {e : Env} {R : Room} {s : State} {m : MethodId} {args : Array Value} {below : List Frame} {meth : Method} {c : Code}
theorem mm_fl_ok {U : State} {b N M cells slots : Nat} {ic : Cell} {locs : List Loc} {h : mm_H} (hb : mm_ad P (mm_n h) = b) (h0 : ¬ mm_n h = 0) (i1 : ic.vm = .none) (i2 : ic.slots = Array.replicate M (.int 0)) (i3 : s.isArrayOf ic .int)
    (X : Stand p l e R s m args below meth c U locs (cells + 1) (slots + N)) (hr : mm_rep P s (mm_nw h 26 N N) U.heap) (hl : ∀ q ∈ locs, P.1.2 ≤ q.base) :
    ∀ i, i ≤ N → ∃ locs' : List Loc, Stand p l e R s m args below meth c (mm_fl U b ic i) locs' (cells + 1 + i) (slots + N + i * M) ∧ (mm_fl U b ic i).vm = U.vm ∧ mm_rep P s (mm_g2 h N M i) (mm_fl U b ic i).heap ∧ ∀ q ∈ locs', P.1.2 ≤ q.base
  | 0, _ => ⟨locs, by rw [Nat.zero_mul]; exact X, rfl, hr, hl⟩
  | i + 1, hi => by
    obtain ⟨locs', X', hv, hr', hl'⟩ := mm_fl_ok hb h0 i1 i2 i3 X hr hl i (by omega)
    have hs := mm_g2_s h N M (mm_n h) i
    rw [if_pos rfl] at hs
    obtain ⟨ha, cell, e1, e2, e3, e4, e5, e6⟩ := hr'.arr (a := mm_n h) (kd := 26) (by rw [hs]) (by decide) (by decide)
    rw [hs] at e3
    have hadn := mm_ad_new hr'
    rw [hb] at e1
    have hlt : b < (mm_fl U b ic i).heap.size := (Array.getElem?_eq_some_iff.mp e1).1
    have hcell : ((mm_fl U b ic i).pushCell ic).heap[b]? = some cell := by rw [State.heap_pushCell_of_lt (h := hlt)]; exact e1
    have hstep : mm_fl U b ic (i + 1) = ((mm_fl U b ic i).pushCell ic).setCell b (cell.setSlot i (.ref (mm_fl U b ic i).heap.size)) := by
      show ((mm_fl U b ic i).pushCell ic).setCell b ((((mm_fl U b ic i).heap[b]?).getD ic).setSlot i _) = _
      rw [e1]; rfl
    have r1 : mm_rep P s (mm_nw (mm_g2 h N M i) 20 M M) ((mm_fl U b ic i).pushCell ic).heap := hr'.arrN (cell := ic) (by decide) (by decide) (State.heap_pushCell_size _ _) (by simp) (fun q hq => State.heap_pushCell_of_lt _ _ hq) i1 (by rw [i2, Array.size_replicate]) i3 (fun q => absurd q (by decide)) (fun j hj => by rw [i2, Array.getElem?_replicate, if_pos hj]; rfl)
    have hs1 : mm_s (mm_nw (mm_g2 h N M i) 20 M M) (mm_n h) = (26, N) := by
      rw [mm_s_nw, if_neg (by rw [(mm_g2_n h N M i).1]; omega)]; exact hs
    have r2 : mm_rep P s (mm_g2 h N M (i + 1)) (mm_fl U b ic (i + 1)).heap := by
      rw [hstep]
      refine r1.ast (a := mm_n h) (kd := 26) (i := i) (cell := cell) (v := .ref (mm_fl U b ic i).heap.size) (by rw [hs1]) (by decide) (by decide) (by rw [mm_n_nw]; omega) e2 (by rw [hs1]; exact e3) e4 e5 (fun j hj => ?_) (by rw [hb]; exact State.heap_setCell_self hcell) (by simp [State.setCell]) (fun z hz => State.heap_setCell_other (fun q => hz (by rw [hb]; exact q.symm))) rfl rfl (fun _ _ _ => rfl) (fun _ _ _ => rfl) (fun b' k' hb' => ?_) (fun j hj => ?_)
      · rw [hs1] at hj
        rw [e6 j (by rw [hs]; exact hj)]
        simp only [mm_av, mm_r_nw, if_neg (show ¬ mm_n h = mm_n (mm_g2 h N M i) by rw [(mm_g2_n h N M i).1]; omega)]
        rfl
      · show mm_r (mm_pr _ _ _ _) b' k' = _
        rw [mm_r_pr, if_neg (fun q => hb' q.1)]
      · show mm_av P (mm_pr _ _ _ _) (mm_n h) 26 j = _
        simp only [mm_av, mm_r_pr, true_and, if_neg (show ¬ (26 : Nat) = 21 by decide), if_pos (show 23 ≤ 26 by decide)]
        by_cases ej : j = i
        · rw [if_pos ej, if_pos ej]
          show mm_rv P (.ref (mm_n (mm_g2 h N M i))) = _
          show Value.ref _ = _
          rw [hadn]
        · rw [if_neg ej, if_neg ej]
    refine ⟨locs' ++ [⟨b, i⟩], ?_, by rw [hstep]; exact hv, r2, fun q hq => ?_⟩
    · rw [hstep]
      have X2 := (X'.pushed ic).stored hcell i (.ref (mm_fl U b ic i).heap.size)
      rw [i2, Array.size_replicate] at X2
      rw [show slots + N + (i + 1) * M = slots + N + i * M + M by rw [Nat.succ_mul]; omega]
      exact X2
    · rcases List.mem_append.mp hq with q1 | q1
      · exact hl' q q1
      · rw [List.mem_singleton.mp q1]
        show P.1.2 ≤ b
        rw [← hb]; exact mm_ad_base h0
end
set_option maxHeartbeats 2000000 in
theorem mm_om (P : mm_P) : mm_OM P := by
  intro y d n0 z0 p l e R s m args below meth c Q pc k x x2 ls r h C hc hck h0 h1 g0 g1 r1 r2 K H locs cells slots lsR hr hlv hl hn hz T hT X
  obtain ⟨hx0, hx1⟩ := mm_nn h0 h1
  obtain ⟨hy0, hy1⟩ := mm_nn g0 g1
  have E := C.2.1.2.2.2
  obtain ⟨kA, kC, comp, cc, e1, e2, e3, e4, e5⟩ := E.2.2.2.2.2.2.1
  have hcl : Cond.classLink (tb_nm (tb_cls y)) k "[[I" ∈ lw_tbl := by
    rcases mm_ck_spec hck with q | q
    · omega
    · exact q.2
  have hpl : e.platform.magicAccessors = ({} : Platform).magicAccessors := by rw [X.admits.platform]
  obtain ⟨c0, hfc0, hcl2⟩ := Cond.classLink_spec C.2.1.1 (E.1 _ hcl rfl args) e.platform hpl
  have hc0 : c0 = P.2.2.2 26 := Option.some.inj (hfc0.symm.trans e1)
  subst hc0
  obtain ⟨hg1, hW1, -⟩ := State.classEntry (e := e) X.warmed hcl2
  have hszc : (T.vm.noted m.cls k (.cls (P.2.2.2 26))).classes.size ≤ T.vm.classes.size := by simp [Vm.noted]
  generalize T.vm.noted m.cls k (.cls (P.2.2.2 26)) = vm1 at hg1 hW1 hszc
  obtain ⟨kA1, a1, a2⟩ := hW1.alike.2.2 _ _ e2
  obtain ⟨kC1, c1, c2⟩ := hW1.alike.2.2 _ _ e4
  have hA1 : kA1.kind = .array comp (.array .int) := by rw [a2]; exact e3
  have hC1 : kC1.kind = .array cc .int := by rw [c2]; exact e5
  have hn0 : ¬ mm_n h = 0 := by have := hr.1.1; omega
  have X1 := X.noted hW1
  generalize hN : x.toNatClampNeg = N at *
  generalize hM : x2.toNatClampNeg = M at *
  have r1' : mm_n h + 1 + N ≤ n0 + R.cells := r1
  have r2' : mm_z h + N + N * M ≤ z0 + R.slots := r2
  have hadn := mm_ad_new hr
  subst hT
  have hsz : (T.setVm vm1).heap.size = T.heap.size := rfl
  have X2 := X1.pushed { cls := P.2.2.2 26, slots := Array.replicate N .null, vm := .none }
  have rep0 : mm_rep P s (mm_nw h 26 N N) ((T.setVm vm1).pushCell { cls := P.2.2.2 26, slots := Array.replicate N .null, vm := .none }).heap := hr.arrN (by decide) (by decide) (State.heap_pushCell_size (s := T.setVm vm1) _) (by simp) (fun q hq => State.heap_pushCell_of_lt (s := T.setVm vm1) _ hq) rfl (by simp) ⟨(fun q z => by cases z), kA, e2, comp, e3⟩ (fun _ => rfl) (fun j hj => by
    show (Array.replicate N Value.null)[j]? = _
    rw [Array.getElem?_replicate, if_pos hj]; rfl)
  have hfl := mm_fl_ok (b := T.heap.size) (N := N) (M := M) (cells := cells) (slots := slots) (ic := { cls := comp, slots := Array.replicate M (.int 0), vm := .none }) hadn hn0 rfl rfl ⟨(fun q z => by cases z), kC, e4, cc, e5⟩ (by simpa using X2) rep0 hl
  generalize hU : (T.setVm vm1).pushCell { cls := P.2.2.2 26, slots := Array.replicate N .null, vm := .none } = U at *
  have hUv : U.vm = vm1 := by rw [← hU]; rfl
  obtain ⟨locs', XN, hvN, hrN, hlN⟩ := hfl N (Nat.le_refl _)
  rw [mm_g2_eq] at hrN
  obtain ⟨t, hs, hQ⟩ := K _ locs' (cells + 1 + N) (slots + N + N * M) lsR hrN hlv hlN (by show mm_n h + 1 + N = _; omega) (by show mm_z h + N + N * M = _; omega) _ rfl XN
  refine ⟨t, ?_, hQ⟩
  have hb := C.1.2.1
  have hd := (mm_dec hc).1
  rw [← hb] at hd
  have lim1 : N ≤ e.platform.arrayLengthLimit := by rw [Launch.admits_arrayLengthLimit X.admits]; omega
  have lim2 : N * 4 ≤ e.platform.maxHeapBytes := by rw [Launch.admits_maxHeapBytes X.admits]; omega
  have lim3 : M ≤ e.platform.arrayLengthLimit := by rw [Launch.admits_arrayLengthLimit X.admits]; omega
  have lim4 : M * 4 ≤ e.platform.maxHeapBytes := by rw [Launch.admits_maxHeapBytes X.admits]; omega
  obtain ⟨m1, m2⟩ := X.roomAbove (a := 1) (b := N) (by omega) (by have := Nat.zero_le (N * M); omega)
  have hexec := C.1.1
  jvm_step X.here [hexec, hd]
  simp only [multianewarray.sem, wp_bind', W.resolveClassAt_links (t := T.setTop (F0 m pc lsR (mm_rv P (Value.int x2) :: mm_rv P (Value.int x) :: List.map (mm_rv P) r))) (State.method?_setTop (F0 m pc lsR (mm_rv P (Value.int x2) :: mm_rv P (Value.int x) :: List.map (mm_rv P) r)) X.here.top) hg1 hszc]
  rw [W.popN, if_neg (by decide)]
  refine ⟨_, State.topJava?_setTop' (s := T.setVm vm1) _ X.here.top, [.int x, .int x2], r.map (mm_rv P), rfl, rfl, ?_⟩
  simp only [List.mapM_cons, List.mapM_nil, wp_bind', wp_pure']
  generalize hG : ({ method := m, pc := pc, locals := lsR, stack := List.map (mm_rv P) r, locked := none } : JFrame) = G1
  have hst : ((T.setTop (F0 m pc lsR (mm_rv P (Value.int x2) :: mm_rv P (Value.int x) :: List.map (mm_rv P) r))).setVm vm1).setTop G1 = (T.setVm vm1).setTop G1 := by
    show ((T.setVm vm1).setTop _).setTop G1 = _
    rw [State.setTop_setTop]
  rw [hst]
  refine mm_mk (s := (T.setVm vm1).setTop G1) (A := fun i u => i ≤ N ∧ u = (mm_fl U T.heap.size { cls := comp, slots := Array.replicate M (.int 0), vm := .none } i).setTop G1) hN hM hx0 hy0 hA1 hC1 lim1 lim2 lim3 lim4 a1 m1 m2 ⟨Nat.zero_le _, ?_⟩ ?_ ?_
  · rw [State.pushCell_setTop, hU]; rfl
  · rintro i u hi ⟨-, rfl⟩
    obtain ⟨locsI, XI, hvI, hrI, -⟩ := hfl i (Nat.le_of_lt hi)
    obtain ⟨cell, q1, q2, q3, q4, q5, q6⟩ := mm_fl_step hadn hrI
    have hmul : i * M + M ≤ N * M := by
      have := Nat.mul_le_mul_right M (show i + 1 ≤ N from hi)
      rw [Nat.succ_mul] at this
      exact this
    obtain ⟨w1, w2⟩ := XI.roomAbove (a := 1) (b := M) (by omega) (by omega)
    have hcv : ((mm_fl U T.heap.size { cls := comp, slots := Array.replicate M (.int 0), vm := .none } i).setTop G1).vm = vm1 := by
      show (mm_fl U T.heap.size { cls := comp, slots := Array.replicate M (.int 0), vm := .none } i).vm = vm1
      rw [hvI, hUv]
    refine ⟨by rw [hcv]; exact c1, w1, w2, cell, q1, q2, by rw [q3]; exact hi, mm_fitA (k := kA1) (by rw [hcv, q5]; exact a1) hA1 q4 _ _, hi, ?_⟩
    rw [q6]; rfl
  · rintro u d' acts' ⟨-, rfl⟩
    subst hG
    simp only [wp_bind', W.mark, W.pushRef, State.topJava?_setTop' _ XN.here.top, Option.some.injEq, exists_eq_left', State.setTop_setTop, State.heap_setTop]
    intro acts
    have hs2 : Steps p.tables e below ((mm_fl U T.heap.size { cls := comp, slots := Array.replicate M (.int 0), vm := .none } N).setTop { method := m, pc := pc + 4, locals := lsR, stack := .ref T.heap.size :: List.map (mm_rv P) r, locked := none }) t := by
      have e9 : List.map (mm_rv P) (Value.ref (mm_n h) :: r) = .ref T.heap.size :: List.map (mm_rv P) r := by
        rw [List.map_cons]
        show Value.ref (mm_ad P (mm_n h)) :: _ = _
        rw [hadn]
      rw [e9] at hs
      exact hs
    simp [jvm, XN.here.top]
    exact hs2
