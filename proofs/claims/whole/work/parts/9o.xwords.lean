/-! AN EXCEPTION'S CONSTRUCTOR WITH A TEXT, under a launch without stack traces -/
section
def mm_nls : Cond → Bool
  | .laysStatic .. => false
  | _ => true
def mm_xT : List Cond := Bundle.throwableAtoms.filter mm_nls ++ Bundle.throwableSAtoms ++ [.instanceMethod (Bundle.initS "java/lang/RuntimeException"), .code (Bundle.initS "java/lang/RuntimeException") Bundle.six 2 none, .methodLink "java/lang/RuntimeException" 7 (Bundle.initS "java/lang/Exception"), .instanceMethod (Bundle.initS "java/lang/Exception"), .code (Bundle.initS "java/lang/Exception") Bundle.six 2 none, .methodLink "java/lang/Exception" 7 (Bundle.initS Bundle.tN), .fieldLink Bundle.tN 198 Bundle.tN "backtrace" "Ljava/lang/Object;", .lays Bundle.tN Bundle.tN "backtrace" "Ljava/lang/Object;"]
def mm_xA (X : String) : List Cond := [.instanceMethod (Bundle.initS X), .code (Bundle.initS X) Bundle.six 2 none, .methodLink X 7 (Bundle.initS "java/lang/RuntimeException"), .selects X Bundle.tFill0 Bundle.tFill0, .selects X Bundle.tFill Bundle.tFill, .lays X Bundle.tN "cause" "Ljava/lang/Throwable;", .lays X Bundle.tN "stackTrace" Bundle.steD, .lays X Bundle.tN "suppressedExceptions" Bundle.listD, .lays X Bundle.tN "detailMessage" "Ljava/lang/String;", .lays X Bundle.tN "backtrace" "Ljava/lang/Object;"]
set_option maxRecDepth 100000 in
theorem mm_xT_ok : mm_xT.all (fun w => decide (w ∈ lw_tbl) && mm_gw w) = true := by decide +kernel
set_option maxRecDepth 100000 in
theorem mm_xA_ok : (List.range 4).all (fun i => (mm_xA (mm_xn i)).all (fun w => decide (w ∈ lw_tbl) && mm_gw w) && Bundle.fit (mm_xn i)) = true := by decide +kernel
theorem mm_xT_at {s : State} (E : mm_E1 s) (args : Array Value) : ∀ w ∈ mm_xT, w.before args s = true := by
  intro w hw
  have := List.all_eq_true.mp mm_xT_ok w hw
  simp only [Bool.and_eq_true, decide_eq_true_eq] at this
  exact E w this.1 this.2 args
theorem mm_xA_at {s : State} (E : mm_E1 s) (args : Array Value) {i : Nat} (hi : i < 4) : (∀ w ∈ mm_xA (mm_xn i), w.before args s = true) ∧ Bundle.fit (mm_xn i) = true := by
  have h := List.all_eq_true.mp mm_xA_ok i (List.mem_range.mpr hi)
  simp only [Bool.and_eq_true] at h
  refine ⟨fun w hw => ?_, h.2⟩
  have := List.all_eq_true.mp h.1 w hw
  simp only [Bool.and_eq_true, decide_eq_true_eq] at this
  exact E w this.1 this.2 args
/-- a method that has code and is no static one is declared -/
theorem mm_decl {s : State} {args : Array Value} {x : MethodName} {b : ByteArray} {n : Nat} {t : Option FieldType} (h1 : (Cond.instanceMethod x).before args s = true) (h2 : (Cond.code x b n t).before args s = true) : (Cond.declares x).before args s = true := by
  obtain ⟨mo, me, a1, a2, a3, -⟩ := Cond.instanceMethod_spec h1
  obtain ⟨me', c, b1, -, -, -, -, -, -, b2⟩ := Cond.code_spec a1 h2
  cases Option.some.inj (a2.symm.trans b1)
  simp [Cond.before, Cond.holds, Cond.value, a1, a2, a3, b2]
/-- the statics' words at the method's entry, out of the heap as it is now -/
theorem mm_S1.at {b0 b1 : Nat} {s T : State} {n d : String} {locs : List Loc} {cells slots : Nat} (args : Array Value) (h : mm_S1 b0 b1 s T.heap n d) (hs : s.sameButNew ({ T with vm := s.vm } : State) locs cells slots) (hb : b1 ≤ s.heap.size) : (Cond.laysStatic Bundle.tN n d).before args s = true := by
  obtain ⟨c, k, i, f, a, cell, v, h1, h2, h3, h4, h5, h6, ⟨h7, h8, h9, h10⟩, h11, h12⟩ := h
  have hlt : a < s.heap.size := by omega
  obtain ⟨cell', q1, q2, q3, -⟩ := hs.2.2.2.2.2 a s.heap[a] (Array.getElem?_eq_getElem hlt)
  have q0 : T.heap[a]? = some cell' := q1
  cases Option.some.inj (h6.symm.trans q0)
  exact Cond.laysStatic_of h1 h2 h3 h4 (Array.getElem?_eq_getElem hlt) (by rw [q2] at h7; exact h7) (by rw [q2] at h8; exact h8) (by rw [← q3]; exact h9) h10
theorem mm_sel {s : State} {l : Launch} {e : Env} {args : Array Value} {X : String} {t : MethodName} {cX : ClassId} {tm : MethodId} (ha : l.admits e) (hX : s.vm.findClass X = some cX) (hm : s.methodNamed? t = some tm) (ht : s.methodFound? t.cls t.name t.desc = some tm) (w : (Cond.selects X t t).before args s = true) : selectMethod e.platform s.vm cX tm = .method tm := by
  obtain ⟨c2, r2, m2, q1, q2, q3, q4, -⟩ := Cond.selects_spec w
  cases Option.some.inj (q1.symm.trans hX)
  cases Option.some.inj (q2.symm.trans ht)
  cases Option.some.inj (q3.symm.trans hm)
  rw [Launch.admits_selectMethod ha]
  exact q4
theorem mm_tk {s : State} {cell : Cell} {k : Class} {f : Field} {v : Value} (h1 : s.vm.classes[cell.cls]? = some k) (h2 : k.kind = .ordinary) (h3 : cell.slots.size = k.instanceTypes.size) (h4 : cell.vm = .none) (ty : k.instanceTypes[f.slot]? = some f.type) (hv : fits f.type v = true) : Takes s cell f v := by
  refine ⟨by rw [h3]; exact (Array.getElem?_eq_some_iff.mp ty).1, ?_⟩
  simp [State.fitsSlot, State.slotType?, h1, h2, h4, ty, hv]
theorem mm_ne {k : Class} {a b : Nat} {x y : FieldType} (ha : k.instanceTypes[a]? = some x) (hb : k.instanceTypes[b]? = some y) (h : x ≠ y) : a ≠ b := fun q => by
  subst q
  exact h (Option.some.inj (ha.symm.trans hb))
end
