/-! A CALL -/
theorem mm_weaken {tb : Tables} {e : Env} {mid below : List Frame} {a b : State} (h : Steps tb e (mid ++ below) a b) : Steps tb e below a b := by
  obtain ⟨n, hn, w⟩ := h
  exact ⟨n, hn, fun k hk => (w k hk).weaken⟩
/-- where the caller stands behind a call -/
def mm_after (P : mm_P) (m : MethodId) (pc : Nat) (lsR : Array Slot) (rest : List Value) (res : Option Value ⊕ Nat) (T' : State) : State := match res with
  | .inl v => T'.setTop (F0 m (pc + 3) lsR ((v.toList ++ rest).map (mm_rv P)))
  | .inr a => (T'.setTop (F0 m pc lsR (rest.map (mm_rv P)))).pushFrame (.throwing (mm_ad P a))
section
variable {P : mm_P} {y d n0 z0 : Nat} {p : Program} {l : Launch} {e : Env} {R : Room} {s : State} {m : MethodId} {args : Array Value} {below : List Frame} {meth : Method} {c : Code} {Q : State → Prop} {pc k : Nat} {ls ls' st r : List Value} {h h1 : mm_H} {x x2 : Int32} {w w2 : Int64} {a b : Nat} {n off : Int}
set_option maxHeartbeats 1000000 in
theorem mm_enter {z : Nat} {as rest : List Value} {res : Option Value ⊕ Nat} {mk : MethodId} {methk : Method} {ck : Code} {ig : ClassFile.Instr} {T₁ : State} {locs : List Loc} {cells slots : Nat} {lsR : Array Slot} {H : Heap}
    (C : mm_Cx P y (d + 1) p R s m meth c) (hz : z < 149) (hok : mm_eok z (mm_ent z as) = true) (hrest : rest.length ≤ 8) (F : mm_Fk s z mk methk ck) (hdg : decode c.code pc = .ok (ig, 3))
    (X₁ : Stand p l e R s m args below meth c T₁ locs cells slots) (hT : T₁.heap = H) (hr : mm_rep P s h H) (hlv : lsR.size = tb_nL y) (hl : ∀ q ∈ locs, P.1.2 ≤ q.base) (hn : mm_n h = n0 + cells) (hzz : mm_z h = z0 + slots)
    (q1 : mm_n h1 ≤ n0 + R.cells) (q2 : mm_z h1 ≤ z0 + R.slots) (q3 : mm_n h ≤ mm_n h1) (q4 : mm_z h ≤ mm_z h1)
    (IH : ∀ (R' : Room) (s' : State) (m' : MethodId) (args' : Array Value) (below' : List Frame) (meth' : Method) (c' : Code), mm_Cx P z d p R' s' m' meth' c' → mm_n h1 ≤ mm_n h + R'.cells → mm_z h1 ≤ mm_z h + R'.slots → mm_G P z (mm_n h) (mm_z h) p l e R' s' m' args' below' meth' c' (mm_fin P s' below' (mm_n h) (mm_z h) res h1) 0 (mm_ent z as) [] h) :
    ∃ (T' : State) (L : List Loc) (cells' slots' : Nat), Stand p l e R s m args below meth c T' (locs ++ L) cells' slots' ∧ mm_rep P s h1 T'.heap ∧ (∀ q ∈ locs ++ L, P.1.2 ≤ q.base) ∧ mm_n h1 = n0 + cells' ∧ mm_z h1 = z0 + slots' ∧
      ∀ acts, Steps p.tables e below (doInvoke e (T₁.setTop (F0 m pc lsR (rest.map (mm_rv P)))) acts mk (as.map (mm_rv P)).toArray).1 (mm_after P m pc lsR rest res T') := by
  obtain ⟨hnamed, f1, f2, f3, f4, f5, f6, f7, f8, f9, f10⟩ := F
  obtain ⟨g1, g2, g3, g4⟩ := mm_plain hz
  have alike := X₁.warmed.alike
  have hsum := mm_catsum (P := P) rest
  have hR := C.2.2.2
  have hmk : T₁.vm.method? mk = some methk := by rw [alike.method?]; exact f1
  have hpk : T₁.plainMethod mk := State.plainMethod.of_named g1 (X₁.named hnamed) hmk
  obtain ⟨Y₀, hin⟩ := X₁.into (g := F0 m pc lsR (rest.map (mm_rv P))) rfl (by rw [C.1.2.2.1]; exact hlv) hdg (as.map (mm_rv P)).toArray (R' := { frames := R.frames - 1, cells := R.cells - cells, slots := R.slots - slots, locals := 60 * (d + 8) }) hmk f2 f7 hpk (by show R.frames - 1 + 1 ≤ R.frames; omega)
    (by show 2 * 0 + ((rest.map (mm_rv P)).map fun v => v.category).sum + (ck.maxLocals + 11) + 60 * (d + 8) ≤ R.locals; rw [f4]; omega) (by show cells + (R.cells - cells) ≤ R.cells; omega) (by show slots + (R.slots - slots) ≤ R.slots; omega)
  generalize hU : (T₁.setTop (F0 m pc lsR (rest.map (mm_rv P)))).pushFrame (.java (entryFrame mk (as.map (mm_rv P)).toArray ck.maxLocals)) = U at Y₀ hin
  generalize hS : T₁.calling (F0 m pc lsR (rest.map (mm_rv P))) mk (as.map (mm_rv P)).toArray = s' at Y₀
  have hvm' : s'.vm = T₁.vm := by rw [← hS]; rfl
  have hW' : s.WarmedH s'.vm := by rw [hvm']; exact X₁.warmed
  have hUh : U.heap = H := by rw [← hU]; exact hT
  have C' : mm_Cx P z d p { frames := R.frames - 1, cells := R.cells - cells, slots := R.slots - slots, locals := 60 * (d + 8) } s' mk methk ck := by
    refine ⟨⟨C.1.1, f3, f4, f6⟩, ⟨?_, f7, f9, C.2.1.2.2.2.moved hW' (by have hSh : s'.heap = H := (by rw [← hS]; exact hT); rw [hSh]; have q1 := hr.1.1; have q2 := hr.2.1; omega)⟩, ⟨hz, f5⟩, by show d + 8 ≤ R.frames - 1; omega, Nat.le_refl _⟩
    rw [hW'.alike.findClass]; exact f10
  have G := IH _ s' mk (as.map (mm_rv P)).toArray (.java (F0 m pc lsR (rest.map (mm_rv P))) :: below) methk ck C' (by show mm_n h1 ≤ mm_n h + (R.cells - cells); omega) (by show mm_z h1 ≤ mm_z h + (R.slots - slots); omega)
  have G2 := G H [] 0 0 _ (hr.moved hW'.alike) (mm_entry hok) (fun q hq => by cases hq) rfl rfl U hUh Y₀
  obtain ⟨t, hsteps, hrun, hended, hWt, hrept, L, cells', slots', n1, z1, hsame, hL⟩ := G2
  have hent : entryFrame mk (as.map (mm_rv P)).toArray ck.maxLocals = F0 mk 0 ((lg_sl (as.map (mm_rv P)) ++ List.replicate (tb_nL z - (lg_sl (as.map (mm_rv P))).length) Slot.unset).toArray) [] := by rw [f4]; exact lg_entry_eq _ _ _
  have hsteps' : Steps p.tables e below (U.setTop (entryFrame mk (as.map (mm_rv P)).toArray ck.maxLocals)) t := by
    rw [hent]
    exact mm_weaken (mid := [.java (F0 m pc lsR (rest.map (mm_rv P)))]) hsteps
  subst hS
  have hlocs : ∀ q ∈ locs ++ L, P.1.2 ≤ q.base := by
    intro q hq
    rcases List.mem_append.mp hq with q' | q'
    · exact hl q q'
    · exact hL q q'
  cases res with
  | inl v =>
    obtain ⟨T', X', hWT, -, ht⟩ := X₁.outOf (g := F0 m pc lsR (rest.map (mm_rv P))) rfl hdg hended hWt hsame
    refine ⟨T', L, cells + cells', slots + slots', X', ?_, hlocs, by omega, by omega, fun acts => ?_⟩
    · have h5 : T'.heap = t.heap := by rw [ht]; simp
      rw [h5]
      exact hrept.moved hW'.alike.symm
    · rw [hin acts]
      have : mm_after P m pc lsR rest (.inl v) T' = t := by
        rw [ht]
        cases v <;> rfl
      rw [this]
      exact hsteps'
  | inr a =>
    obtain ⟨T', X', hWT, -, ht⟩ := X₁.outOfThrown (g := F0 m pc lsR (rest.map (mm_rv P))) rfl hended hWt hsame
    refine ⟨T', L, cells + cells', slots + slots', X', ?_, hlocs, by omega, by omega, fun acts => ?_⟩
    · have h5 : T'.heap = t.heap := by rw [ht]; exact (Stand.throwing_heap T' _ _).symm
      rw [h5]
      exact hrept.moved hW'.alike.symm
    · rw [hin acts]
      have : mm_after P m pc lsR rest (.inr a) T' = t := by
        rw [ht]
        rfl
      rw [this]
      exact hsteps'
end
