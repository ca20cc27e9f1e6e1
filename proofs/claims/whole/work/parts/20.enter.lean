/-! INTO A CALLEE AND BACK -/
theorem mm_mem {z : Nat} (h0 : 0 < z) (hz : z < 149) : tb_cw z ∈ lw_tbl := by
  refine tb_cw_all z ?_
  have : z ∈ List.range' 1 148 := by rw [List.mem_range']; exact ⟨z - 1, by omega, by omega⟩
  exact this
theorem mm_okM {z : Nat} (h0 : 0 < z) (hz : z < 149) : tb_okM z = true := by
  rcases (show z - 1 < 37 ∨ (37 ≤ z - 1 ∧ z - 1 < 74) ∨ (74 ≤ z - 1 ∧ z - 1 < 111) ∨ (111 ≤ z - 1 ∧ z - 1 < 148) by omega) with q | q | q | q
  · have := List.all_eq_true.mp tb_okMq0 (z - 1) (List.mem_range.mpr q)
    rwa [show z - 1 + 1 = z by omega] at this
  · have := List.all_eq_true.mp tb_okMq1 (z - 38) (List.mem_range.mpr (by omega))
    rwa [show z - 38 + 38 = z by omega] at this
  · have := List.all_eq_true.mp tb_okMq2 (z - 75) (List.mem_range.mpr (by omega))
    rwa [show z - 75 + 75 = z by omega] at this
  · have := List.all_eq_true.mp tb_okMq3 (z - 112) (List.mem_range.mpr (by omega))
    rwa [show z - 112 + 112 = z by omega] at this
/-- a method, as the tables have it -/
def mm_Fk (s : State) (z : Nat) (mk : MethodId) (methk : Method) (ck : Code) : Prop :=
  s.methodNamed? (tb_y z) = some mk ∧ s.vm.method? mk = some methk ∧ methk.code = some ck ∧ ck.code = tb_byt.getD z ⟨#[]⟩ ∧ ck.maxLocals = tb_nL z ∧ ck.exceptionTable.toList.map (fun h => (h.startPc, h.endPc, h.handlerPc, h.catchType)) = (tb_han.getD z []).map (fun q => (q.1, q.2.1, q.2.2.1, q.2.2.2.2)) ∧ methk.sig.returnType = tb_rty z ∧ methk.locks = false ∧ parseMethodDescriptor (tb_y z).desc = some methk.sig ∧ methk.name = (tb_y z).name ∧ s.vm.findClass (tb_nm (tb_cls z)) = some mk.cls
theorem mm_callee {P : mm_P} {s : State} (E : mm_Ev P s) {z : Nat} (h0 : 0 < z) (hz : z < 149) : ∃ (mk : MethodId) (methk : Method) (ck : Code), mm_Fk s z mk methk ck := by
  have hmem := mm_mem h0 hz
  have hg : mm_gw (tb_cw z) = true := by
    unfold tb_cw
    dsimp only
    split <;> rfl
  have hw := E.1 _ hmem hg #[]
  unfold tb_cw at hw
  dsimp only at hw
  split at hw
  · rename_i hs
    obtain ⟨mk, hnamed⟩ := Cond.code_named hw
    obtain ⟨methk, ck, a1, a2, a3, a4, a5, a6, a7, a8⟩ := Cond.code_spec hnamed hw
    refine ⟨mk, methk, ck, hnamed, a1, a2, a3, a4, ?_, a5, a6, a8, (name_of_methodNamed hnamed a1).1, findClass_of_methodNamed hnamed⟩
    rw [hs]
    have : ck.exceptionTable.toList = [] := by
      have h2 : ck.exceptionTable.size = 0 := by simpa [Array.isEmpty] using a7
      exact List.length_eq_zero_iff.mp (by simpa using h2)
    rw [this]; rfl
  · obtain ⟨mk, methk, ck, hnamed, a1, a2, a3, a4, a5, a6, a7, a8⟩ := Cond.codeWith_spec hw
    exact ⟨mk, methk, ck, hnamed, a1, a2, a3, a4, a5, a6, a7, a8, (name_of_methodNamed hnamed a1).1, findClass_of_methodNamed hnamed⟩
theorem tb_plain : (List.range 149).all (fun z => plainFor (tb_y z) && (decide (tb_nL z ≤ 20) && (decide ((tb_y z).cls ≠ "java/lang/invoke/MethodHandle" ∧ (tb_y z).cls ≠ "java/lang/invoke/VarHandle") && decide ((parseMethodDescriptor (tb_y z).desc).map (fun g => g.parameters.length + (if tb_sta z = true then 0 else 1)) = some (tb_na z))))) = true := by decide +kernel
theorem mm_plain {z : Nat} (hz : z < 149) : plainFor (tb_y z) = true ∧ tb_nL z ≤ 20 ∧ ((tb_y z).cls ≠ "java/lang/invoke/MethodHandle" ∧ (tb_y z).cls ≠ "java/lang/invoke/VarHandle") ∧ (parseMethodDescriptor (tb_y z).desc).map (fun g => g.parameters.length + (if tb_sta z = true then 0 else 1)) = some (tb_na z) := by
  have := List.all_eq_true.mp tb_plain z (List.mem_range.mpr hz)
  simp only [Bool.and_eq_true, decide_eq_true_eq] at this
  exact this
theorem mm_rv_c (P : mm_P) (v : Value) : (mm_rv P v).category = v.category := by cases v <;> rfl
theorem mm_xl (P : mm_P) (as : List Value) : (mm_x as).length = (lg_sl (as.map (mm_rv P))).length ∧ ∀ (i : Nat) (v : Value), (mm_x as)[i]? = some v → v ≠ mm_j → (lg_sl (as.map (mm_rv P)))[i]? = some (Slot.val (mm_rv P v)) := by
  induction as with
  | nil => exact ⟨rfl, fun i v h => by simp [mm_x] at h⟩
  | cons w t ih =>
    by_cases hw : w.category = 2
    · have e1 : mm_x (w :: t) = w :: mm_j :: mm_x t := by rw [mm_x, if_pos hw]
      have e2 : lg_sl ((w :: t).map (mm_rv P)) = .val (mm_rv P w) :: .second :: lg_sl (t.map (mm_rv P)) := by simp [lg_sl, mm_rv_c, hw]
      rw [e1, e2]
      refine ⟨by simp [ih.1], fun i v h hv => ?_⟩
      match i, h with
      | 0, h => simp at h; subst h; rfl
      | 1, h => simp at h; exact absurd h.symm hv
      | i + 2, h => exact ih.2 i v (by simpa using h) hv
    · have e1 : mm_x (w :: t) = w :: mm_x t := by rw [mm_x, if_neg hw]
      have e2 : lg_sl ((w :: t).map (mm_rv P)) = .val (mm_rv P w) :: lg_sl (t.map (mm_rv P)) := by simp [lg_sl, mm_rv_c, hw]
      rw [e1, e2]
      refine ⟨by simp [ih.1], fun i v h hv => ?_⟩
      match i, h with
      | 0, h => simp at h; subst h; rfl
      | i + 1, h => exact ih.2 i v (by simpa using h) hv
theorem mm_e2_spec {lng : List Nat} : ∀ (env : List Value) (i : Nat), mm_e2 lng i env = true → ∀ (j : Nat) (v : Value), env[j]? = some v → v.category = 2 → i + j ∈ lng := by
  intro env
  induction env with
  | nil => intro i _ j v h; simp at h
  | cons w t ih =>
    intro i hi j v h hv
    simp only [mm_e2, Bool.and_eq_true, Bool.or_eq_true, bne_iff_ne, ne_eq] at hi
    match j, h with
    | 0, h =>
      simp at h
      subst h
      rcases hi.1 with q | q
      · exact absurd hv q
      · simpa using q
    | j + 1, h =>
      have := ih (i + 1) hi.2 j v (by simpa using h) hv
      rwa [show i + (j + 1) = i + 1 + j by omega]
theorem mm_entry {P : mm_P} {z : Nat} {as : List Value} (hok : mm_eok z (mm_ent z as) = true) : mm_lv P z (mm_ent z as) ((lg_sl (as.map (mm_rv P)) ++ List.replicate (tb_nL z - (lg_sl (as.map (mm_rv P))).length) Slot.unset).toArray) := by
  unfold mm_eok at hok
  simp only [Bool.and_eq_true, beq_iff_eq] at hok
  obtain ⟨hlen, he2⟩ := hok
  obtain ⟨x1, x2⟩ := mm_xl P as
  have hle : (lg_sl (as.map (mm_rv P))).length ≤ tb_nL z := by
    rw [← x1]
    have h3 := hlen
    unfold mm_ent at h3
    rw [List.length_append, List.length_replicate] at h3
    omega
  have hv := lv_entry (as.map (mm_rv P)) hle
  refine ⟨hv.1, hlen, hv.2.1, fun i v hi hj => ?_, fun i v hi hc => ?_⟩
  · unfold mm_ent at hi
    rw [List.getElem?_append] at hi
    split at hi
    · rename_i hlt
      rw [List.getElem?_toArray, List.getElem?_append_left (by rw [← x1]; exact hlt)]
      exact x2 i v hi hj
    · rw [List.getElem?_replicate] at hi
      split at hi
      · cases hi; exact absurd rfl hj
      · cases hi
  · have := mm_e2_spec _ 0 he2 i v hi hc
    simpa using this
