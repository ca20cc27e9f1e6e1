/-! NEW CELLS, CONSTANTS, OBJECT'S CONSTRUCTOR -/
def tb_okN (q : (Nat × Nat) × Int32 × Nat) : Bool := decide (lw_tbl[q.2.2]? = some (.constant (tb_nm q.1.1) q.1.2 q.2.1))
def tb_okO (q : (Nat × Nat) × Int64 × Nat) : Bool := decide (lw_tbl[q.2.2]? = some (.constantLong (tb_nm q.1.1) q.1.2 q.2.1))
set_option maxRecDepth 100000 in
theorem tb_okN_all : tb_int.all tb_okN = true := by decide +kernel
set_option maxRecDepth 100000 in
theorem tb_okO_all : tb_lon.all tb_okO = true := by decide +kernel
theorem mm_ci_spec {y k : Nat} {v : Int32} (h : tb_ci y k = some v) : Cond.constant (tb_nm (tb_cls y)) k v ∈ lw_tbl := by
  unfold tb_ci at h
  cases hl : tb_int.lookup (tb_cls y, k) with
  | none => rw [hl] at h; cases h
  | some q =>
    rw [hl] at h
    simp only [Option.map_some, Option.some.injEq] at h
    subst h
    have hok := List.all_eq_true.mp tb_okN_all _ (mm_lookup hl)
    simp only [tb_okN, decide_eq_true_eq] at hok
    exact List.mem_of_getElem? hok
theorem mm_cl2_spec {y k : Nat} {v : Int64} (h : tb_cl2 y k = some v) : Cond.constantLong (tb_nm (tb_cls y)) k v ∈ lw_tbl := by
  unfold tb_cl2 at h
  cases hl : tb_lon.lookup (tb_cls y, k) with
  | none => rw [hl] at h; cases h
  | some q =>
    rw [hl] at h
    simp only [Option.map_some, Option.some.injEq] at h
    subst h
    have hok := List.all_eq_true.mp tb_okO_all _ (mm_lookup hl)
    simp only [tb_okO, decide_eq_true_eq] at hok
    exact List.mem_of_getElem? hok
theorem mm_cs_spec {y k q : Nat} (h : tb_cs y k = some q) : ∃ z : (Nat × Nat) × String × Nat, tb_str[q]? = some z ∧ z.1 = (tb_cls y, k) ∧ q < 15 := by
  unfold tb_cs at h
  obtain ⟨hlt, hp, -⟩ := List.findIdx?_eq_some_iff_getElem.mp h
  exact ⟨tb_str[q], List.getElem?_eq_getElem hlt, by simpa using hp, hlt⟩
theorem mm_ck_spec {y k kd : Nat} (h : tb_ck y k = some kd) : (kd < 20 ∨ 30 ≤ kd) ∧ Cond.classLink (tb_nm (tb_cls y)) k ((tb_kin.lookup kd).getD ("", 0)).1 ∈ lw_tbl ∨ kd = 26 ∧ Cond.classLink (tb_nm (tb_cls y)) k "[[I" ∈ lw_tbl := by
  unfold tb_ck at h
  cases hl : tb_cla.lookup (tb_cls y, k) with
  | none => rw [hl] at h; cases h
  | some q =>
    rw [hl] at h
    simp only [Option.map_some, Option.some.injEq] at h
    subst h
    have hok := List.all_eq_true.mp tb_okK_all _ (mm_lookup hl)
    unfold tb_okK at hok
    split at hok
    · rename_i hh
      rw [decide_eq_true_eq] at hok
      exact Or.inl ⟨hh, List.mem_of_getElem? hok⟩
    · simp only [decide_eq_true_eq] at hok
      exact Or.inr ⟨hok.1, List.mem_of_getElem? hok.2⟩
/-- the kinds that objects are made of -/
def tb_ks : List Nat := [0, 1, 2, 3, 4, 5, 6, 7, 8, 9, 10, 30, 31, 32, 33]
def tb_okX (kd : Nat) : Bool := ((tb_kin.lookup kd).map (fun q => tb_okI (kd, q))).getD false && (((tb_slt.lookup kd).map (fun q => tb_okS (kd, q))).getD false && (decide (kd < 11) && decide (((tb_kin.lookup kd).getD ("", 0)).1 = tb_nm kd ∧ tb_sl kd = mm_fn kd) || decide (30 ≤ kd)))
theorem tb_okX_all : tb_ks.all tb_okX = true := by decide +kernel
theorem tb_ck_ks : tb_cla.all (fun q => decide (q.2.1 ∈ tb_ks ∨ q.2.1 = 26)) = true := by decide +kernel
theorem mm_kind {kd : Nat} (h : kd ∈ tb_ks) : Cond.initialized ((tb_kin.lookup kd).getD ("", 0)).1 ∈ lw_tbl ∧ Cond.instantiable ((tb_kin.lookup kd).getD ("", 0)).1 (tb_sl kd) ∈ lw_tbl ∧ (kd < 11 ∧ ((tb_kin.lookup kd).getD ("", 0)).1 = tb_nm kd ∧ tb_sl kd = mm_fn kd ∨ 30 ≤ kd) := by
  have h1 := List.all_eq_true.mp tb_okX_all kd h
  unfold tb_okX at h1
  simp only [Bool.and_eq_true, Bool.or_eq_true, decide_eq_true_eq] at h1
  obtain ⟨a1, a2, a3⟩ := h1
  refine ⟨?_, ?_, ?_⟩
  · cases hl : tb_kin.lookup kd with
    | none => rw [hl] at a1; cases a1
    | some q =>
      rw [hl] at a1
      simp only [Option.map_some, Option.getD_some, tb_okI, decide_eq_true_eq] at a1
      exact List.mem_of_getElem? a1
  · cases hl : tb_slt.lookup kd with
    | none => rw [hl] at a2; cases a2
    | some q =>
      rw [hl] at a2
      simp only [Option.map_some, Option.getD_some, tb_okS, decide_eq_true_eq] at a2
      have := List.mem_of_getElem? a2
      simpa [tb_sl, hl] using this
  · rcases a3 with a3 | a3
    · exact Or.inl ⟨a3.1, a3.2.1, a3.2.2⟩
    · exact Or.inr a3
theorem mm_ck_ks {y k kd : Nat} (h : tb_ck y k = some kd) : kd ∈ tb_ks ∨ kd = 26 := by
  unfold tb_ck at h
  cases hl : tb_cla.lookup (tb_cls y, k) with
  | none => rw [hl] at h; cases h
  | some q =>
    rw [hl] at h
    simp only [Option.map_some, Option.some.injEq] at h
    subst h
    have := List.all_eq_true.mp tb_ck_ks _ (mm_lookup hl)
    simpa using this
theorem mm_def {kd p : Nat} (hkd : kd < 11) (hp : p < mm_fn kd) (P : mm_P) (h : mm_H) (len sl : Nat) : defaultValue (tb_ft kd p) = mm_fv P (mm_nw h kd len sl) (mm_n h) (mm_fty kd p) p := by
  have hT := mm_ft hkd hp
  have h1 := List.all_eq_true.mp tb_okP_all kd (List.mem_range.mpr hkd)
  have h2 := List.all_eq_true.mp h1 p (List.mem_range.mpr hp)
  unfold tb_okP at h2
  simp only [Bool.and_eq_true, decide_eq_true_eq] at h2
  obtain ⟨⟨⟨-, a2⟩, -⟩, -⟩ := h2
  simp only [mm_fv, mm_i_nw, mm_l_nw, mm_r_nw, if_true]
  by_cases t1 : mm_fty kd p = 1
  · rw [hT.2.2.1 t1, if_pos t1]; rfl
  · rw [if_neg t1]
    by_cases t2 : mm_fty kd p = 2
    · rw [if_pos t2]
      have hr := hT.2.2.2.1 t2
      cases hft : tb_ft kd p <;> rw [hft] at hr <;> simp [FieldType.isReference] at hr <;> rfl
    · rw [if_neg t2]
      by_cases t0 : mm_fty kd p = 0
      · rw [hT.2.1 t0]; rfl
      · have t3 : mm_fty kd p = 3 := by
          generalize mm_fty kd p = z at a2 t0 t1 t2
          match z, a2, t0, t1, t2 with
          | 0, _, t0, _, _ => exact absurd rfl t0
          | 1, _, _, t1, _ => exact absurd rfl t1
          | 2, _, _, _, t2 => exact absurd rfl t2
          | z + 3, a2, _, _, _ => simp only [decide_eq_true_eq] at a2; exact a2.1
        rw [hT.2.2.2.2.1 t3]; rfl
section
variable {P : mm_P} {y d n0 z0 : Nat} {p : Program} {l : Launch} {e : Env} {R : Room} {s : State} {m : MethodId} {args : Array Value} {below : List Frame} {meth : Method} {c : Code} {Q : State → Prop} {pc k : Nat} {ls ls' st r : List Value} {h h' : mm_H} {x x2 : Int32} {w w2 : Int64} {a b : Nat} {n off : Int}
theorem sg_ldcI {v : Int32} (C : mm_Cx P y d p R s m meth c) (hc : tb_cod y pc = some (.ldc k, 2)) (hv : tb_ci y k = some v)
    (K : mm_G P y n0 z0 p l e R s m args below meth c Q (pc + 2) ls (.int v :: st) h) : mm_G P y n0 z0 p l e R s m args below meth c Q pc ls st h := by
  intro H locs cells slots lsR hr hlv hl hn hz
  exact W.ldc C.1.1 C.1.2.1 C.2.1.1 (C.2.1.2.2.2.1 _ (mm_ci_spec hv) rfl args) rfl (mm_dec hc).1 (K H locs cells slots lsR hr hlv hl hn hz)
theorem sg_ldc2 {v : Int64} (C : mm_Cx P y d p R s m meth c) (hc : tb_cod y pc = some (.ldc2_w k, 3)) (hv : tb_cl2 y k = some v)
    (K : mm_G P y n0 z0 p l e R s m args below meth c Q (pc + 3) ls (.long v :: st) h) : mm_G P y n0 z0 p l e R s m args below meth c Q pc ls st h := by
  intro H locs cells slots lsR hr hlv hl hn hz
  exact lv_ldc2 C.1.1 C.1.2.1 C.2.1.1 (C.2.1.2.2.2.1 _ (mm_cl2_spec hv) rfl args) (mm_dec hc).1 (K H locs cells slots lsR hr hlv hl hn hz)
theorem sg_ldcS {q : Nat} (C : mm_Cx P y d p R s m meth c) (hc : tb_cod y pc = some (.ldc k, 2)) (hv : tb_cs y k = some q)
    (K : mm_G P y n0 z0 p l e R s m args below meth c Q (pc + 2) ls (.float (UInt32.ofNat q) :: st) h) : mm_G P y n0 z0 p l e R s m args below meth c Q pc ls st h := by
  intro H locs cells slots lsR hr hlv hl hn hz
  obtain ⟨z, hz1, hz2, hz3⟩ := mm_cs_spec hv
  have hR := C.2.1.2.2.2.2.2.2.1 q z hz1
  rw [hz2] at hR
  have K2 := K H locs cells slots lsR hr hlv hl hn hz
  have e1 : mm_rv P (.float (UInt32.ofNat q)) = .ref (P.2.1 q) := by
    show Value.ref (P.2.1 (UInt32.ofNat q).toNat) = _
    rw [UInt32.toNat_ofNat_of_lt' (by show q < 4294967296; omega)]
  rw [List.map_cons, e1] at K2
  exact va_ldcS C.1.1 C.1.2.1 C.2.1.1 hR (mm_dec hc).1 K2
theorem sg_new {kd : Nat} (C : mm_Cx P y d p R s m meth c) (hc : tb_cod y pc = some (.new k, 3)) (hk : tb_ck y k = some kd) (h26 : kd ≠ 26) (r1 : mm_n h + 1 ≤ n0 + R.cells) (r2 : mm_z h + tb_sl kd ≤ z0 + R.slots)
    (K : mm_G P y n0 z0 p l e R s m args below meth c Q (pc + 3) ls (.ref (mm_n h) :: st) (mm_nw h kd (tb_sl kd) (tb_sl kd))) : mm_G P y n0 z0 p l e R s m args below meth c Q pc ls st h := by
  intro H locs cells slots lsR hr hlv hl hn hz
  have hks : kd ∈ tb_ks := (mm_ck_ks hk).resolve_right h26
  have E := C.2.1.2.2.2
  obtain ⟨w1, w2, hkk⟩ := mm_kind hks
  have hcl : Cond.classLink (tb_nm (tb_cls y)) k ((tb_kin.lookup kd).getD ("", 0)).1 ∈ lw_tbl := by
    rcases mm_ck_spec hk with q | q
    · exact q.2
    · exact absurd q.1 h26
  have hadn := mm_ad_new hr
  rcases hkk with ⟨hkd, hnm, hfn⟩ | h30
  · rw [hnm] at w1 w2 hcl
    have hKn := E.2.1 kd _ (tb_cl_at kd hkd)
    obtain ⟨hS, hfc, kC0, hkC0, hkind⟩ := hKn
    refine W.newcK C.1.1 C.1.2.1 C.2.1.1 (E.1 _ hcl rfl args) (E.1 _ w2 rfl args) (E.1 _ w1 rfl args) rfl (mm_dec hc).1 (by omega) (by omega) hfc rfl (fun H' kC hkC g1 g2 g3 => ?_)
    have hborn := u_born (args := args) (tb_ft kd) (E.1.hts args) (mm_lays hkd) (E.2.1 kd _ (tb_cl_at kd hkd)) hkC g1 (fun q hq => (mm_ft hkd hq).1)
    obtain ⟨cell, b1, b2, b3, b4⟩ := hborn
    have K2 := K H' locs (cells + 1) (slots + tb_sl kd) lsR (hr.nw g2 g3 ⟨cell, by rw [hadn]; exact b1, by rw [b3]; exact (fun q => by cases q), ?_⟩) hlv hl (by rw [mm_n_nw]; omega) (by rw [mm_z_nw]; omega)
    · have e1 : mm_rv P (.ref (mm_n h)) = .ref H.size := by show Value.ref _ = _; rw [hadn]
      rw [List.map_cons, e1] at K2
      exact K2
    · rw [mm_cl, mm_s_nw, if_pos rfl]
      refine Or.inl ⟨hkd, b2, b3, fun q hq => ?_⟩
      exact (b4 q hq).trans (congrArg some (mm_def hkd hq P h (tb_sl kd) (tb_sl kd)))
  · have h33 : kd ≤ 33 := by
      simp only [tb_ks, List.mem_cons, List.not_mem_nil, or_false] at hks
      omega
    obtain ⟨i, rfl⟩ := Nat.exists_eq_add_of_le h30
    have hX := E.2.2.2.2.1 i (by omega)
    obtain ⟨hfc, kC0, hkC0, hkind0⟩ := hX
    refine W.newcK C.1.1 C.1.2.1 C.2.1.1 (E.1 _ hcl rfl args) (E.1 _ w2 rfl args) (E.1 _ w1 rfl args) rfl (mm_dec hc).1 (by omega) (by omega) hfc rfl (fun H' kC hkC g1 g2 g3 => ?_)
    cases hkC0.symm.trans hkC
    have K2 := K H' locs (cells + 1) (slots + tb_sl (30 + i)) lsR (hr.nw g2 g3 ⟨_, by rw [hadn]; exact g1, (fun q => by cases q), ?_⟩) hlv hl (by rw [mm_n_nw]; omega) (by rw [mm_z_nw]; omega)
    · have e1 : mm_rv P (.ref (mm_n h)) = .ref H.size := by show Value.ref _ = _; rw [hadn]
      rw [List.map_cons, e1] at K2
      exact K2
    · rw [mm_cl, mm_s_nw, if_pos rfl]
      refine Or.inr (Or.inr ⟨⟨h30, h33⟩, rfl, rfl, rfl, rfl, kC0, hkC0, hkind0, ?_, fun j hj => ?_⟩)
      · show (kC0.instanceTypes.map defaultValue).size = _
        rw [Array.size_map]
      · show (kC0.instanceTypes.map defaultValue)[j]? = _
        rw [Array.getElem?_map, hj]
        rfl
end
