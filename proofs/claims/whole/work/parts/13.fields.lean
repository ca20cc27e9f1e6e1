/-! FIELDS -/
theorem tb_cl_at : ∀ kd, kd < 11 → tb_cl[kd]? = some (tb_nm kd, tb_u kd, mm_fn kd) := by
  intro kd h
  rcases (show kd = 0 ∨ kd = 1 ∨ kd = 2 ∨ kd = 3 ∨ kd = 4 ∨ kd = 5 ∨ kd = 6 ∨ kd = 7 ∨ kd = 8 ∨ kd = 9 ∨ kd = 10 by omega) with rfl | rfl | rfl | rfl | rfl | rfl | rfl | rfl | rfl | rfl | rfl <;> rfl
theorem mm_fl_spec {y k kd p ty : Nat} (hf : tb_fl y k = some (kd, p, ty)) : ∃ nest : Bool, (if nest = true then .fieldLinkNest (tb_nm (tb_cls y)) k (tb_nm kd) (tb_f kd p).2.1 (tb_f kd p).2.2.1 "LoadRoom" else .fieldLink (tb_nm (tb_cls y)) k (tb_nm kd) (tb_f kd p).2.1 (tb_f kd p).2.2.1 : Cond) ∈ lw_tbl ∧ p < mm_fn kd ∧ kd < 11 ∧ mm_fty kd p = ty ∧ (tb_f kd p).1 = tb_nm kd ∧ ((tb_cls y, k), (kd, p, ty)) ∈ tb_fld.map (fun q => (q.1, q.2.1)) := by
  unfold tb_fl at hf
  cases hl : tb_fld.lookup (tb_cls y, k) with
  | none => rw [hl] at hf; cases hf
  | some q =>
    rw [hl] at hf
    obtain ⟨q1, wi, nest⟩ := q
    simp only [Option.map_some, Option.some.injEq] at hf
    subst hf
    have hm := mm_lookup hl
    have hok := List.all_eq_true.mp tb_okF_all _ hm
    simp only [tb_okF, Bool.and_eq_true, decide_eq_true_eq] at hok
    obtain ⟨o1, o2, o3, o4, o5, o6⟩ := hok
    exact ⟨nest, List.mem_of_getElem? o1, o2, o3, o5, o6, List.mem_map.mpr ⟨_, hm, rfl⟩⟩
theorem mm_E1.hts {s : State} (E : mm_E1 s) (a : Array Value) : ∀ w ∈ lw_tbl.filter mm_gw, w.before a s = true := fun w hw => E w (List.mem_filter.mp hw).1 (List.mem_filter.mp hw).2 a
theorem mm_lays {kd : Nat} (hkd : kd < 11) : ∀ w ∈ u_ws (tb_nm kd) (tb_u kd) (mm_fn kd), w ∈ lw_tbl.filter mm_gw := by
  intro w hw
  obtain ⟨p, hp, rfl⟩ := List.mem_map.mp hw
  have h1 := List.all_eq_true.mp tb_okL_all kd (List.mem_range.mpr hkd)
  unfold tb_okL at h1
  have h2 := List.all_eq_true.mp h1 p hp
  rw [decide_eq_true_eq] at h2
  refine List.mem_filter.mpr ⟨List.mem_of_getElem? h2, ?_⟩
  unfold u_lay
  split <;> rfl
def tb_ft (kd p : Nat) : FieldType := (parseFieldDescriptor (tb_f kd p).2.2.1).getD .int
def tb_okP (kd p : Nat) : Bool := decide (parseFieldDescriptor (tb_f kd p).2.2.1 = some (tb_ft kd p)) && (match mm_fty kd p with
  | 0 => decide (tb_ft kd p = .int)
  | 1 => decide (tb_ft kd p = .long)
  | 2 => (tb_ft kd p).isReference
  | _ => decide (mm_fty kd p = 3 ∧ tb_ft kd p = .boolean)) && ((List.range (mm_fn kd)).all fun j => decide (j = p ∨ (tb_f kd j).2.1 ≠ (tb_f kd p).2.1)) && decide ((tb_f kd p).1 = tb_nm kd)
theorem tb_okP_all : (List.range 11).all (fun kd => (List.range (mm_fn kd)).all (fun p => tb_okP kd p)) = true := by decide +kernel
theorem mm_ft {kd p : Nat} (hkd : kd < 11) (hp : p < mm_fn kd) : parseFieldDescriptor (tb_u kd p).2.2.1 = some (tb_ft kd p) ∧ (mm_fty kd p = 0 → tb_ft kd p = .int) ∧ (mm_fty kd p = 1 → tb_ft kd p = .long) ∧ (mm_fty kd p = 2 → (tb_ft kd p).isReference = true) ∧ (mm_fty kd p = 3 → tb_ft kd p = .boolean) ∧ (∀ j, j < mm_fn kd → j ≠ p → (tb_u kd j).2.1 ≠ (tb_u kd p).2.1) ∧ (tb_u kd p).1 = tb_nm kd := by
  have h1 := List.all_eq_true.mp tb_okP_all kd (List.mem_range.mpr hkd)
  have h2 := List.all_eq_true.mp h1 p (List.mem_range.mpr hp)
  unfold tb_okP at h2
  simp only [Bool.and_eq_true, decide_eq_true_eq] at h2
  obtain ⟨⟨⟨a1, a2⟩, a3⟩, a4⟩ := h2
  refine ⟨a1, fun e => ?_, fun e => ?_, fun e => ?_, fun e => ?_, fun j hj hne => ?_, a4⟩
  · rw [e] at a2; simpa using a2
  · rw [e] at a2; simpa using a2
  · rw [e] at a2; simpa using a2
  · rw [e] at a2
    simp only [decide_eq_true_eq] at a2
    exact a2.2
  · have h3 := List.all_eq_true.mp a3 j (List.mem_range.mpr hj)
    simp only [decide_eq_true_eq] at h3
    rcases h3 with h3 | h3
    · exact absurd h3 hne
    · exact h3
theorem mm_field {P : mm_P} {s : State} (E : mm_Ev P s) {kd p : Nat} (hkd : kd < 11) (hp : p < mm_fn kd) : ∃ (cf : ClassId) (kf : Class) (fi : Nat) (f : Field) (kC : Class), s.fieldFound? (tb_nm kd) (tb_f kd p).2.1 (tb_f kd p).2.2.1 = some (cf, kf, fi, f) ∧ f.slot = P.2.2.1.2 kd p ∧ f.isStatic = false ∧ s.vm.findClass (tb_nm kd) = some (P.2.2.1.1 kd) ∧ s.vm.classes[P.2.2.1.1 kd]? = some kC ∧ kC.kind = .ordinary := by
  obtain ⟨hS, hfc, kC, hkC, hkind⟩ := E.2.1 kd _ (tb_cl_at kd hkd)
  obtain ⟨cf, kf, fi, f, hi, hsl⟩ := hS p hp
  have hst := (u_facts (args := #[]) hfc hkC (u_lays (E.1.hts #[]) (mm_lays hkd) hp) hi).1
  rw [(mm_ft hkd hp).2.2.2.2.2.2] at hi
  exact ⟨cf, kf, fi, f, kC, hi, hsl, hst, hfc, hkC, hkind⟩
theorem mm_apart {P : mm_P} {s : State} (E : mm_Ev P s) {kd : Nat} (hkd : kd < 11) : ∀ x y, x < mm_fn kd → y < mm_fn kd → x ≠ y → P.2.2.1.2 kd x ≠ P.2.2.1.2 kd y := by
  intro x y hx hy hne
  obtain ⟨hS, -⟩ := E.2.1 kd _ (tb_cl_at kd hkd)
  obtain ⟨_, _, _, fa, hia, ea⟩ := hS x hx
  obtain ⟨_, _, _, fb, hib, eb⟩ := hS y hy
  rw [← ea, ← eb]
  refine u_apart (args := #[]) (u_lays (E.1.hts #[]) (mm_lays hkd) hx) (u_lays (E.1.hts #[]) (mm_lays hkd) hy) hia hib ?_
  rw [(State.fieldFound?_type hia (mm_ft hkd hx).1).1, (State.fieldFound?_type hib (mm_ft hkd hy).1).1]
  exact (mm_ft hkd hy).2.2.2.2.2.1 x hx hne
theorem mm_narrow {t : FieldType} (h : t.isReference = true) (v : Value) (hv : v = .null ∨ ∃ a, v = .ref a) : narrow t v = v ∧ fits t v = true := by
  rcases hv with rfl | ⟨a, rfl⟩ <;> cases t <;> simp [FieldType.isReference] at h <;> exact ⟨rfl, rfl⟩
section
variable {P : mm_P} {y d n0 z0 : Nat} {p : Program} {l : Launch} {e : Env} {R : Room} {s : State} {m : MethodId} {args : Array Value} {below : List Frame} {meth : Method} {c : Code} {Q : State → Prop} {pc k : Nat} {ls ls' st r : List Value} {h : mm_H} {x x2 : Int32} {w w2 : Int64} {a b : Nat} {n off : Int}
theorem sg_get {kd q ty : Nat} {v : Value} (C : mm_Cx P y d p R s m meth c) (hc : tb_cod y pc = some (.getfield k, 3)) (hf : tb_fl y k = some (kd, q, ty)) (hk : (mm_s h a).1 = kd) (hv : mm_rv P v = mm_fv P h a ty q)
    (K : mm_G P y n0 z0 p l e R s m args below meth c Q (pc + 3) ls (v :: r) h) : mm_G P y n0 z0 p l e R s m args below meth c Q pc ls (.ref a :: r) h := by
  intro H locs cells slots lsR hr hlv hl hn hz
  obtain ⟨nest, hw, hq, hkd, hty, -, -⟩ := mm_fl_spec hf
  obtain ⟨ha, ha0, cell, e1, e2, e3, e4⟩ := hr.obj hk hkd
  obtain ⟨cf, kf, fi, f, kC, hi, hsl, hst, -, -, -⟩ := mm_field C.2.1.2.2.2 hkd hq
  have K2 := K H locs cells slots lsR hr hlv hl hn hz
  have hslot : cell.slots[f.slot]? = some (mm_rv P v) := by rw [hsl, e4 q hq, hty, hv]
  have hkn : cell.vm ≠ .unknown := by rw [e3]; exact fun h => by cases h
  cases nest with
  | true =>
    have hlink := C.2.1.2.2.2.1 _ hw rfl args
    exact va_Wgetf C.1.1 C.1.2.1 C.2.1.1 hlink hi hst e1 hkn hslot rfl rfl (mm_dec hc).1 K2
  | false =>
    have hlink := C.2.1.2.2.2.1 _ hw rfl args
    exact W.getf C.1.1 C.1.2.1 C.2.1.1 hlink hi hst e1 hkn hslot rfl rfl (mm_dec hc).1 K2
end
