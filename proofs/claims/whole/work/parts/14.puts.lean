/-! FIELDS, WRITTEN -/
/-- a final field is written by its own class's constructor alone -/
def tb_okW (y : Nat) (i : ClassFile.Instr) : Bool := match i with
  | .putfield k => match tb_fld.lookup (tb_cls y, k) with
    | some q => if (tb_u q.1.1 q.1.2.1).2.2.2 = true then (tb_y y).name == "<init>" && (tb_nm (tb_cls y) == tb_nm q.1.1 && !q.2.2) else true
    | none => true
  | _ => true
set_option maxRecDepth 100000 in
theorem tb_okW_all : (List.range 149).all (fun y => (tb_ins.getD y []).all (fun r => r.all (fun q => tb_okW y q.2.1))) = true := by decide +kernel
theorem mm_okW {y pc : Nat} {i : ClassFile.Instr} {len : Nat} (hy : y < 149) (hc : tb_cod y pc = some (i, len)) : tb_okW y i = true := by
  have h1 := List.all_eq_true.mp tb_okW_all y (List.mem_range.mpr hy)
  have hm := mm_lookup hc
  have hin : ∀ L : List (List (Nat × ClassFile.Instr × Nat)), (pc, i, len) ∈ L.getD (pc / 64) [] → L.getD (pc / 64) [] ∈ L := by
    intro L hm
    rw [List.getD_eq_getElem?_getD] at hm ⊢
    cases hq : L[pc / 64]? with
    | none => rw [hq] at hm; cases hm
    | some z => exact List.mem_of_getElem? hq
  exact List.all_eq_true.mp (List.all_eq_true.mp h1 _ (hin _ hm)) _ hm
theorem mm_fl_nest {y k kd p ty : Nat} (hf : tb_fl y k = some (kd, p, ty)) : ∃ (wi : Nat) (nest : Bool), tb_fld.lookup (tb_cls y, k) = some ((kd, p, ty), wi, nest) ∧ (if nest = true then .fieldLinkNest (tb_nm (tb_cls y)) k (tb_nm kd) (tb_f kd p).2.1 (tb_f kd p).2.2.1 "LoadRoom" else .fieldLink (tb_nm (tb_cls y)) k (tb_nm kd) (tb_f kd p).2.1 (tb_f kd p).2.2.1 : Cond) ∈ lw_tbl := by
  unfold tb_fl at hf
  cases hl : tb_fld.lookup (tb_cls y, k) with
  | none => rw [hl] at hf; cases hf
  | some q =>
    rw [hl] at hf
    obtain ⟨q1, wi, nest⟩ := q
    simp only [Option.map_some, Option.some.injEq] at hf
    subst hf
    have hok := List.all_eq_true.mp tb_okF_all _ (mm_lookup hl)
    simp only [tb_okF, Bool.and_eq_true, decide_eq_true_eq] at hok
    exact ⟨wi, nest, rfl, List.mem_of_getElem? hok.1⟩
section
variable {P : mm_P} {y d n0 z0 : Nat} {p : Program} {l : Launch} {e : Env} {R : Room} {s : State} {m : MethodId} {args : Array Value} {below : List Frame} {meth : Method} {c : Code} {Q : State → Prop} {pc k : Nat} {ls ls' st r : List Value} {h h' : mm_H} {x x2 : Int32} {w w2 : Int64} {a b : Nat} {n off : Int}
theorem sg_put {kd q ty : Nat} {v : Value} (C : mm_Cx P y d p R s m meth c) (hc : tb_cod y pc = some (.putfield k, 3)) (hf : tb_fl y k = some (kd, q, ty)) (hk : (mm_s h a).1 = kd)
    (hnf : narrow (tb_ft kd q) (mm_rv P v) = mm_rv P v ∧ fits (tb_ft kd q) (mm_rv P v) = true)
    (hs' : mm_s h' = mm_s h) (hn' : mm_n h' = mm_n h) (hz' : mm_z h' = mm_z h) (oi : ∀ b k, b ≠ a → mm_i h' b k = mm_i h b k) (ol : ∀ b k, b ≠ a → mm_l h' b k = mm_l h b k) (orr : ∀ b k, b ≠ a → mm_r h' b k = mm_r h b k)
    (hfv : ∀ j, j < mm_fn kd → mm_fv P h' a (mm_fty kd j) j = if j = q then mm_rv P v else mm_fv P h a (mm_fty kd j) j)
    (K : mm_G P y n0 z0 p l e R s m args below meth c Q (pc + 3) ls r h') : mm_G P y n0 z0 p l e R s m args below meth c Q pc ls (v :: .ref a :: r) h := by
  intro H locs cells slots lsR hr hlv hl hn hz
  obtain ⟨-, -, hq, hkd, hty, -, -⟩ := mm_fl_spec hf
  obtain ⟨wi, nest, hlk, hw⟩ := mm_fl_nest hf
  obtain ⟨ha, ha0, cell, e1, e2, e3, e4⟩ := hr.obj hk hkd
  have E := C.2.1.2.2.2
  obtain ⟨cf, kf, fi, f, kC, hi, hsl, hst, hfc, hkC, hkind⟩ := mm_field E hkd hq
  have hlt : f.slot < cell.slots.size := by rw [hsl]; exact k2_hasslot (e4 q hq)
  have hlink := E.1 _ hw (by cases nest <;> rfl) args
  have hdecl := (mm_ft hkd hq).2.2.2.2.2.2
  have hpd := (mm_ft hkd hq).1
  have hlay := E.1.hts args _ (mm_lays hkd _ (u_in_lay hq))
  have hiD : s.fieldFound? (tb_u kd q).1 (tb_u kd q).2.1 (tb_u kd q).2.2.1 = some (cf, kf, fi, f) := by rw [hdecl]; exact hi
  have hend : ∀ H' : Heap, H'[mm_ad P a]? = some (cell.setSlot f.slot (mm_rv P v)) → H'.size = H.size → (∀ z, z ≠ mm_ad P a → H'[z]? = H[z]?) →
      W p l e R s m args below meth c H' (locs ++ [⟨mm_ad P a, f.slot⟩]) cells slots Q (F0 m (pc + 3) lsR (r.map (mm_rv P))) := by
    intro H' g1 g2 g3
    refine K H' _ cells slots lsR (hr.upd ha g2 g3 hn' hs' oi ol orr ⟨_, g1, ?_, ?_⟩) hlv ?_ (by rw [hn']; exact hn) (by rw [hz']; exact hz)
    · show cell.vm ≠ .unknown
      rw [e3]; exact fun h => by cases h
    · rw [mm_cl, hs', hk]
      refine Or.inl ⟨hkd, e2, e3, fun j hj => ?_⟩
      rw [hsl, t_set e4 (mm_apart E hkd) hq (mm_rv P v) j hj, hfv j hj]
      rfl
    · intro z hz2
      rcases List.mem_append.mp hz2 with hz3 | hz3
      · exact hl z hz3
      · rw [List.mem_singleton] at hz3
        subst hz3
        exact mm_ad_base ha0
  have hokW := mm_okW C.2.2.1.1 hc
  unfold tb_okW at hokW
  simp only [hlk] at hokW
  by_cases hfin : (tb_u kd q).2.2.2 = true
  · rw [if_pos hfin] at hokW
    simp only [Bool.and_eq_true, beq_iff_eq, Bool.not_eq_true'] at hokW
    obtain ⟨w1, w2, w3⟩ := hokW
    subst w3
    unfold u_lay at hlay
    rw [if_pos hfin] at hlay
    have hcf : m.cls = cf := by
      obtain ⟨_, _, c', _, _, _, -, -, hf', -, -, -, hown2, -⟩ := Cond.laysFinal_spec hlay
      have e5 : c' = cf := by have := hiD.symm.trans hf'; simp at this; exact this.1.symm
      rw [hdecl, ← w2] at hown2
      rw [← e5]; exact Option.some.inj (C.2.1.1.symm.trans hown2)
    have h6 := u_fits (args := args) hfc hkC hkind (Or.inr hlay) hiD hpd hnf.1 hnf.2
    exact W.putFinK C.1.1 C.1.2.1 C.2.1.1 hlink hi hst hcf (C.2.1.2.2.1.trans w1) (by rw [e2]; exact h6) e1 e3 hlt rfl rfl (mm_dec hc).1 hend
  · unfold u_lay at hlay
    rw [if_neg hfin] at hlay
    have h6 := u_store (args := args) hfc hkC hkind hlay hiD hpd hnf.1 hnf.2
    cases nest with
    | true => exact va_WputK C.1.1 C.1.2.1 (f := f) C.2.1.1 hlink hi hst (by rw [e2]; exact h6) e1 e3 hlt rfl rfl (mm_dec hc).1 hend
    | false => exact W.putK C.1.1 C.1.2.1 (f := f) ⟨C.2.1.1, hlink, ⟨_, _, _, hi⟩, hst⟩ (by rw [e2]; exact h6) e1 e3 hlt rfl rfl (mm_dec hc).1 hend
theorem sg_putI {kd q ty : Nat} (C : mm_Cx P y d p R s m meth c) (hc : tb_cod y pc = some (.putfield k, 3)) (hf : tb_fl y k = some (kd, q, ty)) (hk : (mm_s h a).1 = kd) (hty : ty = 0 ∨ ty = 3 ∧ (x = 0 ∨ x = 1))
    (K : mm_G P y n0 z0 p l e R s m args below meth c Q (pc + 3) ls r (mm_pi h a q x)) : mm_G P y n0 z0 p l e R s m args below meth c Q pc ls (.int x :: .ref a :: r) h := by
  obtain ⟨-, -, hq, hkd, ht, -, -⟩ := mm_fl_spec hf
  have hT := mm_ft hkd hq
  refine sg_put (v := .int x) (h' := mm_pi h a q x) C hc hf hk ?_ rfl rfl rfl (fun b k hb => by rw [mm_i_pi, if_neg (fun z => hb z.1)]) (fun _ _ _ => rfl) (fun _ _ _ => rfl) (fun j hj => ?_) K
  · show narrow _ (.int x) = .int x ∧ fits _ (.int x) = true
    rcases hty with h0 | ⟨h3, hx⟩
    · rw [hT.2.1 (by rw [ht]; exact h0)]; exact ⟨rfl, rfl⟩
    · rw [hT.2.2.2.2.1 (by rw [ht]; exact h3)]
      rcases hx with rfl | rfl <;> exact ⟨rfl, rfl⟩
  · simp only [mm_fv, mm_i_pi, mm_l_pi, mm_r_pi, true_and]
    by_cases hj2 : j = q
    · subst hj2
      rw [if_pos rfl, if_pos rfl, if_neg (by rw [ht]; omega), if_neg (by rw [ht]; omega)]
      rfl
    · simp only [if_neg hj2]
theorem sg_putL {kd q : Nat} (C : mm_Cx P y d p R s m meth c) (hc : tb_cod y pc = some (.putfield k, 3)) (hf : tb_fl y k = some (kd, q, 1)) (hk : (mm_s h a).1 = kd)
    (K : mm_G P y n0 z0 p l e R s m args below meth c Q (pc + 3) ls r (mm_pl h a q w)) : mm_G P y n0 z0 p l e R s m args below meth c Q pc ls (.long w :: .ref a :: r) h := by
  obtain ⟨-, -, hq, hkd, ht, -, -⟩ := mm_fl_spec hf
  have hT := mm_ft hkd hq
  refine sg_put (v := .long w) (h' := mm_pl h a q w) C hc hf hk ?_ rfl rfl rfl (fun _ _ _ => rfl) (fun b k hb => by rw [mm_l_pl, if_neg (fun z => hb z.1)]) (fun _ _ _ => rfl) (fun j hj => ?_) K
  · show narrow _ (.long w) = .long w ∧ fits _ (.long w) = true
    rw [hT.2.2.1 ht]; exact ⟨rfl, rfl⟩
  · simp only [mm_fv, mm_i_pl, mm_l_pl, mm_r_pl, true_and]
    by_cases hj2 : j = q
    · subst hj2
      rw [if_pos rfl, if_pos rfl, if_pos ht]
      rfl
    · simp only [if_neg hj2]
theorem sg_putR {kd q : Nat} (C : mm_Cx P y d p R s m meth c) (hc : tb_cod y pc = some (.putfield k, 3)) (hf : tb_fl y k = some (kd, q, 2)) (hk : (mm_s h a).1 = kd)
    (K : mm_G P y n0 z0 p l e R s m args below meth c Q (pc + 3) ls r (mm_pr h a q (some b))) : mm_G P y n0 z0 p l e R s m args below meth c Q pc ls (.ref b :: .ref a :: r) h := by
  obtain ⟨-, -, hq, hkd, ht, -, -⟩ := mm_fl_spec hf
  have hT := mm_ft hkd hq
  refine sg_put (v := .ref b) (h' := mm_pr h a q (some b)) C hc hf hk (mm_narrow (hT.2.2.2.1 ht) _ (Or.inr ⟨_, rfl⟩)) rfl rfl rfl (fun _ _ _ => rfl) (fun _ _ _ => rfl) (fun b k hb => by rw [mm_r_pr, if_neg (fun z => hb z.1)]) (fun j hj => ?_) K
  simp only [mm_fv, mm_i_pr, mm_l_pr, mm_r_pr, true_and]
  by_cases hj2 : j = q
  · subst hj2
    rw [if_pos rfl, if_pos rfl, if_neg (by rw [ht]; omega), if_pos ht]
    rfl
  · simp only [if_neg hj2]
end
