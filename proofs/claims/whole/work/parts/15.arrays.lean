/-! ARRAYS, NEW CELLS, CONSTANTS -/
theorem mm_in_of {j : Int32} {n : Nat} (h : mm_in j n = true) : ¬ (j < 0 ∨ n ≤ j.toNatClampNeg) := by
  simp only [mm_in, Bool.and_eq_true, decide_eq_true_eq] at h
  rintro (q | q)
  · rw [Int32.lt_iff_toInt_lt] at q
    have := Int32.le_iff_toInt_le.mp h.1
    omega
  · omega
theorem mm_in_lt {j : Int32} {n : Nat} (h : mm_in j n = true) : j.toNatClampNeg < n := by
  simp only [mm_in, Bool.and_eq_true, decide_eq_true_eq] at h
  exact h.2
theorem mm_rep.ast {P : mm_P} {s : State} {h h' : mm_H} {H H' : Heap} (hr : mm_rep P s h H) {a kd i : Nat} {cell : Cell} {v : Value} (hk : (mm_s h a).1 = kd) (h1 : 20 ≤ kd) (h2 : kd ≤ 26) (ha : a < mm_n h) (e2 : cell.vm ≠ .unknown) (e3 : cell.slots.size = (mm_s h a).2) (e4 : s.isArrayOf cell (mm_aty kd)) (e5 : 23 ≤ kd → cell.cls = P.2.2.2 kd) (e6 : ∀ j, j < (mm_s h a).2 → cell.slots[j]? = some (mm_av P h a kd j))
    (g1 : H'[mm_ad P a]? = some (cell.setSlot i v)) (g2 : H'.size = H.size) (g3 : ∀ z, z ≠ mm_ad P a → H'[z]? = H[z]?) (hs' : mm_s h' = mm_s h) (hn' : mm_n h' = mm_n h) (oi : ∀ b k, b ≠ a → mm_i h' b k = mm_i h b k) (ol : ∀ b k, b ≠ a → mm_l h' b k = mm_l h b k) (orr : ∀ b k, b ≠ a → mm_r h' b k = mm_r h b k)
    (hav : ∀ j, j < (mm_s h a).2 → mm_av P h' a kd j = if j = i then v else mm_av P h a kd j) : mm_rep P s h' H' := by
  refine hr.upd ha g2 g3 hn' hs' oi ol orr ⟨_, g1, e2, ?_⟩
  rw [mm_cl, hs', hk]
  refine Or.inr (Or.inl ⟨⟨h1, h2⟩, ?_, e4, e5, fun j hj => ?_⟩)
  · show (cell.slots.setIfInBounds i v).size = _
    rw [Array.size_setIfInBounds]; exact e3
  · show (cell.slots.setIfInBounds i v)[j]? = _
    rw [hav j hj, Array.getElem?_setIfInBounds]
    by_cases hj2 : i = j
    · subst hj2
      rw [if_pos rfl, if_pos rfl, if_pos (by rw [e3]; exact hj)]
    · rw [if_neg hj2, if_neg (fun z => hj2 z.symm)]
      exact e6 j hj
section
variable {P : mm_P} {y d n0 z0 : Nat} {p : Program} {l : Launch} {e : Env} {R : Room} {s : State} {m : MethodId} {args : Array Value} {below : List Frame} {meth : Method} {c : Code} {Q : State → Prop} {pc k : Nat} {ls ls' st r : List Value} {h h' : mm_H} {x x2 : Int32} {w w2 : Int64} {a b : Nat} {n off : Int}
theorem sg_iaload (C : mm_Cx P y d p R s m meth c) (hc : tb_cod y pc = some (.iaload, 1)) (hk : (mm_s h a).1 = 20) (hin : mm_in x (mm_s h a).2 = true)
    (K : mm_G P y n0 z0 p l e R s m args below meth c Q (pc + 1) ls (.int (mm_i h a x.toNatClampNeg) :: r) h) : mm_G P y n0 z0 p l e R s m args below meth c Q pc ls (.int x :: .ref a :: r) h := by
  intro H locs cells slots lsR hr hlv hl hn hz
  obtain ⟨ha, cell, e1, e2, e3, e4, e5, e6⟩ := hr.arr hk (by omega) (by omega)
  exact W.iald C.1.1 C.1.2.1 e1 e4 e2 (by rw [e3]; exact mm_in_of hin) (e6 _ (mm_in_lt hin)) rfl rfl (mm_dec hc).1 (K H locs cells slots lsR hr hlv hl hn hz)
theorem sg_laload (C : mm_Cx P y d p R s m meth c) (hc : tb_cod y pc = some (.laload, 1)) (hk : (mm_s h a).1 = 21) (hin : mm_in x (mm_s h a).2 = true)
    (K : mm_G P y n0 z0 p l e R s m args below meth c Q (pc + 1) ls (.long (mm_l h a x.toNatClampNeg) :: r) h) : mm_G P y n0 z0 p l e R s m args below meth c Q pc ls (.int x :: .ref a :: r) h := by
  intro H locs cells slots lsR hr hlv hl hn hz
  obtain ⟨ha, cell, e1, e2, e3, e4, e5, e6⟩ := hr.arr hk (by omega) (by omega)
  exact W.lald C.1.1 C.1.2.1 e1 e4 e2 (by rw [e3]; exact mm_in_of hin) (e6 _ (mm_in_lt hin)) rfl rfl (mm_dec hc).1 (K H locs cells slots lsR hr hlv hl hn hz)
theorem sg_baload (C : mm_Cx P y d p R s m meth c) (hc : tb_cod y pc = some (.baload, 1)) (hk : (mm_s h a).1 = 22) (hin : mm_in x (mm_s h a).2 = true)
    (K : mm_G P y n0 z0 p l e R s m args below meth c Q (pc + 1) ls (.int (mm_i h a x.toNatClampNeg) :: r) h) : mm_G P y n0 z0 p l e R s m args below meth c Q pc ls (.int x :: .ref a :: r) h := by
  intro H locs cells slots lsR hr hlv hl hn hz
  obtain ⟨ha, cell, e1, e2, e3, e4, e5, e6⟩ := hr.arr hk (by omega) (by omega)
  exact W.zald C.1.1 C.1.2.1 e1 e4 e2 (by rw [e3]; exact mm_in_of hin) (e6 _ (mm_in_lt hin)) rfl rfl (mm_dec hc).1 (K H locs cells slots lsR hr hlv hl hn hz)
theorem sg_aaload {kd : Nat} (C : mm_Cx P y d p R s m meth c) (hc : tb_cod y pc = some (.aaload, 1)) (hk : (mm_s h a).1 = kd) (h1 : 23 ≤ kd) (h2 : kd ≤ 26) (hin : mm_in x (mm_s h a).2 = true)
    (K : mm_G P y n0 z0 p l e R s m args below meth c Q (pc + 1) ls (mm_o (mm_r h a x.toNatClampNeg) :: r) h) : mm_G P y n0 z0 p l e R s m args below meth c Q pc ls (.int x :: .ref a :: r) h := by
  intro H locs cells slots lsR hr hlv hl hn hz
  obtain ⟨ha, cell, e1, e2, e3, e4, e5, e6⟩ := hr.arr hk (by omega) (by omega)
  have hav : mm_av P h a kd x.toNatClampNeg = mm_rv P (mm_o (mm_r h a x.toNatClampNeg)) := by unfold mm_av; rw [if_neg (by omega), if_pos h1]
  have href : (mm_aty kd).isReference = true := by
    rcases (show kd = 23 ∨ kd = 24 ∨ kd = 25 ∨ kd = 26 by omega) with rfl | rfl | rfl | rfl <;> rfl
  exact W.aald C.1.1 C.1.2.1 e1 e4 href e2 (by rw [e3]; exact mm_in_of hin) (by rw [e6 _ (mm_in_lt hin), hav]) rfl rfl (mm_dec hc).1 (K H locs cells slots lsR hr hlv hl hn hz)
theorem mm_locs {P : mm_P} {locs : List Loc} {a i : Nat} (hl : ∀ q ∈ locs, P.1.2 ≤ q.base) (ha : ¬ a = 0) : ∀ q ∈ locs ++ [⟨mm_ad P a, i⟩], P.1.2 ≤ q.base := by
  intro z hz2
  rcases List.mem_append.mp hz2 with hz3 | hz3
  · exact hl z hz3
  · rw [List.mem_singleton] at hz3
    subst hz3
    exact mm_ad_base ha
theorem sg_iastore (C : mm_Cx P y d p R s m meth c) (hc : tb_cod y pc = some (.iastore, 1)) (hk : (mm_s h a).1 = 20) (ha0 : ¬ a = 0) (hin : mm_in x (mm_s h a).2 = true)
    (K : mm_G P y n0 z0 p l e R s m args below meth c Q (pc + 1) ls r (mm_pi h a x.toNatClampNeg x2)) : mm_G P y n0 z0 p l e R s m args below meth c Q pc ls (.int x2 :: .int x :: .ref a :: r) h := by
  intro H locs cells slots lsR hr hlv hl hn hz
  obtain ⟨ha, cell, e1, e2, e3, e4, e5, e6⟩ := hr.arr hk (by omega) (by omega)
  refine W.iast C.1.1 C.1.2.1 e1 e4 e2 (by rw [e3]; exact mm_in_of hin) rfl rfl (mm_dec hc).1 (fun H' g1 g2 g3 => ?_)
  refine K H' _ cells slots lsR (hr.ast (v := .int x2) hk (by omega) (by omega) ha e2 e3 e4 e5 e6 g1 g2 g3 rfl rfl (fun b k hb => by rw [mm_i_pi, if_neg (fun z => hb z.1)]) (fun _ _ _ => rfl) (fun _ _ _ => rfl) (fun j hj => ?_)) hlv (mm_locs hl ha0) hn hz
  simp only [mm_av, mm_i_pi, true_and]
  by_cases hj2 : j = x.toNatClampNeg <;> simp [hj2]
theorem sg_lastore (C : mm_Cx P y d p R s m meth c) (hc : tb_cod y pc = some (.lastore, 1)) (hk : (mm_s h a).1 = 21) (hin : mm_in x (mm_s h a).2 = true)
    (K : mm_G P y n0 z0 p l e R s m args below meth c Q (pc + 1) ls r (mm_pl h a x.toNatClampNeg w)) : mm_G P y n0 z0 p l e R s m args below meth c Q pc ls (.long w :: .int x :: .ref a :: r) h := by
  intro H locs cells slots lsR hr hlv hl hn hz
  obtain ⟨ha, cell, e1, e2, e3, e4, e5, e6⟩ := hr.arr hk (by omega) (by omega)
  have ha0 : ¬ a = 0 := fun q => by subst q; have := hr.2.2.2.1; omega
  refine W.last C.1.1 C.1.2.1 e1 e4 e2 (by rw [e3]; exact mm_in_of hin) rfl rfl (mm_dec hc).1 (fun H' g1 g2 g3 => ?_)
  refine K H' _ cells slots lsR (hr.ast (v := .long w) hk (by omega) (by omega) ha e2 e3 e4 e5 e6 g1 g2 g3 rfl rfl (fun _ _ _ => rfl) (fun b k hb => by rw [mm_l_pl, if_neg (fun z => hb z.1)]) (fun _ _ _ => rfl) (fun j hj => ?_)) hlv (mm_locs hl ha0) hn hz
  simp only [mm_av, mm_l_pl, true_and]
  by_cases hj2 : j = x.toNatClampNeg <;> simp [hj2]
theorem sg_bastore (C : mm_Cx P y d p R s m meth c) (hc : tb_cod y pc = some (.bastore, 1)) (hk : (mm_s h a).1 = 22) (hx : x2 = 0 ∨ x2 = 1) (hin : mm_in x (mm_s h a).2 = true)
    (K : mm_G P y n0 z0 p l e R s m args below meth c Q (pc + 1) ls r (mm_pi h a x.toNatClampNeg x2)) : mm_G P y n0 z0 p l e R s m args below meth c Q pc ls (.int x2 :: .int x :: .ref a :: r) h := by
  intro H locs cells slots lsR hr hlv hl hn hz
  obtain ⟨ha, cell, e1, e2, e3, e4, e5, e6⟩ := hr.arr hk (by omega) (by omega)
  have ha0 : ¬ a = 0 := fun q => by subst q; have := hr.2.2.2.1; omega
  have hnar : narrow .boolean (.int x2) = .int x2 := by rcases hx with rfl | rfl <;> rfl
  refine W.zast C.1.1 C.1.2.1 e1 e4 e2 (by rw [e3]; exact mm_in_of hin) rfl rfl (mm_dec hc).1 (fun H' g1 g2 g3 => ?_)
  rw [hnar] at g1
  refine K H' _ cells slots lsR (hr.ast (v := .int x2) hk (by omega) (by omega) ha e2 e3 e4 e5 e6 g1 g2 g3 rfl rfl (fun b k hb => by rw [mm_i_pi, if_neg (fun z => hb z.1)]) (fun _ _ _ => rfl) (fun _ _ _ => rfl) (fun j hj => ?_)) hlv (mm_locs hl ha0) hn hz
  simp only [mm_av, mm_i_pi, true_and]
  by_cases hj2 : j = x.toNatClampNeg <;> simp [hj2]
theorem sg_aastore {kd kv : Nat} {C0 : String} (C : mm_Cx P y d p R s m meth c) (hc : tb_cod y pc = some (.aastore, 1)) (hk : (mm_s h a).1 = kd) (h1 : 23 ≤ kd) (h2 : kd ≤ 25) (hkv : (mm_s h b).1 = kv) (hkv11 : kv < 11) (hnm : tb_nm kv = C0) (hRA : va_RA s (P.2.2.2 kd) (.object C0)) (hin : mm_in x (mm_s h a).2 = true)
    (K : mm_G P y n0 z0 p l e R s m args below meth c Q (pc + 1) ls r (mm_pr h a x.toNatClampNeg (some b))) : mm_G P y n0 z0 p l e R s m args below meth c Q pc ls (.ref b :: .int x :: .ref a :: r) h := by
  intro H locs cells slots lsR hr hlv hl hn hz
  obtain ⟨ha, cell, e1, e2, e3, e4, e5, e6⟩ := hr.arr hk (by omega) (by omega)
  obtain ⟨hb, hb0, cv, v1, v2, v3, -⟩ := hr.obj hkv hkv11
  have ha0 : ¬ a = 0 := fun q => by subst q; have := hr.2.2.2.1; omega
  obtain ⟨kA, comp, a1, a2, a3, -⟩ := hRA
  obtain ⟨-, hfc, kC, hkC, hkind⟩ := C.2.1.2.2.2.2.1 kv _ (tb_cl_at kv hkv11)
  have hcomp : comp = P.2.2.1.1 kv := by
    rw [← hnm] at a3
    exact Option.some.inj (a3.symm.trans hfc)
  subst hcomp
  have hin' := mm_in_of hin
  refine W.aast C.1.1 C.1.2.1 e1 e4.1 e2 (by rw [e5 h1]; exact a1) a2 rfl hkC ⟨fun q => hin' (Or.inl q), by rw [e3]; exact mm_in_lt hin⟩ v1 (by rw [v3]; exact fun q z => by cases z) (by rw [v2]; exact hkC) (by rw [v2]; exact va_assign ⟨hfc, kC, hkC, hkind⟩) rfl rfl (mm_dec hc).1 (fun H' g1 g2 g3 => ?_)
  refine K H' _ cells slots lsR (hr.ast (v := .ref (mm_ad P b)) hk (by omega) (by omega) ha e2 e3 e4 e5 e6 g1 g2 g3 rfl rfl (fun _ _ _ => rfl) (fun _ _ _ => rfl) (fun b k hb => by rw [mm_r_pr, if_neg (fun z => hb z.1)]) (fun j hj => ?_)) hlv (mm_locs hl ha0) hn hz
  simp only [mm_av, mm_r_pr, true_and, if_neg (show ¬ kd = 21 by omega), if_pos h1]
  split <;> rfl
theorem sg_alen {kd : Nat} (C : mm_Cx P y d p R s m meth c) (hc : tb_cod y pc = some (.arraylength, 1)) (hk : (mm_s h a).1 = kd) (h1 : 20 ≤ kd) (h2 : kd ≤ 26)
    (K : mm_G P y n0 z0 p l e R s m args below meth c Q (pc + 1) ls (.int (nI (mm_s h a).2) :: r) h) : mm_G P y n0 z0 p l e R s m args below meth c Q pc ls (.ref a :: r) h := by
  intro H locs cells slots lsR hr hlv hl hn hz
  obtain ⟨ha, cell, e1, e2, e3, e4, e5, e6⟩ := hr.arr hk h1 h2
  exact W.alen C.1.1 C.1.2.1 e1 e4 (by rw [e3]; rfl) rfl rfl (mm_dec hc).1 (K H locs cells slots lsR hr hlv hl hn hz)
end
