/-! NEW ARRAYS; OBJECT'S CONSTRUCTOR -/
theorem mm_aw : Cond.arrayClass .int ∈ lw_tbl ∧ Cond.arrayClass .long ∈ lw_tbl ∧ Cond.arrayClass .boolean ∈ lw_tbl := by decide +kernel
theorem mm_obw : Cond.instanceMethod Lib.objectInit ∈ lw_tbl ∧ Cond.code Lib.objectInit ⟨#[0xb1]⟩ 1 none ∈ lw_tbl := by decide +kernel
theorem mm_nn {x : Int32} (h0 : 0 ≤ x) (h1 : x ≤ 1000) : ¬ x < 0 ∧ x.toNatClampNeg ≤ 1000 := by
  have a := Int32.le_iff_toInt_le.mp h0
  have b := Int32.le_iff_toInt_le.mp h1
  have e0 : (0 : Int32).toInt = 0 := rfl
  have e1 : (1000 : Int32).toInt = 1000 := by decide
  refine ⟨fun q => ?_, ?_⟩
  · have := Int32.lt_iff_toInt_lt.mp q
    omega
  · have : x.toNatClampNeg = x.toInt.toNat := rfl
    omega
theorem mm_rep.arrN {P : mm_P} {s : State} {h : mm_H} {H H' : Heap} {kd len : Nat} (hr : mm_rep P s h H) (h1 : 20 ≤ kd) (h2 : kd ≤ 26) {cell : Cell} (g1 : H'[H.size]? = some cell) (g2 : H'.size = H.size + 1) (g3 : ∀ q, q < H.size → H'[q]? = H[q]?)
    (hvm : cell.vm = .none) (hsz : cell.slots.size = len) (harr : s.isArrayOf cell (mm_aty kd)) (hcls : 23 ≤ kd → cell.cls = P.2.2.2 kd) (hel : ∀ j, j < len → cell.slots[j]? = some (defaultValue (mm_aty kd))) : mm_rep P s (mm_nw h kd len len) H' := by
  refine hr.nw g2 g3 ⟨cell, by rw [mm_ad_new hr]; exact g1, by rw [hvm]; exact (fun q => by cases q), ?_⟩
  rw [mm_cl, mm_s_nw, if_pos rfl]
  refine Or.inr (Or.inl ⟨⟨h1, h2⟩, hsz, harr, hcls, fun j hj => ?_⟩)
  rw [hel j hj]
  simp only [mm_av, mm_i_nw, mm_l_nw, mm_r_nw, if_true]
  rcases (show kd = 20 ∨ kd = 21 ∨ kd = 22 ∨ kd = 23 ∨ kd = 24 ∨ kd = 25 ∨ kd = 26 by omega) with rfl | rfl | rfl | rfl | rfl | rfl | rfl <;> rfl
section
variable {P : mm_P} {y d n0 z0 : Nat} {p : Program} {l : Launch} {e : Env} {R : Room} {s : State} {m : MethodId} {args : Array Value} {below : List Frame} {meth : Method} {c : Code} {Q : State → Prop} {pc k : Nat} {ls ls' st r : List Value} {h h' : mm_H} {x x2 : Int32} {w w2 : Int64} {a b : Nat} {n off : Int}
theorem sg_newarr {ty : ClassFile.ArrayType} {kd : Nat} (C : mm_Cx P y d p R s m meth c) (hc : tb_cod y pc = some (.newarray ty, 2)) (hk : kd = 20 ∧ ty = .int ∨ kd = 21 ∧ ty = .long ∨ kd = 22 ∧ ty = .boolean) (h0 : 0 ≤ x) (h1 : x ≤ 1000) (r1 : mm_n h + 1 ≤ n0 + R.cells) (r2 : mm_z h + x.toNatClampNeg ≤ z0 + R.slots)
    (K : mm_G P y n0 z0 p l e R s m args below meth c Q (pc + 2) ls (.ref (mm_n h) :: r) (mm_nw h kd x.toNatClampNeg x.toNatClampNeg)) : mm_G P y n0 z0 p l e R s m args below meth c Q pc ls (.int x :: r) h := by
  intro H locs cells slots lsR hr hlv hl hn hz
  have E := C.2.1.2.2.2
  obtain ⟨hx0, hx1⟩ := mm_nn h0 h1
  have hadn := mm_ad_new hr
  have e1 : mm_rv P (.ref (mm_n h)) = .ref H.size := by show Value.ref _ = _; rw [hadn]
  have hword : (Cond.arrayClass (Op.newarray.typeOf ty)).before args s = true := by
    rcases hk with ⟨-, rfl⟩ | ⟨-, rfl⟩ | ⟨-, rfl⟩
    · exact E.1 _ mm_aw.1 rfl args
    · exact E.1 _ mm_aw.2.1 rfl args
    · exact E.1 _ mm_aw.2.2 rfl args
  have hty : Op.newarray.typeOf ty = mm_aty kd := by rcases hk with ⟨rfl, rfl⟩ | ⟨rfl, rfl⟩ | ⟨rfl, rfl⟩ <;> rfl
  have hby : componentBytes (Op.newarray.typeOf ty) ≤ 8 := by rcases hk with ⟨-, rfl⟩ | ⟨-, rfl⟩ | ⟨-, rfl⟩ <;> decide
  have hbytes : x.toNatClampNeg * componentBytes (Op.newarray.typeOf ty) ≤ 536870912 := Nat.le_trans (Nat.mul_le_mul hx1 hby) (by decide)
  refine W.newaK C.1.1 C.1.2.1 hword rfl (mm_dec hc).1 rfl hx0 rfl hbytes (by omega) (by omega) rfl (fun H' cA g1 g2 g3 hA => ?_)
  have K2 := K H' locs (cells + 1) (slots + x.toNatClampNeg) lsR (hr.arrN (by omega) (by omega) g1 g2 g3 rfl (arrV_size _ _ _) (by rw [← hty]; exact hA _ _) (fun q => absurd q (by omega)) (fun j hj => by rw [arrV_read _ _ hj, hty])) hlv hl (by rw [mm_n_nw]; omega) (by rw [mm_z_nw]; omega)
  rw [List.map_cons, e1] at K2
  exact K2
theorem sg_anew {kd ka : Nat} {C0 : String} (C : mm_Cx P y d p R s m meth c) (hc : tb_cod y pc = some (.anewarray k, 3)) (hck : tb_ck y k = some kd) (hkd : kd < 11) (hnm : tb_nm kd = C0) (h23 : 23 ≤ ka) (h25 : ka ≤ 25) (hat : mm_aty ka = .object C0) (hAO : va_AO C0 s) (hRA : va_RA s (P.2.2.2 ka) (.object C0)) (h0 : 0 ≤ x) (h1 : x ≤ 1000) (r1 : mm_n h + 1 ≤ n0 + R.cells) (r2 : mm_z h + x.toNatClampNeg ≤ z0 + R.slots)
    (K : mm_G P y n0 z0 p l e R s m args below meth c Q (pc + 3) ls (.ref (mm_n h) :: r) (mm_nw h ka x.toNatClampNeg x.toNatClampNeg)) : mm_G P y n0 z0 p l e R s m args below meth c Q pc ls (.int x :: r) h := by
  intro H locs cells slots lsR hr hlv hl hn hz
  have E := C.2.1.2.2.2
  obtain ⟨hx0, hx1⟩ := mm_nn h0 h1
  have hadn := mm_ad_new hr
  have e1 : mm_rv P (.ref (mm_n h)) = .ref H.size := by show Value.ref _ = _; rw [hadn]
  have hks : kd ∈ tb_ks := (mm_ck_ks hck).resolve_right (by omega)
  have hnk : ((tb_kin.lookup kd).getD ("", 0)).1 = C0 := by
    rcases (mm_kind hks).2.2 with q | q
    · rw [q.2.1, hnm]
    · omega
  have hcl : Cond.classLink (tb_nm (tb_cls y)) k C0 ∈ lw_tbl := by
    rcases mm_ck_spec hck with q | q
    · rw [← hnk]; exact q.2
    · omega
  refine W.anew C.1.1 C.1.2.1 C.2.1.1 (E.1 _ hcl rfl args) (va_AO.use hAO) rfl (mm_dec hc).1 rfl hx0 (by omega) (by omega) (by omega) (fun cA kA comp f1 f2 f3 f4 => ?_)
  obtain ⟨kA', comp', a1, a2, a3, a4⟩ := hRA
  have hcA : cA = P.2.2.2 ka := Option.some.inj (f1.symm.trans a4)
  generalize hH1 : H.push ({ cls := cA, slots := Array.replicate x.toNatClampNeg .null, vm := .none } : Cell) = H'
  have g1 : H'[H.size]? = some ({ cls := cA, slots := Array.replicate x.toNatClampNeg .null, vm := .none } : Cell) := by rw [← hH1, Array.getElem?_push_size]
  have g2 : H'.size = H.size + 1 := by rw [← hH1, Array.size_push]
  have g3 : ∀ q : Nat, q < H.size → H'[q]? = H[q]? := fun q hq => by rw [← hH1, Array.getElem?_push, if_neg (Nat.ne_of_lt hq)]
  have K2 := K H' locs (cells + 1) (slots + x.toNatClampNeg) lsR (hr.arrN (by omega) (by omega) g1 g2 g3 rfl (by simp) (by rw [hat]; exact ⟨(fun k h => by cases h), kA, f2, comp, f3⟩) (fun _ => hcA) (fun j hj => by
    rw [hat]
    show (Array.replicate x.toNatClampNeg Value.null)[j]? = _
    rw [Array.getElem?_replicate, if_pos hj]; rfl)) hlv hl (by rw [mm_n_nw]; omega) (by rw [mm_z_nw]; omega)
  rw [List.map_cons, e1] at K2
  exact K2
theorem mm_catsum {P : mm_P} (r : List Value) : ((r.map (mm_rv P)).map fun v => v.category).sum ≤ 2 * r.length := by
  induction r with
  | nil => simp
  | cons v t ih =>
    simp only [List.map_cons, List.sum_cons, List.length_cons]
    have : (mm_rv P v).category ≤ 2 := by cases v <;> simp [mm_rv, Value.category]
    omega
theorem sg_objInit (C : mm_Cx P y d p R s m meth c) (hc : tb_cod y pc = some (.invokespecial k, 3)) (hk : tb_ca y k = some 1000) (hrl : r.length ≤ 8)
    (K : mm_G P y n0 z0 p l e R s m args below meth c Q (pc + 3) ls r h) : mm_G P y n0 z0 p l e R s m args below meth c Q pc ls (.ref a :: r) h := by
  intro H locs cells slots lsR hr hlv hl hn hz
  have E := C.2.1.2.2.2
  have hw : Cond.methodLink (tb_nm (tb_cls y)) k Lib.objectInit ∈ lw_tbl := by
    unfold tb_ca at hk
    cases hlk : tb_cal.lookup (tb_cls y, k) with
    | none => rw [hlk] at hk; cases hk
    | some q =>
      rw [hlk] at hk
      obtain ⟨q1, q2, q3⟩ := q
      simp only [Option.map_some, Option.some.injEq] at hk
      subst hk
      have hok := List.all_eq_true.mp tb_okC_all _ (mm_lookup hlk)
      unfold tb_okC at hok
      rw [if_neg (by show ¬ (1000 : Nat) < 1000; omega), if_pos rfl, decide_eq_true_eq] at hok
      exact List.mem_of_getElem? hok
  have hsum := mm_catsum (P := P) r
  have hR := C.2.2.2
  refine W.objInit C.1.1 C.1.2.1 C.2.1.1 (E.1 _ hw rfl args) (E.1 _ mm_obw.1 rfl args) (E.1 _ mm_obw.2 rfl args) rfl (by rw [C.1.2.2.1]; exact hlv.1) rfl (mm_dec hc).1 (by omega) ?_ (K H locs cells slots lsR hr hlv hl hn hz)
  show 2 * 0 + _ + 12 ≤ R.locals
  omega
end
