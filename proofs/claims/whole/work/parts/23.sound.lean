/-! THE SOUNDNESS OF THE MODEL MACHINE -/
def mm_lk : ClassFile.Instr → Nat
  | .bipush _ => 2
  | .ldc _ => 2
  | .iload _ => 2
  | .lload _ => 2
  | .aload _ => 2
  | .istore _ => 2
  | .lstore _ => 2
  | .astore _ => 2
  | .newarray _ => 2
  | .sipush _ => 3
  | .ldc2_w _ => 3
  | .iinc _ _ => 3
  | .ifCond _ _ => 3
  | .if_icmp _ _ => 3
  | .ifnull _ => 3
  | .ifnonnull _ => 3
  | .goto _ => 3
  | .getfield _ => 3
  | .putfield _ => 3
  | .new _ => 3
  | .anewarray _ => 3
  | .invokestatic _ => 3
  | .invokevirtual _ => 3
  | .invokespecial _ => 3
  | .multianewarray _ _ => 4
  | .tableswitch _ _ _ _ => 0
  | _ => 1
/-- lengths; variables within the method's; what calls ask of the callee -/
def mm_ib (y : Nat) : ClassFile.Instr → Bool
  | .istore k => decide (k < tb_nL y)
  | .astore k => decide (k < tb_nL y)
  | .lstore k => decide (k + 1 < tb_nL y)
  | .istore_n k => decide ((k : Nat) < tb_nL y)
  | .astore_n k => decide ((k : Nat) < tb_nL y)
  | .lstore_n k => decide ((k : Nat) + 1 < tb_nL y)
  | .iinc k _ => decide (k < tb_nL y)
  | .invokevirtual k => match tb_ca y k with
    | some z => decide ((tb_y z).name ≠ "<init>" ∧ tb_cls z < 11)
    | none => true
  | .invokespecial k => match tb_ca y k with
    | some z => decide (z < 1000) == false || decide ((tb_y z).name = "<init>" ∧ tb_han.getD z [] = [] ∧ tb_rt z = 0)
    | none => true
  | _ => true
set_option maxRecDepth 100000 in
theorem tb_lk_all : (List.range 149).all (fun y => (tb_ins.getD y []).all (fun r => r.all (fun q => decide (mm_lk q.2.1 = q.2.2 ∨ mm_lk q.2.1 = 0) && mm_ib y q.2.1))) = true := by decide +kernel
theorem mm_lkb {y pc : Nat} {i : ClassFile.Instr} {len : Nat} (hc : tb_cod y pc = some (i, len)) : (mm_lk i = len ∨ mm_lk i = 0) ∧ mm_ib y i = true := by
  have hm := mm_lookup hc
  have hy : y < 149 := by
    rcases Nat.lt_or_ge y 149 with q | q
    · exact q
    · have : tb_ins.getD y [] = [] := by rw [List.getD_eq_getElem?_getD, List.getElem?_eq_none (by simpa [tb_ins] using q)]; rfl
      rw [this] at hm
      cases hm
  have h1 := List.all_eq_true.mp tb_lk_all y (List.mem_range.mpr hy)
  have hin : ∀ L : List (List (Nat × ClassFile.Instr × Nat)), (pc, i, len) ∈ L.getD (pc / 64) [] → L.getD (pc / 64) [] ∈ L := by
    intro L hm
    rw [List.getD_eq_getElem?_getD] at hm ⊢
    cases hq : L[pc / 64]? with
    | none => rw [hq] at hm; cases hm
    | some z => exact List.mem_of_getElem? hq
  have h2 := List.all_eq_true.mp (List.all_eq_true.mp h1 _ (hin _ hm)) _ hm
  simp only [Bool.and_eq_true, decide_eq_true_eq] at h2
  exact h2
section
variable {P : mm_P} {y d n0 z0 : Nat} {p : Program} {l : Launch} {e : Env} {R : Room} {s : State} {m : MethodId} {args : Array Value} {below : List Frame} {meth : Method} {c : Code} {Q : State → Prop} {pc k : Nat} {ls ls' st r : List Value} {h h1 : mm_H} {x x2 : Int32} {w w2 : Int64} {a b : Nat} {n off : Int}
theorem mm_out0 (C : mm_Cx P y d p R s m meth c) (hcv : mm_ncv y pc = true) : ∀ z ∈ c.exceptionTable.toList, covers z pc = false := by
  intro z hz
  have hm : (z.startPc, z.endPc, z.handlerPc, z.catchType) ∈ (tb_han.getD y []).map (fun q => (q.1, q.2.1, q.2.2.1, q.2.2.2.2)) := by
    rw [← C.2.2.1.2]
    exact List.mem_map.mpr ⟨z, hz, rfl⟩
  obtain ⟨q, hq, e1⟩ := List.mem_map.mp hm
  simp only [Prod.mk.injEq] at e1
  have h2 := List.all_eq_true.mp hcv q hq
  unfold covers
  rw [e1.1, e1.2.1] at h2
  rw [Bool.not_eq_true'] at h2
  exact h2
theorem mm_K.thr {rest : List Value} (C : mm_Cx P y d p R s m meth c) (hcv : mm_ncv y pc = true) : mm_K P y n0 z0 p l e R s m args below meth c (mm_fin P s below n0 z0 (.inr a) h1) pc ls rest (.inr a) h1 := by
  intro T' locs cells slots lsR X hr hlv hl hn hz
  obtain ⟨b1, b2, b3, b4, b5⟩ := X.leaveThrown (mm_ad P a) (g := F0 m pc lsR (rest.map (mm_rv P))) rfl rfl rfl (mm_out0 C hcv) C.2.1.2.1
  exact ⟨_, b1, b2, b3, b4, hr, locs, cells, slots, hn, hz, b5, hl⟩
theorem sg_athrow (C : mm_Cx P y d p R s m meth c) (hc : tb_cod y pc = some (.athrow, 1)) (K : mm_K P y n0 z0 p l e R s m args below meth c Q pc ls r (.inr a) h) : mm_G P y n0 z0 p l e R s m args below meth c Q pc ls (.ref a :: r) h := by
  intro H locs cells slots lsR hr hlv hl hn hz T hT X
  obtain ⟨t, ht, hQ⟩ := K T locs cells slots lsR X (by rw [hT]; exact hr) hlv hl hn hz
  refine ⟨t, ?_, hQ⟩
  have hx := C.1.1
  have hb := C.1.2.1
  have hd := (mm_dec hc).1
  generalize tb_byt.getD y ⟨#[]⟩ = bs at hb hd
  show Steps p.tables e below (T.setTop (F0 m pc lsR (.ref (mm_ad P a) :: r.map (mm_rv P)))) _
  jvm_step X.here [X.here.top, hx, hb, hd, Op.athrow.wp_sem]
  exact ht
end
