/-! WHAT THE MODEL DOES, THE JVM DOES: an instruction at a time -/
/-- from this state of the model on, the JVM comes to Q -/
def mm_G (P : mm_P) (y n0 z0 : Nat) (p : Program) (l : Launch) (e : Env) (R : Room) (s : State) (m : MethodId) (args : Array Value) (below : List Frame) (meth : Method) (c : Code) (Q : State → Prop) (pc : Nat) (ls st : List Value) (h : mm_H) : Prop :=
  ∀ (H : Heap) (locs : List Loc) (cells slots : Nat) (lsR : Array Slot), mm_rep P s h H → mm_lv P y ls lsR → (∀ q ∈ locs, P.1.2 ≤ q.base) → mm_n h = n0 + cells → mm_z h = z0 + slots → W p l e R s m args below meth c H locs cells slots Q (F0 m pc lsR (st.map (mm_rv P)))
theorem mm_tgt {pc : Nat} {off : Int} (h : 0 ≤ (pc : Int) + off) : (pc : Int) + off = (mm_t pc off : Int) := by
  unfold mm_t
  omega
section
variable {P : mm_P} {y d n0 z0 : Nat} {p : Program} {l : Launch} {e : Env} {R : Room} {s : State} {m : MethodId} {args : Array Value} {below : List Frame} {meth : Method} {c : Code} {Q : State → Prop} {pc k : Nat} {ls ls' st r : List Value} {h : mm_H} {x x2 : Int32} {w w2 : Int64} {a b : Nat} {n off : Int}

theorem sg_iconst (C : mm_Cx P y d p R s m meth c) (hc : tb_cod y pc = some (.iconst n, 1)) (K : mm_G P y n0 z0 p l e R s m args below meth c Q (pc + 1) ls (.int (Int32.ofInt n) :: st) h) : mm_G P y n0 z0 p l e R s m args below meth c Q pc ls st h := by
  intro H locs cells slots lsR hr hv hl hn hz
  exact lv_iconst C.1.1 C.1.2.1 (mm_dec hc).1 rfl (K H locs cells slots lsR hr hv hl hn hz)
theorem sg_bipush (C : mm_Cx P y d p R s m meth c) (hc : tb_cod y pc = some (.bipush n, 2)) (K : mm_G P y n0 z0 p l e R s m args below meth c Q (pc + 2) ls (.int (Int8.ofInt n).toInt32 :: st) h) : mm_G P y n0 z0 p l e R s m args below meth c Q pc ls st h := by
  intro H locs cells slots lsR hr hv hl hn hz
  exact lv_bipush C.1.1 C.1.2.1 (mm_dec hc).1 rfl (K H locs cells slots lsR hr hv hl hn hz)
theorem sg_sipush (C : mm_Cx P y d p R s m meth c) (hc : tb_cod y pc = some (.sipush n, 3)) (K : mm_G P y n0 z0 p l e R s m args below meth c Q (pc + 3) ls (.int (Int16.ofInt n).toInt32 :: st) h) : mm_G P y n0 z0 p l e R s m args below meth c Q pc ls st h := by
  intro H locs cells slots lsR hr hv hl hn hz
  exact lv_sipush C.1.1 C.1.2.1 (mm_dec hc).1 rfl (K H locs cells slots lsR hr hv hl hn hz)
theorem sg_lconst {f2 : Fin 2} (C : mm_Cx P y d p R s m meth c) (hc : tb_cod y pc = some (.lconst f2, 1)) (K : mm_G P y n0 z0 p l e R s m args below meth c Q (pc + 1) ls (.long (Int64.ofNat (f2 : Nat)) :: st) h) : mm_G P y n0 z0 p l e R s m args below meth c Q pc ls st h := by
  intro H locs cells slots lsR hr hv hl hn hz
  exact lv_lconst C.1.1 C.1.2.1 (mm_dec hc).1 rfl (K H locs cells slots lsR hr hv hl hn hz)
theorem sg_null (C : mm_Cx P y d p R s m meth c) (hc : tb_cod y pc = some (.aconst_null, 1)) (K : mm_G P y n0 z0 p l e R s m args below meth c Q (pc + 1) ls (.null :: st) h) : mm_G P y n0 z0 p l e R s m args below meth c Q pc ls st h := by
  intro H locs cells slots lsR hr hv hl hn hz
  exact lv_null C.1.1 C.1.2.1 (mm_dec hc).1 (K H locs cells slots lsR hr hv hl hn hz)
theorem sg_iload (C : mm_Cx P y d p R s m meth c) (hc : tb_cod y pc = some (.iload k, 2)) (hk : ls[k]? = some (.int x)) (K : mm_G P y n0 z0 p l e R s m args below meth c Q (pc + 2) ls (.int x :: st) h) : mm_G P y n0 z0 p l e R s m args below meth c Q pc ls st h := by
  intro H locs cells slots lsR hr hv hl hn hz
  exact lv_iload C.1.1 C.1.2.1 (mm_dec hc).1 (hv.at hk (by simp [mm_j])) (K H locs cells slots lsR hr hv hl hn hz)
theorem sg_lload (C : mm_Cx P y d p R s m meth c) (hc : tb_cod y pc = some (.lload k, 2)) (hk : ls[k]? = some (.long w)) (K : mm_G P y n0 z0 p l e R s m args below meth c Q (pc + 2) ls (.long w :: st) h) : mm_G P y n0 z0 p l e R s m args below meth c Q pc ls st h := by
  intro H locs cells slots lsR hr hv hl hn hz
  exact lv_lload C.1.1 C.1.2.1 (mm_dec hc).1 (hv.at hk (by simp [mm_j])) (K H locs cells slots lsR hr hv hl hn hz)
theorem sg_aload (C : mm_Cx P y d p R s m meth c) (hc : tb_cod y pc = some (.aload k, 2)) (hk : ls[k]? = some (.ref a)) (K : mm_G P y n0 z0 p l e R s m args below meth c Q (pc + 2) ls (.ref a :: st) h) : mm_G P y n0 z0 p l e R s m args below meth c Q pc ls st h := by
  intro H locs cells slots lsR hr hv hl hn hz
  exact lv_aload C.1.1 C.1.2.1 (mm_dec hc).1 (hv.at hk (by simp [mm_j])) (K H locs cells slots lsR hr hv hl hn hz)
theorem sg_aloadN (C : mm_Cx P y d p R s m meth c) (hc : tb_cod y pc = some (.aload k, 2)) (hk : ls[k]? = some (.null)) (K : mm_G P y n0 z0 p l e R s m args below meth c Q (pc + 2) ls (.null :: st) h) : mm_G P y n0 z0 p l e R s m args below meth c Q pc ls st h := by
  intro H locs cells slots lsR hr hv hl hn hz
  exact lv_aloadN C.1.1 C.1.2.1 (mm_dec hc).1 (hv.at hk (by simp [mm_j])) (K H locs cells slots lsR hr hv hl hn hz)
theorem sg_iload_n {f4 : Fin 4} (C : mm_Cx P y d p R s m meth c) (hc : tb_cod y pc = some (.iload_n f4, 1)) (hk : ls[(f4 : Nat)]? = some (.int x)) (K : mm_G P y n0 z0 p l e R s m args below meth c Q (pc + 1) ls (.int x :: st) h) : mm_G P y n0 z0 p l e R s m args below meth c Q pc ls st h := by
  intro H locs cells slots lsR hr hv hl hn hz
  exact lv_iload_n C.1.1 C.1.2.1 (mm_dec hc).1 rfl (hv.at hk (by simp [mm_j])) (K H locs cells slots lsR hr hv hl hn hz)
theorem sg_lload_n {f4 : Fin 4} (C : mm_Cx P y d p R s m meth c) (hc : tb_cod y pc = some (.lload_n f4, 1)) (hk : ls[(f4 : Nat)]? = some (.long w)) (K : mm_G P y n0 z0 p l e R s m args below meth c Q (pc + 1) ls (.long w :: st) h) : mm_G P y n0 z0 p l e R s m args below meth c Q pc ls st h := by
  intro H locs cells slots lsR hr hv hl hn hz
  exact lv_lload_n C.1.1 C.1.2.1 (mm_dec hc).1 rfl (hv.at hk (by simp [mm_j])) (K H locs cells slots lsR hr hv hl hn hz)
theorem sg_aload_n {f4 : Fin 4} (C : mm_Cx P y d p R s m meth c) (hc : tb_cod y pc = some (.aload_n f4, 1)) (hk : ls[(f4 : Nat)]? = some (.ref a)) (K : mm_G P y n0 z0 p l e R s m args below meth c Q (pc + 1) ls (.ref a :: st) h) : mm_G P y n0 z0 p l e R s m args below meth c Q pc ls st h := by
  intro H locs cells slots lsR hr hv hl hn hz
  exact lv_aload_n C.1.1 C.1.2.1 (mm_dec hc).1 rfl (hv.at hk (by simp [mm_j])) (K H locs cells slots lsR hr hv hl hn hz)
theorem sg_aload_nN {f4 : Fin 4} (C : mm_Cx P y d p R s m meth c) (hc : tb_cod y pc = some (.aload_n f4, 1)) (hk : ls[(f4 : Nat)]? = some (.null)) (K : mm_G P y n0 z0 p l e R s m args below meth c Q (pc + 1) ls (.null :: st) h) : mm_G P y n0 z0 p l e R s m args below meth c Q pc ls st h := by
  intro H locs cells slots lsR hr hv hl hn hz
  exact lv_aload_nN C.1.1 C.1.2.1 (mm_dec hc).1 rfl (hv.at hk (by simp [mm_j])) (K H locs cells slots lsR hr hv hl hn hz)
theorem sg_istore (C : mm_Cx P y d p R s m meth c) (hc : tb_cod y pc = some (.istore k, 2)) (hb : k < tb_nL y) (hk : mm_set y ls k (.int x) = some ls') (K : mm_G P y n0 z0 p l e R s m args below meth c Q (pc + 2) ls' r h) : mm_G P y n0 z0 p l e R s m args below meth c Q pc ls (.int x :: r) h := by
  intro H locs cells slots lsR hr hv hl hn hz
  refine lv_istore C.1.1 C.1.2.1 (mm_dec hc).1 (mm_prs_has hv.1 hv.2.2.1) hb rfl (fun lsR2 hl2 => ?_)
  exact K H locs cells slots lsR2 hr (hv.set1 hb rfl hk hl2) hl hn hz
theorem sg_astore (C : mm_Cx P y d p R s m meth c) (hc : tb_cod y pc = some (.astore k, 2)) (hb : k < tb_nL y) (hk : mm_set y ls k (.ref a) = some ls') (K : mm_G P y n0 z0 p l e R s m args below meth c Q (pc + 2) ls' r h) : mm_G P y n0 z0 p l e R s m args below meth c Q pc ls (.ref a :: r) h := by
  intro H locs cells slots lsR hr hv hl hn hz
  refine lv_astore C.1.1 C.1.2.1 (mm_dec hc).1 (mm_prs_has hv.1 hv.2.2.1) hb rfl (fun lsR2 hl2 => ?_)
  exact K H locs cells slots lsR2 hr (hv.set1 hb rfl hk hl2) hl hn hz
theorem sg_astoreN (C : mm_Cx P y d p R s m meth c) (hc : tb_cod y pc = some (.astore k, 2)) (hb : k < tb_nL y) (hk : mm_set y ls k (.null) = some ls') (K : mm_G P y n0 z0 p l e R s m args below meth c Q (pc + 2) ls' r h) : mm_G P y n0 z0 p l e R s m args below meth c Q pc ls (.null :: r) h := by
  intro H locs cells slots lsR hr hv hl hn hz
  refine lv_astoreN C.1.1 C.1.2.1 (mm_dec hc).1 (mm_prs_has hv.1 hv.2.2.1) hb rfl (fun lsR2 hl2 => ?_)
  exact K H locs cells slots lsR2 hr (hv.set1 hb rfl hk hl2) hl hn hz
theorem sg_lstore (C : mm_Cx P y d p R s m meth c) (hc : tb_cod y pc = some (.lstore k, 2)) (hb : k + 1 < tb_nL y) (hk : mm_set2 y ls k (.long w) = some ls') (K : mm_G P y n0 z0 p l e R s m args below meth c Q (pc + 2) ls' r h) : mm_G P y n0 z0 p l e R s m args below meth c Q pc ls (.long w :: r) h := by
  intro H locs cells slots lsR hr hv hl hn hz
  refine lv_lstore C.1.1 C.1.2.1 (mm_dec hc).1 (mm_prs_has hv.1 hv.2.2.1) hb rfl (fun lsR2 hl2 => ?_)
  exact K H locs cells slots lsR2 hr (hv.set2 hb hk hl2) hl hn hz
theorem sg_istore_n {f4 : Fin 4} (C : mm_Cx P y d p R s m meth c) (hc : tb_cod y pc = some (.istore_n f4, 1)) (hb : (f4 : Nat) < tb_nL y) (hk : mm_set y ls f4 (.int x) = some ls') (K : mm_G P y n0 z0 p l e R s m args below meth c Q (pc + 1) ls' r h) : mm_G P y n0 z0 p l e R s m args below meth c Q pc ls (.int x :: r) h := by
  intro H locs cells slots lsR hr hv hl hn hz
  refine lv_istore_n C.1.1 C.1.2.1 (mm_dec hc).1 rfl (mm_prs_has hv.1 hv.2.2.1) hb rfl (fun lsR2 hl2 => ?_)
  exact K H locs cells slots lsR2 hr (hv.set1 hb rfl hk hl2) hl hn hz
theorem sg_astore_n {f4 : Fin 4} (C : mm_Cx P y d p R s m meth c) (hc : tb_cod y pc = some (.astore_n f4, 1)) (hb : (f4 : Nat) < tb_nL y) (hk : mm_set y ls f4 (.ref a) = some ls') (K : mm_G P y n0 z0 p l e R s m args below meth c Q (pc + 1) ls' r h) : mm_G P y n0 z0 p l e R s m args below meth c Q pc ls (.ref a :: r) h := by
  intro H locs cells slots lsR hr hv hl hn hz
  refine lv_astore_n C.1.1 C.1.2.1 (mm_dec hc).1 rfl (mm_prs_has hv.1 hv.2.2.1) hb rfl (fun lsR2 hl2 => ?_)
  exact K H locs cells slots lsR2 hr (hv.set1 hb rfl hk hl2) hl hn hz
theorem sg_astore_nN {f4 : Fin 4} (C : mm_Cx P y d p R s m meth c) (hc : tb_cod y pc = some (.astore_n f4, 1)) (hb : (f4 : Nat) < tb_nL y) (hk : mm_set y ls f4 (.null) = some ls') (K : mm_G P y n0 z0 p l e R s m args below meth c Q (pc + 1) ls' r h) : mm_G P y n0 z0 p l e R s m args below meth c Q pc ls (.null :: r) h := by
  intro H locs cells slots lsR hr hv hl hn hz
  refine lv_astore_nN C.1.1 C.1.2.1 (mm_dec hc).1 rfl (mm_prs_has hv.1 hv.2.2.1) hb rfl (fun lsR2 hl2 => ?_)
  exact K H locs cells slots lsR2 hr (hv.set1 hb rfl hk hl2) hl hn hz
theorem sg_lstore_n {f4 : Fin 4} (C : mm_Cx P y d p R s m meth c) (hc : tb_cod y pc = some (.lstore_n f4, 1)) (hb : (f4 : Nat) + 1 < tb_nL y) (hk : mm_set2 y ls f4 (.long w) = some ls') (K : mm_G P y n0 z0 p l e R s m args below meth c Q (pc + 1) ls' r h) : mm_G P y n0 z0 p l e R s m args below meth c Q pc ls (.long w :: r) h := by
  intro H locs cells slots lsR hr hv hl hn hz
  refine lv_lstore_n C.1.1 C.1.2.1 (mm_dec hc).1 rfl (mm_prs_has hv.1 hv.2.2.1) hb rfl (fun lsR2 hl2 => ?_)
  exact K H locs cells slots lsR2 hr (hv.set2 hb hk hl2) hl hn hz
theorem sg_iinc (C : mm_Cx P y d p R s m meth c) (hc : tb_cod y pc = some (.iinc k n, 3)) (hb : k < tb_nL y) (hx : ls[k]? = some (.int x)) (hk : mm_set y ls k (.int (x + Int32.ofInt n)) = some ls') (K : mm_G P y n0 z0 p l e R s m args below meth c Q (pc + 3) ls' st h) : mm_G P y n0 z0 p l e R s m args below meth c Q pc ls st h := by
  intro H locs cells slots lsR hr hv hl hn hz
  have hat := hv.at hx (by simp [mm_j])
  obtain ⟨j, hj⟩ := List.getElem?_of_mem (mm_prs_mem.mpr hat)
  refine lv_iinc C.1.1 C.1.2.1 (mm_dec hc).1 (mm_prs_has hv.1 hv.2.2.1) hj rfl hb rfl (fun lsR2 hl2 => ?_)
  exact K H locs cells slots lsR2 hr (hv.set1 hb rfl hk hl2) hl hn hz
theorem sg_iadd (C : mm_Cx P y d p R s m meth c) (hc : tb_cod y pc = some (.iadd, 1)) (K : mm_G P y n0 z0 p l e R s m args below meth c Q (pc + 1) ls (.int (x + x2) :: r) h) : mm_G P y n0 z0 p l e R s m args below meth c Q pc ls (.int x2 :: .int x :: r) h := by
  intro H locs cells slots lsR hr hv hl hn hz
  exact lv_iadd C.1.1 C.1.2.1 (mm_dec hc).1 (K H locs cells slots lsR hr hv hl hn hz)
theorem sg_isub (C : mm_Cx P y d p R s m meth c) (hc : tb_cod y pc = some (.isub, 1)) (K : mm_G P y n0 z0 p l e R s m args below meth c Q (pc + 1) ls (.int (x - x2) :: r) h) : mm_G P y n0 z0 p l e R s m args below meth c Q pc ls (.int x2 :: .int x :: r) h := by
  intro H locs cells slots lsR hr hv hl hn hz
  exact lv_isub C.1.1 C.1.2.1 (mm_dec hc).1 (K H locs cells slots lsR hr hv hl hn hz)
theorem sg_imul (C : mm_Cx P y d p R s m meth c) (hc : tb_cod y pc = some (.imul, 1)) (K : mm_G P y n0 z0 p l e R s m args below meth c Q (pc + 1) ls (.int (x * x2) :: r) h) : mm_G P y n0 z0 p l e R s m args below meth c Q pc ls (.int x2 :: .int x :: r) h := by
  intro H locs cells slots lsR hr hv hl hn hz
  exact lv_imul C.1.1 C.1.2.1 (mm_dec hc).1 (K H locs cells slots lsR hr hv hl hn hz)
theorem sg_iand (C : mm_Cx P y d p R s m meth c) (hc : tb_cod y pc = some (.iand, 1)) (K : mm_G P y n0 z0 p l e R s m args below meth c Q (pc + 1) ls (.int (x &&& x2) :: r) h) : mm_G P y n0 z0 p l e R s m args below meth c Q pc ls (.int x2 :: .int x :: r) h := by
  intro H locs cells slots lsR hr hv hl hn hz
  exact lv_iand C.1.1 C.1.2.1 (mm_dec hc).1 (K H locs cells slots lsR hr hv hl hn hz)
theorem sg_ladd (C : mm_Cx P y d p R s m meth c) (hc : tb_cod y pc = some (.ladd, 1)) (K : mm_G P y n0 z0 p l e R s m args below meth c Q (pc + 1) ls (.long (w + w2) :: r) h) : mm_G P y n0 z0 p l e R s m args below meth c Q pc ls (.long w2 :: .long w :: r) h := by
  intro H locs cells slots lsR hr hv hl hn hz
  exact lv_ladd C.1.1 C.1.2.1 (mm_dec hc).1 (K H locs cells slots lsR hr hv hl hn hz)
theorem sg_lmul (C : mm_Cx P y d p R s m meth c) (hc : tb_cod y pc = some (.lmul, 1)) (K : mm_G P y n0 z0 p l e R s m args below meth c Q (pc + 1) ls (.long (w * w2) :: r) h) : mm_G P y n0 z0 p l e R s m args below meth c Q pc ls (.long w2 :: .long w :: r) h := by
  intro H locs cells slots lsR hr hv hl hn hz
  exact lv_lmul C.1.1 C.1.2.1 (mm_dec hc).1 (K H locs cells slots lsR hr hv hl hn hz)
theorem sg_idiv (C : mm_Cx P y d p R s m meth c) (hc : tb_cod y pc = some (.idiv, 1)) (hne : ¬ x2 = 0) (K : mm_G P y n0 z0 p l e R s m args below meth c Q (pc + 1) ls (.int (x / x2) :: r) h) : mm_G P y n0 z0 p l e R s m args below meth c Q pc ls (.int x2 :: .int x :: r) h := by
  intro H locs cells slots lsR hr hv hl hn hz
  exact lv_idiv C.1.1 C.1.2.1 (mm_dec hc).1 hne (K H locs cells slots lsR hr hv hl hn hz)
theorem sg_irem (C : mm_Cx P y d p R s m meth c) (hc : tb_cod y pc = some (.irem, 1)) (hne : ¬ x2 = 0) (K : mm_G P y n0 z0 p l e R s m args below meth c Q (pc + 1) ls (.int (x - x / x2 * x2) :: r) h) : mm_G P y n0 z0 p l e R s m args below meth c Q pc ls (.int x2 :: .int x :: r) h := by
  intro H locs cells slots lsR hr hv hl hn hz
  exact lv_irem C.1.1 C.1.2.1 (mm_dec hc).1 hne (K H locs cells slots lsR hr hv hl hn hz)
theorem sg_ldiv (C : mm_Cx P y d p R s m meth c) (hc : tb_cod y pc = some (.ldiv, 1)) (hne : ¬ w2 = 0) (K : mm_G P y n0 z0 p l e R s m args below meth c Q (pc + 1) ls (.long (w / w2) :: r) h) : mm_G P y n0 z0 p l e R s m args below meth c Q pc ls (.long w2 :: .long w :: r) h := by
  intro H locs cells slots lsR hr hv hl hn hz
  exact lv_ldiv C.1.1 C.1.2.1 (mm_dec hc).1 hne (K H locs cells slots lsR hr hv hl hn hz)
theorem sg_lrem (C : mm_Cx P y d p R s m meth c) (hc : tb_cod y pc = some (.lrem, 1)) (hne : ¬ w2 = 0) (K : mm_G P y n0 z0 p l e R s m args below meth c Q (pc + 1) ls (.long (w - w / w2 * w2) :: r) h) : mm_G P y n0 z0 p l e R s m args below meth c Q pc ls (.long w2 :: .long w :: r) h := by
  intro H locs cells slots lsR hr hv hl hn hz
  exact lv_lrem C.1.1 C.1.2.1 (mm_dec hc).1 hne (K H locs cells slots lsR hr hv hl hn hz)
theorem sg_lneg (C : mm_Cx P y d p R s m meth c) (hc : tb_cod y pc = some (.lneg, 1)) (K : mm_G P y n0 z0 p l e R s m args below meth c Q (pc + 1) ls (.long (-w) :: r) h) : mm_G P y n0 z0 p l e R s m args below meth c Q pc ls (.long w :: r) h := by
  intro H locs cells slots lsR hr hv hl hn hz
  exact lv_lneg C.1.1 C.1.2.1 (mm_dec hc).1 (K H locs cells slots lsR hr hv hl hn hz)
theorem sg_i2l (C : mm_Cx P y d p R s m meth c) (hc : tb_cod y pc = some (.i2l, 1)) (K : mm_G P y n0 z0 p l e R s m args below meth c Q (pc + 1) ls (.long x.toInt64 :: r) h) : mm_G P y n0 z0 p l e R s m args below meth c Q pc ls (.int x :: r) h := by
  intro H locs cells slots lsR hr hv hl hn hz
  exact lv_i2l C.1.1 C.1.2.1 (mm_dec hc).1 rfl (K H locs cells slots lsR hr hv hl hn hz)
theorem sg_l2i (C : mm_Cx P y d p R s m meth c) (hc : tb_cod y pc = some (.l2i, 1)) (K : mm_G P y n0 z0 p l e R s m args below meth c Q (pc + 1) ls (.int w.toInt32 :: r) h) : mm_G P y n0 z0 p l e R s m args below meth c Q pc ls (.long w :: r) h := by
  intro H locs cells slots lsR hr hv hl hn hz
  exact lv_l2i C.1.1 C.1.2.1 (mm_dec hc).1 rfl (K H locs cells slots lsR hr hv hl hn hz)
theorem sg_lcmp (C : mm_Cx P y d p R s m meth c) (hc : tb_cod y pc = some (.lcmp, 1)) (K : mm_G P y n0 z0 p l e R s m args below meth c Q (pc + 1) ls (.int (if w2 < w then 1 else if w = w2 then 0 else -1) :: r) h) : mm_G P y n0 z0 p l e R s m args below meth c Q pc ls (.long w2 :: .long w :: r) h := by
  intro H locs cells slots lsR hr hv hl hn hz
  exact W.lcmp C.1.1 C.1.2.1 (mm_dec hc).1 (K H locs cells slots lsR hr hv hl hn hz)
theorem sg_dupI (C : mm_Cx P y d p R s m meth c) (hc : tb_cod y pc = some (.dup, 1)) (K : mm_G P y n0 z0 p l e R s m args below meth c Q (pc + 1) ls (.int x :: .int x :: r) h) : mm_G P y n0 z0 p l e R s m args below meth c Q pc ls (.int x :: r) h := by
  intro H locs cells slots lsR hr hv hl hn hz
  exact lv_dup C.1.1 C.1.2.1 (mm_dec hc).1 rfl (K H locs cells slots lsR hr hv hl hn hz)
theorem sg_popI (C : mm_Cx P y d p R s m meth c) (hc : tb_cod y pc = some (.pop, 1)) (K : mm_G P y n0 z0 p l e R s m args below meth c Q (pc + 1) ls r h) : mm_G P y n0 z0 p l e R s m args below meth c Q pc ls (.int x :: r) h := by
  intro H locs cells slots lsR hr hv hl hn hz
  exact lv_pop C.1.1 C.1.2.1 (mm_dec hc).1 (by rfl) (K H locs cells slots lsR hr hv hl hn hz)
theorem sg_dupR (C : mm_Cx P y d p R s m meth c) (hc : tb_cod y pc = some (.dup, 1)) (K : mm_G P y n0 z0 p l e R s m args below meth c Q (pc + 1) ls (.ref a :: .ref a :: r) h) : mm_G P y n0 z0 p l e R s m args below meth c Q pc ls (.ref a :: r) h := by
  intro H locs cells slots lsR hr hv hl hn hz
  exact lv_dup C.1.1 C.1.2.1 (mm_dec hc).1 rfl (K H locs cells slots lsR hr hv hl hn hz)
theorem sg_popR (C : mm_Cx P y d p R s m meth c) (hc : tb_cod y pc = some (.pop, 1)) (K : mm_G P y n0 z0 p l e R s m args below meth c Q (pc + 1) ls r h) : mm_G P y n0 z0 p l e R s m args below meth c Q pc ls (.ref a :: r) h := by
  intro H locs cells slots lsR hr hv hl hn hz
  exact lv_pop C.1.1 C.1.2.1 (mm_dec hc).1 (by rfl) (K H locs cells slots lsR hr hv hl hn hz)
theorem sg_dup2 (C : mm_Cx P y d p R s m meth c) (hc : tb_cod y pc = some (.dup2, 1)) (K : mm_G P y n0 z0 p l e R s m args below meth c Q (pc + 1) ls (.int x :: .ref a :: .int x :: .ref a :: r) h) : mm_G P y n0 z0 p l e R s m args below meth c Q pc ls (.int x :: .ref a :: r) h := by
  intro H locs cells slots lsR hr hv hl hn hz
  exact lv_dup2_11 C.1.1 C.1.2.1 (mm_dec hc).1 rfl rfl (K H locs cells slots lsR hr hv hl hn hz)
theorem sg_if_eq (C : mm_Cx P y d p R s m meth c) (hc : tb_cod y pc = some (.ifCond .eq off, 3)) (K : mm_G P y n0 z0 p l e R s m args below meth c Q (if mm_c .eq x 0 = true then mm_t pc off else pc + 3) ls r h) : mm_G P y n0 z0 p l e R s m args below meth c Q pc ls (.int x :: r) h := by
  intro H locs cells slots lsR hr hv hl hn hz
  have hd := mm_dec hc
  refine lv_if_eq C.1.1 C.1.2.1 hd.1 (mm_tgt (by simpa [tb_okT] using hd.2)) (fun q => ?_) (fun q => ?_)
  · have K2 := K H locs cells slots lsR hr hv hl hn hz
    rw [if_pos (by simpa [mm_c] using q)] at K2
    exact K2
  · have K2 := K H locs cells slots lsR hr hv hl hn hz
    rw [if_neg (by simpa [mm_c] using q)] at K2
    exact K2
theorem sg_icmp_eq (C : mm_Cx P y d p R s m meth c) (hc : tb_cod y pc = some (.if_icmp .eq off, 3)) (K : mm_G P y n0 z0 p l e R s m args below meth c Q (if mm_c .eq x x2 = true then mm_t pc off else pc + 3) ls r h) : mm_G P y n0 z0 p l e R s m args below meth c Q pc ls (.int x2 :: .int x :: r) h := by
  intro H locs cells slots lsR hr hv hl hn hz
  have hd := mm_dec hc
  refine lv_icmp_eq C.1.1 C.1.2.1 hd.1 (mm_tgt (by simpa [tb_okT] using hd.2)) (fun q => ?_) (fun q => ?_)
  · have K2 := K H locs cells slots lsR hr hv hl hn hz
    rw [if_pos (by simpa [mm_c] using q)] at K2
    exact K2
  · have K2 := K H locs cells slots lsR hr hv hl hn hz
    rw [if_neg (by simpa [mm_c] using q)] at K2
    exact K2
theorem sg_if_ne (C : mm_Cx P y d p R s m meth c) (hc : tb_cod y pc = some (.ifCond .ne off, 3)) (K : mm_G P y n0 z0 p l e R s m args below meth c Q (if mm_c .ne x 0 = true then mm_t pc off else pc + 3) ls r h) : mm_G P y n0 z0 p l e R s m args below meth c Q pc ls (.int x :: r) h := by
  intro H locs cells slots lsR hr hv hl hn hz
  have hd := mm_dec hc
  refine lv_if_ne C.1.1 C.1.2.1 hd.1 (mm_tgt (by simpa [tb_okT] using hd.2)) (fun q => ?_) (fun q => ?_)
  · have K2 := K H locs cells slots lsR hr hv hl hn hz
    rw [if_pos (by simpa [mm_c] using q)] at K2
    exact K2
  · have K2 := K H locs cells slots lsR hr hv hl hn hz
    rw [if_neg (by simpa [mm_c] using q)] at K2
    exact K2
theorem sg_icmp_ne (C : mm_Cx P y d p R s m meth c) (hc : tb_cod y pc = some (.if_icmp .ne off, 3)) (K : mm_G P y n0 z0 p l e R s m args below meth c Q (if mm_c .ne x x2 = true then mm_t pc off else pc + 3) ls r h) : mm_G P y n0 z0 p l e R s m args below meth c Q pc ls (.int x2 :: .int x :: r) h := by
  intro H locs cells slots lsR hr hv hl hn hz
  have hd := mm_dec hc
  refine lv_icmp_ne C.1.1 C.1.2.1 hd.1 (mm_tgt (by simpa [tb_okT] using hd.2)) (fun q => ?_) (fun q => ?_)
  · have K2 := K H locs cells slots lsR hr hv hl hn hz
    rw [if_pos (by simpa [mm_c] using q)] at K2
    exact K2
  · have K2 := K H locs cells slots lsR hr hv hl hn hz
    rw [if_neg (by simpa [mm_c] using q)] at K2
    exact K2
theorem sg_if_lt (C : mm_Cx P y d p R s m meth c) (hc : tb_cod y pc = some (.ifCond .lt off, 3)) (K : mm_G P y n0 z0 p l e R s m args below meth c Q (if mm_c .lt x 0 = true then mm_t pc off else pc + 3) ls r h) : mm_G P y n0 z0 p l e R s m args below meth c Q pc ls (.int x :: r) h := by
  intro H locs cells slots lsR hr hv hl hn hz
  have hd := mm_dec hc
  refine lv_if_lt C.1.1 C.1.2.1 hd.1 (mm_tgt (by simpa [tb_okT] using hd.2)) (fun q => ?_) (fun q => ?_)
  · have K2 := K H locs cells slots lsR hr hv hl hn hz
    rw [if_pos (by simpa [mm_c] using q)] at K2
    exact K2
  · have K2 := K H locs cells slots lsR hr hv hl hn hz
    rw [if_neg (by simpa [mm_c] using q)] at K2
    exact K2
theorem sg_icmp_lt (C : mm_Cx P y d p R s m meth c) (hc : tb_cod y pc = some (.if_icmp .lt off, 3)) (K : mm_G P y n0 z0 p l e R s m args below meth c Q (if mm_c .lt x x2 = true then mm_t pc off else pc + 3) ls r h) : mm_G P y n0 z0 p l e R s m args below meth c Q pc ls (.int x2 :: .int x :: r) h := by
  intro H locs cells slots lsR hr hv hl hn hz
  have hd := mm_dec hc
  refine lv_icmp_lt C.1.1 C.1.2.1 hd.1 (mm_tgt (by simpa [tb_okT] using hd.2)) (fun q => ?_) (fun q => ?_)
  · have K2 := K H locs cells slots lsR hr hv hl hn hz
    rw [if_pos (by simpa [mm_c] using q)] at K2
    exact K2
  · have K2 := K H locs cells slots lsR hr hv hl hn hz
    rw [if_neg (by simpa [mm_c] using q)] at K2
    exact K2
theorem sg_if_ge (C : mm_Cx P y d p R s m meth c) (hc : tb_cod y pc = some (.ifCond .ge off, 3)) (K : mm_G P y n0 z0 p l e R s m args below meth c Q (if mm_c .ge x 0 = true then mm_t pc off else pc + 3) ls r h) : mm_G P y n0 z0 p l e R s m args below meth c Q pc ls (.int x :: r) h := by
  intro H locs cells slots lsR hr hv hl hn hz
  have hd := mm_dec hc
  refine lv_if_ge C.1.1 C.1.2.1 hd.1 (mm_tgt (by simpa [tb_okT] using hd.2)) (fun q => ?_) (fun q => ?_)
  · have K2 := K H locs cells slots lsR hr hv hl hn hz
    rw [if_pos (by simpa [mm_c] using q)] at K2
    exact K2
  · have K2 := K H locs cells slots lsR hr hv hl hn hz
    rw [if_neg (by simpa [mm_c] using q)] at K2
    exact K2
theorem sg_icmp_ge (C : mm_Cx P y d p R s m meth c) (hc : tb_cod y pc = some (.if_icmp .ge off, 3)) (K : mm_G P y n0 z0 p l e R s m args below meth c Q (if mm_c .ge x x2 = true then mm_t pc off else pc + 3) ls r h) : mm_G P y n0 z0 p l e R s m args below meth c Q pc ls (.int x2 :: .int x :: r) h := by
  intro H locs cells slots lsR hr hv hl hn hz
  have hd := mm_dec hc
  refine lv_icmp_ge C.1.1 C.1.2.1 hd.1 (mm_tgt (by simpa [tb_okT] using hd.2)) (fun q => ?_) (fun q => ?_)
  · have K2 := K H locs cells slots lsR hr hv hl hn hz
    rw [if_pos (by simpa [mm_c] using q)] at K2
    exact K2
  · have K2 := K H locs cells slots lsR hr hv hl hn hz
    rw [if_neg (by simpa [mm_c] using q)] at K2
    exact K2
theorem sg_if_gt (C : mm_Cx P y d p R s m meth c) (hc : tb_cod y pc = some (.ifCond .gt off, 3)) (K : mm_G P y n0 z0 p l e R s m args below meth c Q (if mm_c .gt x 0 = true then mm_t pc off else pc + 3) ls r h) : mm_G P y n0 z0 p l e R s m args below meth c Q pc ls (.int x :: r) h := by
  intro H locs cells slots lsR hr hv hl hn hz
  have hd := mm_dec hc
  refine lv_if_gt C.1.1 C.1.2.1 hd.1 (mm_tgt (by simpa [tb_okT] using hd.2)) (fun q => ?_) (fun q => ?_)
  · have K2 := K H locs cells slots lsR hr hv hl hn hz
    rw [if_pos (by simpa [mm_c] using q)] at K2
    exact K2
  · have K2 := K H locs cells slots lsR hr hv hl hn hz
    rw [if_neg (by simpa [mm_c] using q)] at K2
    exact K2
theorem sg_icmp_gt (C : mm_Cx P y d p R s m meth c) (hc : tb_cod y pc = some (.if_icmp .gt off, 3)) (K : mm_G P y n0 z0 p l e R s m args below meth c Q (if mm_c .gt x x2 = true then mm_t pc off else pc + 3) ls r h) : mm_G P y n0 z0 p l e R s m args below meth c Q pc ls (.int x2 :: .int x :: r) h := by
  intro H locs cells slots lsR hr hv hl hn hz
  have hd := mm_dec hc
  refine lv_icmp_gt C.1.1 C.1.2.1 hd.1 (mm_tgt (by simpa [tb_okT] using hd.2)) (fun q => ?_) (fun q => ?_)
  · have K2 := K H locs cells slots lsR hr hv hl hn hz
    rw [if_pos (by simpa [mm_c] using q)] at K2
    exact K2
  · have K2 := K H locs cells slots lsR hr hv hl hn hz
    rw [if_neg (by simpa [mm_c] using q)] at K2
    exact K2
theorem sg_if_le (C : mm_Cx P y d p R s m meth c) (hc : tb_cod y pc = some (.ifCond .le off, 3)) (K : mm_G P y n0 z0 p l e R s m args below meth c Q (if mm_c .le x 0 = true then mm_t pc off else pc + 3) ls r h) : mm_G P y n0 z0 p l e R s m args below meth c Q pc ls (.int x :: r) h := by
  intro H locs cells slots lsR hr hv hl hn hz
  have hd := mm_dec hc
  refine lv_if_le C.1.1 C.1.2.1 hd.1 (mm_tgt (by simpa [tb_okT] using hd.2)) (fun q => ?_) (fun q => ?_)
  · have K2 := K H locs cells slots lsR hr hv hl hn hz
    rw [if_pos (by simpa [mm_c] using q)] at K2
    exact K2
  · have K2 := K H locs cells slots lsR hr hv hl hn hz
    rw [if_neg (by simpa [mm_c] using q)] at K2
    exact K2
theorem sg_icmp_le (C : mm_Cx P y d p R s m meth c) (hc : tb_cod y pc = some (.if_icmp .le off, 3)) (K : mm_G P y n0 z0 p l e R s m args below meth c Q (if mm_c .le x x2 = true then mm_t pc off else pc + 3) ls r h) : mm_G P y n0 z0 p l e R s m args below meth c Q pc ls (.int x2 :: .int x :: r) h := by
  intro H locs cells slots lsR hr hv hl hn hz
  have hd := mm_dec hc
  refine lv_icmp_le C.1.1 C.1.2.1 hd.1 (mm_tgt (by simpa [tb_okT] using hd.2)) (fun q => ?_) (fun q => ?_)
  · have K2 := K H locs cells slots lsR hr hv hl hn hz
    rw [if_pos (by simpa [mm_c] using q)] at K2
    exact K2
  · have K2 := K H locs cells slots lsR hr hv hl hn hz
    rw [if_neg (by simpa [mm_c] using q)] at K2
    exact K2
theorem sg_ifnull (C : mm_Cx P y d p R s m meth c) (hc : tb_cod y pc = some (.ifnull off, 3)) (K : mm_G P y n0 z0 p l e R s m args below meth c Q (pc + 3) ls r h) : mm_G P y n0 z0 p l e R s m args below meth c Q pc ls (.ref a :: r) h := by
  intro H locs cells slots lsR hr hv hl hn hz
  exact lv_ifnull C.1.1 C.1.2.1 (mm_dec hc).1 (K H locs cells slots lsR hr hv hl hn hz)
theorem sg_ifnullN (C : mm_Cx P y d p R s m meth c) (hc : tb_cod y pc = some (.ifnull off, 3)) (K : mm_G P y n0 z0 p l e R s m args below meth c Q (mm_t pc off) ls r h) : mm_G P y n0 z0 p l e R s m args below meth c Q pc ls (.null :: r) h := by
  intro H locs cells slots lsR hr hv hl hn hz
  have hd := mm_dec hc
  exact lv_ifnullN C.1.1 C.1.2.1 hd.1 (mm_tgt (by simpa [tb_okT] using hd.2)) (K H locs cells slots lsR hr hv hl hn hz)
theorem sg_ifnonnull (C : mm_Cx P y d p R s m meth c) (hc : tb_cod y pc = some (.ifnonnull off, 3)) (K : mm_G P y n0 z0 p l e R s m args below meth c Q (mm_t pc off) ls r h) : mm_G P y n0 z0 p l e R s m args below meth c Q pc ls (.ref a :: r) h := by
  intro H locs cells slots lsR hr hv hl hn hz
  have hd := mm_dec hc
  exact lv_ifnonnull C.1.1 C.1.2.1 hd.1 (mm_tgt (by simpa [tb_okT] using hd.2)) (K H locs cells slots lsR hr hv hl hn hz)
theorem sg_ifnonnullN (C : mm_Cx P y d p R s m meth c) (hc : tb_cod y pc = some (.ifnonnull off, 3)) (K : mm_G P y n0 z0 p l e R s m args below meth c Q (pc + 3) ls r h) : mm_G P y n0 z0 p l e R s m args below meth c Q pc ls (.null :: r) h := by
  intro H locs cells slots lsR hr hv hl hn hz
  exact lv_ifnonnullN C.1.1 C.1.2.1 (mm_dec hc).1 (K H locs cells slots lsR hr hv hl hn hz)
theorem sg_goto (C : mm_Cx P y d p R s m meth c) (hc : tb_cod y pc = some (.goto off, 3)) (K : mm_G P y n0 z0 p l e R s m args below meth c Q (mm_t pc off) ls st h) : mm_G P y n0 z0 p l e R s m args below meth c Q pc ls st h := by
  intro H locs cells slots lsR hr hv hl hn hz
  have hd := mm_dec hc
  exact lv_goto C.1.1 C.1.2.1 hd.1 (mm_tgt (by simpa [tb_okT] using hd.2)) (K H locs cells slots lsR hr hv hl hn hz)
theorem sg_table {dd lo hi : Int} {offs : Array Int} {len : Nat} (C : mm_Cx P y d p R s m meth c) (hc : tb_cod y pc = some (.tableswitch dd lo hi offs, len)) (K : mm_G P y n0 z0 p l e R s m args below meth c Q (if x.toInt < lo ∨ hi < x.toInt then mm_t pc dd else mm_t pc (offs.toList.getD (x.toInt - lo).toNat 0)) ls r h) : mm_G P y n0 z0 p l e R s m args below meth c Q pc ls (.int x :: r) h := by
  intro H locs cells slots lsR hr hv hl hn hz
  have hd := mm_dec hc
  have hok := hd.2
  simp only [tb_okT, Bool.and_eq_true, decide_eq_true_eq] at hok
  have K2 := K H locs cells slots lsR hr hv hl hn hz
  by_cases hx : x.toInt < lo ∨ hi < x.toInt
  · rw [if_pos hx] at K2
    exact lv_tableOut C.1.1 C.1.2.1 hd.1 hx (mm_tgt hok.1) K2
  · rw [if_neg hx] at K2
    have hlt : (x.toInt - lo).toNat < offs.toList.length := by omega
    have hget : offs.toList[(x.toInt - lo).toNat]? = some (offs.toList.getD (x.toInt - lo).toNat 0) := by
      rw [List.getD_eq_getElem?_getD, List.getElem?_eq_getElem hlt]; rfl
    have hall := List.all_eq_true.mp hok.2.1 _ (List.mem_of_getElem? hget)
    exact lv_tableIn C.1.1 C.1.2.1 hd.1 (fun q => hx (Or.inl q)) (fun q => hx (Or.inr q)) (by rw [← Array.getElem?_toList]; exact hget) (mm_tgt (by simpa using hall)) K2
end
