/-! THE MODEL'S RUN IS THE JVM'S: by cases of the instruction, by the fuel -/
/-- three rows that stand apart (9o, 9n, 26): an exception's constructor; an array of arrays; a catch -/
def mm_OX (P : mm_P) (l : Launch) : Prop := ∀ (y d n0 z0 : Nat) (p : Program) (e : Env) (R : Room) (s : State) (m : MethodId) (args : Array Value) (below : List Frame) (meth : Method) (c : Code) (Q : State → Prop) (pc k z a : Nat) (q : UInt32) (ls r : List Value) (h : mm_H), mm_Cx P y d p R s m meth c → tb_cod y pc = some (.invokespecial k, 3) → tb_ca y k = some z → 1000 < z → (mm_s h a).1 = z - 971 → r.length ≤ 8 → mm_G P y n0 z0 p l e R s m args below meth c Q (pc + 3) ls r h → mm_G P y n0 z0 p l e R s m args below meth c Q pc ls (.float q :: .ref a :: r) h
def mm_OM (P : mm_P) : Prop := ∀ (y d n0 z0 : Nat) (p : Program) (l : Launch) (e : Env) (R : Room) (s : State) (m : MethodId) (args : Array Value) (below : List Frame) (meth : Method) (c : Code) (Q : State → Prop) (pc k : Nat) (x x2 : Int32) (ls r : List Value) (h : mm_H), mm_Cx P y d p R s m meth c → tb_cod y pc = some (.multianewarray k 2, 4) → tb_ck y k = some 26 → 0 ≤ x → x ≤ 1000 → 0 ≤ x2 → x2 ≤ 1000 → mm_n (mm_nw2 h 26 20 x.toNatClampNeg x2.toNatClampNeg) ≤ n0 + R.cells → mm_z (mm_nw2 h 26 20 x.toNatClampNeg x2.toNatClampNeg) ≤ z0 + R.slots → mm_G P y n0 z0 p l e R s m args below meth c Q (pc + 4) ls (.ref (mm_n h) :: r) (mm_nw2 h 26 20 x.toNatClampNeg x2.toNatClampNeg) → mm_G P y n0 z0 p l e R s m args below meth c Q pc ls (.int x2 :: .int x :: r) h
def mm_OC (P : mm_P) : Prop := ∀ (y d n0 z0 : Nat) (p : Program) (l : Launch) (e : Env) (R : Room) (s : State) (m : MethodId) (args : Array Value) (below : List Frame) (meth : Method) (c : Code) (Q : State → Prop) (pc pc' a : Nat) (ls rest : List Value) (h1 : mm_H), mm_Cx P y d p R s m meth c → mm_hnd y pc (mm_s h1 a).1 = some pc' → mm_G P y n0 z0 p l e R s m args below meth c Q pc' ls [.ref a] h1 → mm_K P y n0 z0 p l e R s m args below meth c Q pc ls rest (.inr a) h1
set_option maxHeartbeats 4000000 in
theorem sim_go {y pc len pc' : Nat} {i : ClassFile.Instr} {ls st ls' st' : List Value} {h h' : mm_H} (hc : tb_cod y pc = some (i, len)) (ha : mm_act y pc i ls st h = some (.inl (pc', ls', st', h'))) :
    (mm_n h ≤ mm_n h' ∧ mm_z h ≤ mm_z h') ∧ ∀ (P : mm_P) (d n0 z0 : Nat) (p : Program) (l : Launch) (e : Env) (R : Room) (s : State) (m : MethodId) (args : Array Value) (below : List Frame) (meth : Method) (c : Code) (Q : State → Prop), mm_OX P l → mm_OM P → mm_Cx P y d p R s m meth c → mm_n h' ≤ n0 + R.cells → mm_z h' ≤ z0 + R.slots → mm_G P y n0 z0 p l e R s m args below meth c Q pc' ls' st' h' → mm_G P y n0 z0 p l e R s m args below meth c Q pc ls st h := by
  obtain ⟨hlen, hib⟩ := mm_lkb hc
  cases i with
  | iconst n =>
    obtain rfl : len = 1 := by simp only [mm_lk] at hlen; omega
    simp only [mm_act, mm_go, Option.some.injEq, Sum.inl.injEq, Prod.mk.injEq] at ha
    obtain ⟨rfl, rfl, rfl, rfl⟩ := ha
    refine ⟨⟨Nat.le_refl _, Nat.le_refl _⟩, fun P d n0 z0 p l e R s m args below meth c Q ox om C r1 r2 K => ?_⟩
    exact sg_iconst C hc K
  | bipush n =>
    obtain rfl : len = 2 := by simp only [mm_lk] at hlen; omega
    simp only [mm_act, mm_go, Option.some.injEq, Sum.inl.injEq, Prod.mk.injEq] at ha
    obtain ⟨rfl, rfl, rfl, rfl⟩ := ha
    refine ⟨⟨Nat.le_refl _, Nat.le_refl _⟩, fun P d n0 z0 p l e R s m args below meth c Q ox om C r1 r2 K => ?_⟩
    exact sg_bipush C hc K
  | sipush n =>
    obtain rfl : len = 3 := by simp only [mm_lk] at hlen; omega
    simp only [mm_act, mm_go, Option.some.injEq, Sum.inl.injEq, Prod.mk.injEq] at ha
    obtain ⟨rfl, rfl, rfl, rfl⟩ := ha
    refine ⟨⟨Nat.le_refl _, Nat.le_refl _⟩, fun P d n0 z0 p l e R s m args below meth c Q ox om C r1 r2 K => ?_⟩
    exact sg_sipush C hc K
  | lconst n =>
    obtain rfl : len = 1 := by simp only [mm_lk] at hlen; omega
    simp only [mm_act, mm_go, Option.some.injEq, Sum.inl.injEq, Prod.mk.injEq] at ha
    obtain ⟨rfl, rfl, rfl, rfl⟩ := ha
    refine ⟨⟨Nat.le_refl _, Nat.le_refl _⟩, fun P d n0 z0 p l e R s m args below meth c Q ox om C r1 r2 K => ?_⟩
    exact sg_lconst C hc K
  | aconst_null =>
    obtain rfl : len = 1 := by simp only [mm_lk] at hlen; omega
    simp only [mm_act, mm_go, Option.some.injEq, Sum.inl.injEq, Prod.mk.injEq] at ha
    obtain ⟨rfl, rfl, rfl, rfl⟩ := ha
    refine ⟨⟨Nat.le_refl _, Nat.le_refl _⟩, fun P d n0 z0 p l e R s m args below meth c Q ox om C r1 r2 K => ?_⟩
    exact sg_null C hc K
  | ldc k =>
    obtain rfl : len = 2 := by simp only [mm_lk] at hlen; omega
    simp only [mm_act] at ha
    cases hci : tb_ci y k with
    | some v =>
      simp only [hci, mm_go, Option.some.injEq, Sum.inl.injEq, Prod.mk.injEq] at ha
      obtain ⟨rfl, rfl, rfl, rfl⟩ := ha
      refine ⟨⟨Nat.le_refl _, Nat.le_refl _⟩, fun P d n0 z0 p l e R s m args below meth c Q ox om C r1 r2 K => ?_⟩
      exact sg_ldcI C hc hci K
    | none =>
      cases hcs : tb_cs y k with
      | some q =>
        simp only [hci, hcs, mm_go, Option.some.injEq, Sum.inl.injEq, Prod.mk.injEq] at ha
        obtain ⟨rfl, rfl, rfl, rfl⟩ := ha
        refine ⟨⟨Nat.le_refl _, Nat.le_refl _⟩, fun P d n0 z0 p l e R s m args below meth c Q ox om C r1 r2 K => ?_⟩
        exact sg_ldcS C hc hcs K
      | none => simp [hci, hcs] at ha
  | ldc2_w k =>
    obtain rfl : len = 3 := by simp only [mm_lk] at hlen; omega
    simp only [mm_act] at ha
    cases hci : tb_cl2 y k with
    | some v =>
      simp only [hci, mm_go, Option.some.injEq, Sum.inl.injEq, Prod.mk.injEq] at ha
      obtain ⟨rfl, rfl, rfl, rfl⟩ := ha
      refine ⟨⟨Nat.le_refl _, Nat.le_refl _⟩, fun P d n0 z0 p l e R s m args below meth c Q ox om C r1 r2 K => ?_⟩
      exact sg_ldc2 C hc hci K
    | none => simp [hci] at ha
  | iload k =>
    obtain rfl : len = 2 := by simp only [mm_lk] at hlen; omega
    simp only [mm_act] at ha
    split at ha
    · rename_i hk
      simp only [mm_go, Option.some.injEq, Sum.inl.injEq, Prod.mk.injEq] at ha
      obtain ⟨rfl, rfl, rfl, rfl⟩ := ha
      refine ⟨⟨Nat.le_refl _, Nat.le_refl _⟩, fun P d n0 z0 p l e R s m args below meth c Q ox om C r1 r2 K => ?_⟩
      exact sg_iload C hc hk K
    · cases ha
  | iload_n k =>
    obtain rfl : len = 1 := by simp only [mm_lk] at hlen; omega
    simp only [mm_act] at ha
    split at ha
    · rename_i hk
      simp only [mm_go, Option.some.injEq, Sum.inl.injEq, Prod.mk.injEq] at ha
      obtain ⟨rfl, rfl, rfl, rfl⟩ := ha
      refine ⟨⟨Nat.le_refl _, Nat.le_refl _⟩, fun P d n0 z0 p l e R s m args below meth c Q ox om C r1 r2 K => ?_⟩
      exact sg_iload_n C hc hk K
    · cases ha
  | lload k =>
    obtain rfl : len = 2 := by simp only [mm_lk] at hlen; omega
    simp only [mm_act] at ha
    split at ha
    · rename_i hk
      simp only [mm_go, Option.some.injEq, Sum.inl.injEq, Prod.mk.injEq] at ha
      obtain ⟨rfl, rfl, rfl, rfl⟩ := ha
      refine ⟨⟨Nat.le_refl _, Nat.le_refl _⟩, fun P d n0 z0 p l e R s m args below meth c Q ox om C r1 r2 K => ?_⟩
      exact sg_lload C hc hk K
    · cases ha
  | lload_n k =>
    obtain rfl : len = 1 := by simp only [mm_lk] at hlen; omega
    simp only [mm_act] at ha
    split at ha
    · rename_i hk
      simp only [mm_go, Option.some.injEq, Sum.inl.injEq, Prod.mk.injEq] at ha
      obtain ⟨rfl, rfl, rfl, rfl⟩ := ha
      refine ⟨⟨Nat.le_refl _, Nat.le_refl _⟩, fun P d n0 z0 p l e R s m args below meth c Q ox om C r1 r2 K => ?_⟩
      exact sg_lload_n C hc hk K
    · cases ha
  | aload k =>
    obtain rfl : len = 2 := by simp only [mm_lk] at hlen; omega
    simp only [mm_act] at ha
    split at ha
    · rename_i hk
      simp only [mm_go, Option.some.injEq, Sum.inl.injEq, Prod.mk.injEq] at ha
      obtain ⟨rfl, rfl, rfl, rfl⟩ := ha
      refine ⟨⟨Nat.le_refl _, Nat.le_refl _⟩, fun P d n0 z0 p l e R s m args below meth c Q ox om C r1 r2 K => ?_⟩
      exact sg_aload C hc hk K
    · rename_i hk
      simp only [mm_go, Option.some.injEq, Sum.inl.injEq, Prod.mk.injEq] at ha
      obtain ⟨rfl, rfl, rfl, rfl⟩ := ha
      refine ⟨⟨Nat.le_refl _, Nat.le_refl _⟩, fun P d n0 z0 p l e R s m args below meth c Q ox om C r1 r2 K => ?_⟩
      exact sg_aloadN C hc hk K
    · cases ha
  | aload_n k =>
    obtain rfl : len = 1 := by simp only [mm_lk] at hlen; omega
    simp only [mm_act] at ha
    split at ha
    · rename_i hk
      simp only [mm_go, Option.some.injEq, Sum.inl.injEq, Prod.mk.injEq] at ha
      obtain ⟨rfl, rfl, rfl, rfl⟩ := ha
      refine ⟨⟨Nat.le_refl _, Nat.le_refl _⟩, fun P d n0 z0 p l e R s m args below meth c Q ox om C r1 r2 K => ?_⟩
      exact sg_aload_n C hc hk K
    · rename_i hk
      simp only [mm_go, Option.some.injEq, Sum.inl.injEq, Prod.mk.injEq] at ha
      obtain ⟨rfl, rfl, rfl, rfl⟩ := ha
      refine ⟨⟨Nat.le_refl _, Nat.le_refl _⟩, fun P d n0 z0 p l e R s m args below meth c Q ox om C r1 r2 K => ?_⟩
      exact sg_aload_nN C hc hk K
    · cases ha
  | istore k =>
    obtain rfl : len = 2 := by simp only [mm_lk] at hlen; omega
    simp only [mm_ib, decide_eq_true_eq] at hib
    simp only [mm_act] at ha
    split at ha
    · rw [Option.bind_eq_some_iff] at ha
      obtain ⟨ls2, hk, ha⟩ := ha
      simp only [mm_go, Option.some.injEq, Sum.inl.injEq, Prod.mk.injEq] at ha
      obtain ⟨rfl, rfl, rfl, rfl⟩ := ha
      refine ⟨⟨Nat.le_refl _, Nat.le_refl _⟩, fun P d n0 z0 p l e R s m args below meth c Q ox om C r1 r2 K => ?_⟩
      exact sg_istore C hc hib hk K
    · cases ha
  | istore_n k =>
    obtain rfl : len = 1 := by simp only [mm_lk] at hlen; omega
    simp only [mm_ib, decide_eq_true_eq] at hib
    simp only [mm_act] at ha
    split at ha
    · rw [Option.bind_eq_some_iff] at ha
      obtain ⟨ls2, hk, ha⟩ := ha
      simp only [mm_go, Option.some.injEq, Sum.inl.injEq, Prod.mk.injEq] at ha
      obtain ⟨rfl, rfl, rfl, rfl⟩ := ha
      refine ⟨⟨Nat.le_refl _, Nat.le_refl _⟩, fun P d n0 z0 p l e R s m args below meth c Q ox om C r1 r2 K => ?_⟩
      exact sg_istore_n C hc hib hk K
    · cases ha
  | lstore k =>
    obtain rfl : len = 2 := by simp only [mm_lk] at hlen; omega
    simp only [mm_ib, decide_eq_true_eq] at hib
    simp only [mm_act] at ha
    split at ha
    · rw [Option.bind_eq_some_iff] at ha
      obtain ⟨ls2, hk, ha⟩ := ha
      simp only [mm_go, Option.some.injEq, Sum.inl.injEq, Prod.mk.injEq] at ha
      obtain ⟨rfl, rfl, rfl, rfl⟩ := ha
      refine ⟨⟨Nat.le_refl _, Nat.le_refl _⟩, fun P d n0 z0 p l e R s m args below meth c Q ox om C r1 r2 K => ?_⟩
      exact sg_lstore C hc hib hk K
    · cases ha
  | lstore_n k =>
    obtain rfl : len = 1 := by simp only [mm_lk] at hlen; omega
    simp only [mm_ib, decide_eq_true_eq] at hib
    simp only [mm_act] at ha
    split at ha
    · rw [Option.bind_eq_some_iff] at ha
      obtain ⟨ls2, hk, ha⟩ := ha
      simp only [mm_go, Option.some.injEq, Sum.inl.injEq, Prod.mk.injEq] at ha
      obtain ⟨rfl, rfl, rfl, rfl⟩ := ha
      refine ⟨⟨Nat.le_refl _, Nat.le_refl _⟩, fun P d n0 z0 p l e R s m args below meth c Q ox om C r1 r2 K => ?_⟩
      exact sg_lstore_n C hc hib hk K
    · cases ha
  | astore k =>
    obtain rfl : len = 2 := by simp only [mm_lk] at hlen; omega
    simp only [mm_ib, decide_eq_true_eq] at hib
    simp only [mm_act] at ha
    split at ha
    · rw [Option.bind_eq_some_iff] at ha
      obtain ⟨ls2, hk, ha⟩ := ha
      simp only [mm_go, Option.some.injEq, Sum.inl.injEq, Prod.mk.injEq] at ha
      obtain ⟨rfl, rfl, rfl, rfl⟩ := ha
      refine ⟨⟨Nat.le_refl _, Nat.le_refl _⟩, fun P d n0 z0 p l e R s m args below meth c Q ox om C r1 r2 K => ?_⟩
      exact sg_astore C hc hib hk K
    · rw [Option.bind_eq_some_iff] at ha
      obtain ⟨ls2, hk, ha⟩ := ha
      simp only [mm_go, Option.some.injEq, Sum.inl.injEq, Prod.mk.injEq] at ha
      obtain ⟨rfl, rfl, rfl, rfl⟩ := ha
      refine ⟨⟨Nat.le_refl _, Nat.le_refl _⟩, fun P d n0 z0 p l e R s m args below meth c Q ox om C r1 r2 K => ?_⟩
      exact sg_astoreN C hc hib hk K
    · cases ha
  | astore_n k =>
    obtain rfl : len = 1 := by simp only [mm_lk] at hlen; omega
    simp only [mm_ib, decide_eq_true_eq] at hib
    simp only [mm_act] at ha
    split at ha
    · rw [Option.bind_eq_some_iff] at ha
      obtain ⟨ls2, hk, ha⟩ := ha
      simp only [mm_go, Option.some.injEq, Sum.inl.injEq, Prod.mk.injEq] at ha
      obtain ⟨rfl, rfl, rfl, rfl⟩ := ha
      refine ⟨⟨Nat.le_refl _, Nat.le_refl _⟩, fun P d n0 z0 p l e R s m args below meth c Q ox om C r1 r2 K => ?_⟩
      exact sg_astore_n C hc hib hk K
    · rw [Option.bind_eq_some_iff] at ha
      obtain ⟨ls2, hk, ha⟩ := ha
      simp only [mm_go, Option.some.injEq, Sum.inl.injEq, Prod.mk.injEq] at ha
      obtain ⟨rfl, rfl, rfl, rfl⟩ := ha
      refine ⟨⟨Nat.le_refl _, Nat.le_refl _⟩, fun P d n0 z0 p l e R s m args below meth c Q ox om C r1 r2 K => ?_⟩
      exact sg_astore_nN C hc hib hk K
    · cases ha
  | iinc k n =>
    obtain rfl : len = 3 := by simp only [mm_lk] at hlen; omega
    simp only [mm_ib, decide_eq_true_eq] at hib
    simp only [mm_act] at ha
    split at ha
    · rename_i hx
      rw [Option.bind_eq_some_iff] at ha
      obtain ⟨ls2, hk, ha⟩ := ha
      simp only [mm_go, Option.some.injEq, Sum.inl.injEq, Prod.mk.injEq] at ha
      obtain ⟨rfl, rfl, rfl, rfl⟩ := ha
      refine ⟨⟨Nat.le_refl _, Nat.le_refl _⟩, fun P d n0 z0 p l e R s m args below meth c Q ox om C r1 r2 K => ?_⟩
      exact sg_iinc C hc hib hx hk K
    · cases ha
  | iadd =>
    obtain rfl : len = 1 := by simp only [mm_lk] at hlen; omega
    simp only [mm_act] at ha
    split at ha
    · simp only [mm_go, Option.some.injEq, Sum.inl.injEq, Prod.mk.injEq] at ha
      obtain ⟨rfl, rfl, rfl, rfl⟩ := ha
      refine ⟨⟨Nat.le_refl _, Nat.le_refl _⟩, fun P d n0 z0 p l e R s m args below meth c Q ox om C r1 r2 K => ?_⟩
      exact sg_iadd C hc K
    · cases ha
  | isub =>
    obtain rfl : len = 1 := by simp only [mm_lk] at hlen; omega
    simp only [mm_act] at ha
    split at ha
    · simp only [mm_go, Option.some.injEq, Sum.inl.injEq, Prod.mk.injEq] at ha
      obtain ⟨rfl, rfl, rfl, rfl⟩ := ha
      refine ⟨⟨Nat.le_refl _, Nat.le_refl _⟩, fun P d n0 z0 p l e R s m args below meth c Q ox om C r1 r2 K => ?_⟩
      exact sg_isub C hc K
    · cases ha
  | imul =>
    obtain rfl : len = 1 := by simp only [mm_lk] at hlen; omega
    simp only [mm_act] at ha
    split at ha
    · simp only [mm_go, Option.some.injEq, Sum.inl.injEq, Prod.mk.injEq] at ha
      obtain ⟨rfl, rfl, rfl, rfl⟩ := ha
      refine ⟨⟨Nat.le_refl _, Nat.le_refl _⟩, fun P d n0 z0 p l e R s m args below meth c Q ox om C r1 r2 K => ?_⟩
      exact sg_imul C hc K
    · cases ha
  | iand =>
    obtain rfl : len = 1 := by simp only [mm_lk] at hlen; omega
    simp only [mm_act] at ha
    split at ha
    · simp only [mm_go, Option.some.injEq, Sum.inl.injEq, Prod.mk.injEq] at ha
      obtain ⟨rfl, rfl, rfl, rfl⟩ := ha
      refine ⟨⟨Nat.le_refl _, Nat.le_refl _⟩, fun P d n0 z0 p l e R s m args below meth c Q ox om C r1 r2 K => ?_⟩
      exact sg_iand C hc K
    · cases ha
  | ladd =>
    obtain rfl : len = 1 := by simp only [mm_lk] at hlen; omega
    simp only [mm_act] at ha
    split at ha
    · simp only [mm_go, Option.some.injEq, Sum.inl.injEq, Prod.mk.injEq] at ha
      obtain ⟨rfl, rfl, rfl, rfl⟩ := ha
      refine ⟨⟨Nat.le_refl _, Nat.le_refl _⟩, fun P d n0 z0 p l e R s m args below meth c Q ox om C r1 r2 K => ?_⟩
      exact sg_ladd C hc K
    · cases ha
  | lmul =>
    obtain rfl : len = 1 := by simp only [mm_lk] at hlen; omega
    simp only [mm_act] at ha
    split at ha
    · simp only [mm_go, Option.some.injEq, Sum.inl.injEq, Prod.mk.injEq] at ha
      obtain ⟨rfl, rfl, rfl, rfl⟩ := ha
      refine ⟨⟨Nat.le_refl _, Nat.le_refl _⟩, fun P d n0 z0 p l e R s m args below meth c Q ox om C r1 r2 K => ?_⟩
      exact sg_lmul C hc K
    · cases ha
  | lneg =>
    obtain rfl : len = 1 := by simp only [mm_lk] at hlen; omega
    simp only [mm_act] at ha
    split at ha
    · simp only [mm_go, Option.some.injEq, Sum.inl.injEq, Prod.mk.injEq] at ha
      obtain ⟨rfl, rfl, rfl, rfl⟩ := ha
      refine ⟨⟨Nat.le_refl _, Nat.le_refl _⟩, fun P d n0 z0 p l e R s m args below meth c Q ox om C r1 r2 K => ?_⟩
      exact sg_lneg C hc K
    · cases ha
  | i2l =>
    obtain rfl : len = 1 := by simp only [mm_lk] at hlen; omega
    simp only [mm_act] at ha
    split at ha
    · simp only [mm_go, Option.some.injEq, Sum.inl.injEq, Prod.mk.injEq] at ha
      obtain ⟨rfl, rfl, rfl, rfl⟩ := ha
      refine ⟨⟨Nat.le_refl _, Nat.le_refl _⟩, fun P d n0 z0 p l e R s m args below meth c Q ox om C r1 r2 K => ?_⟩
      exact sg_i2l C hc K
    · cases ha
  | l2i =>
    obtain rfl : len = 1 := by simp only [mm_lk] at hlen; omega
    simp only [mm_act] at ha
    split at ha
    · simp only [mm_go, Option.some.injEq, Sum.inl.injEq, Prod.mk.injEq] at ha
      obtain ⟨rfl, rfl, rfl, rfl⟩ := ha
      refine ⟨⟨Nat.le_refl _, Nat.le_refl _⟩, fun P d n0 z0 p l e R s m args below meth c Q ox om C r1 r2 K => ?_⟩
      exact sg_l2i C hc K
    · cases ha
  | lcmp =>
    obtain rfl : len = 1 := by simp only [mm_lk] at hlen; omega
    simp only [mm_act] at ha
    split at ha
    · simp only [mm_go, Option.some.injEq, Sum.inl.injEq, Prod.mk.injEq] at ha
      obtain ⟨rfl, rfl, rfl, rfl⟩ := ha
      refine ⟨⟨Nat.le_refl _, Nat.le_refl _⟩, fun P d n0 z0 p l e R s m args below meth c Q ox om C r1 r2 K => ?_⟩
      exact sg_lcmp C hc K
    · cases ha
  | dup =>
    obtain rfl : len = 1 := by simp only [mm_lk] at hlen; omega
    simp only [mm_act] at ha
    split at ha
    · simp only [mm_go, Option.some.injEq, Sum.inl.injEq, Prod.mk.injEq] at ha
      obtain ⟨rfl, rfl, rfl, rfl⟩ := ha
      refine ⟨⟨Nat.le_refl _, Nat.le_refl _⟩, fun P d n0 z0 p l e R s m args below meth c Q ox om C r1 r2 K => ?_⟩
      exact sg_dupI C hc K
    · simp only [mm_go, Option.some.injEq, Sum.inl.injEq, Prod.mk.injEq] at ha
      obtain ⟨rfl, rfl, rfl, rfl⟩ := ha
      refine ⟨⟨Nat.le_refl _, Nat.le_refl _⟩, fun P d n0 z0 p l e R s m args below meth c Q ox om C r1 r2 K => ?_⟩
      exact sg_dupR C hc K
    · cases ha
  | pop =>
    obtain rfl : len = 1 := by simp only [mm_lk] at hlen; omega
    simp only [mm_act] at ha
    split at ha
    · simp only [mm_go, Option.some.injEq, Sum.inl.injEq, Prod.mk.injEq] at ha
      obtain ⟨rfl, rfl, rfl, rfl⟩ := ha
      refine ⟨⟨Nat.le_refl _, Nat.le_refl _⟩, fun P d n0 z0 p l e R s m args below meth c Q ox om C r1 r2 K => ?_⟩
      exact sg_popI C hc K
    · simp only [mm_go, Option.some.injEq, Sum.inl.injEq, Prod.mk.injEq] at ha
      obtain ⟨rfl, rfl, rfl, rfl⟩ := ha
      refine ⟨⟨Nat.le_refl _, Nat.le_refl _⟩, fun P d n0 z0 p l e R s m args below meth c Q ox om C r1 r2 K => ?_⟩
      exact sg_popR C hc K
    · cases ha
  | dup2 =>
    obtain rfl : len = 1 := by simp only [mm_lk] at hlen; omega
    simp only [mm_act] at ha
    split at ha
    · simp only [mm_go, Option.some.injEq, Sum.inl.injEq, Prod.mk.injEq] at ha
      obtain ⟨rfl, rfl, rfl, rfl⟩ := ha
      refine ⟨⟨Nat.le_refl _, Nat.le_refl _⟩, fun P d n0 z0 p l e R s m args below meth c Q ox om C r1 r2 K => ?_⟩
      exact sg_dup2 C hc K
    · cases ha
  | ifnull off =>
    obtain rfl : len = 3 := by simp only [mm_lk] at hlen; omega
    simp only [mm_act] at ha
    split at ha
    · simp only [mm_go, Option.some.injEq, Sum.inl.injEq, Prod.mk.injEq] at ha
      obtain ⟨rfl, rfl, rfl, rfl⟩ := ha
      refine ⟨⟨Nat.le_refl _, Nat.le_refl _⟩, fun P d n0 z0 p l e R s m args below meth c Q ox om C r1 r2 K => ?_⟩
      exact sg_ifnullN C hc K
    · simp only [mm_go, Option.some.injEq, Sum.inl.injEq, Prod.mk.injEq] at ha
      obtain ⟨rfl, rfl, rfl, rfl⟩ := ha
      refine ⟨⟨Nat.le_refl _, Nat.le_refl _⟩, fun P d n0 z0 p l e R s m args below meth c Q ox om C r1 r2 K => ?_⟩
      exact sg_ifnull C hc K
    · cases ha
  | ifnonnull off =>
    obtain rfl : len = 3 := by simp only [mm_lk] at hlen; omega
    simp only [mm_act] at ha
    split at ha
    · simp only [mm_go, Option.some.injEq, Sum.inl.injEq, Prod.mk.injEq] at ha
      obtain ⟨rfl, rfl, rfl, rfl⟩ := ha
      refine ⟨⟨Nat.le_refl _, Nat.le_refl _⟩, fun P d n0 z0 p l e R s m args below meth c Q ox om C r1 r2 K => ?_⟩
      exact sg_ifnonnullN C hc K
    · simp only [mm_go, Option.some.injEq, Sum.inl.injEq, Prod.mk.injEq] at ha
      obtain ⟨rfl, rfl, rfl, rfl⟩ := ha
      refine ⟨⟨Nat.le_refl _, Nat.le_refl _⟩, fun P d n0 z0 p l e R s m args below meth c Q ox om C r1 r2 K => ?_⟩
      exact sg_ifnonnull C hc K
    · cases ha
  | goto off =>
    obtain rfl : len = 3 := by simp only [mm_lk] at hlen; omega
    simp only [mm_act, mm_go, Option.some.injEq, Sum.inl.injEq, Prod.mk.injEq] at ha
    obtain ⟨rfl, rfl, rfl, rfl⟩ := ha
    refine ⟨⟨Nat.le_refl _, Nat.le_refl _⟩, fun P d n0 z0 p l e R s m args below meth c Q ox om C r1 r2 K => ?_⟩
    exact sg_goto C hc K
  | idiv =>
    obtain rfl : len = 1 := by simp only [mm_lk] at hlen; omega
    simp only [mm_act] at ha
    split at ha
    · unfold mm_if at ha
      split at ha
      · rename_i hg
        simp only [mm_go, Option.some.injEq, Sum.inl.injEq, Prod.mk.injEq] at ha
        obtain ⟨rfl, rfl, rfl, rfl⟩ := ha
        refine ⟨⟨Nat.le_refl _, Nat.le_refl _⟩, fun P d n0 z0 p l e R s m args below meth c Q ox om C r1 r2 K => ?_⟩
        exact sg_idiv C hc hg K
      · cases ha
    · cases ha
  | irem =>
    obtain rfl : len = 1 := by simp only [mm_lk] at hlen; omega
    simp only [mm_act] at ha
    split at ha
    · unfold mm_if at ha
      split at ha
      · rename_i hg
        simp only [mm_go, Option.some.injEq, Sum.inl.injEq, Prod.mk.injEq] at ha
        obtain ⟨rfl, rfl, rfl, rfl⟩ := ha
        refine ⟨⟨Nat.le_refl _, Nat.le_refl _⟩, fun P d n0 z0 p l e R s m args below meth c Q ox om C r1 r2 K => ?_⟩
        exact sg_irem C hc hg K
      · cases ha
    · cases ha
  | ldiv =>
    obtain rfl : len = 1 := by simp only [mm_lk] at hlen; omega
    simp only [mm_act] at ha
    split at ha
    · unfold mm_if at ha
      split at ha
      · rename_i hg
        simp only [mm_go, Option.some.injEq, Sum.inl.injEq, Prod.mk.injEq] at ha
        obtain ⟨rfl, rfl, rfl, rfl⟩ := ha
        refine ⟨⟨Nat.le_refl _, Nat.le_refl _⟩, fun P d n0 z0 p l e R s m args below meth c Q ox om C r1 r2 K => ?_⟩
        exact sg_ldiv C hc hg K
      · cases ha
    · cases ha
  | lrem =>
    obtain rfl : len = 1 := by simp only [mm_lk] at hlen; omega
    simp only [mm_act] at ha
    split at ha
    · unfold mm_if at ha
      split at ha
      · rename_i hg
        simp only [mm_go, Option.some.injEq, Sum.inl.injEq, Prod.mk.injEq] at ha
        obtain ⟨rfl, rfl, rfl, rfl⟩ := ha
        refine ⟨⟨Nat.le_refl _, Nat.le_refl _⟩, fun P d n0 z0 p l e R s m args below meth c Q ox om C r1 r2 K => ?_⟩
        exact sg_lrem C hc hg K
      · cases ha
    · cases ha
  | ifCond cd off =>
    obtain rfl : len = 3 := by simp only [mm_lk] at hlen; omega
    simp only [mm_act] at ha
    split at ha
    · simp only [mm_go, Option.some.injEq, Sum.inl.injEq, Prod.mk.injEq] at ha
      obtain ⟨rfl, rfl, rfl, rfl⟩ := ha
      refine ⟨⟨Nat.le_refl _, Nat.le_refl _⟩, fun P d n0 z0 p l e R s m args below meth c Q ox om C r1 r2 K => ?_⟩
      cases cd with
      | eq => exact sg_if_eq C hc K
      | ne => exact sg_if_ne C hc K
      | lt => exact sg_if_lt C hc K
      | ge => exact sg_if_ge C hc K
      | gt => exact sg_if_gt C hc K
      | le => exact sg_if_le C hc K
    · cases ha
  | if_icmp cd off =>
    obtain rfl : len = 3 := by simp only [mm_lk] at hlen; omega
    simp only [mm_act] at ha
    split at ha
    · simp only [mm_go, Option.some.injEq, Sum.inl.injEq, Prod.mk.injEq] at ha
      obtain ⟨rfl, rfl, rfl, rfl⟩ := ha
      refine ⟨⟨Nat.le_refl _, Nat.le_refl _⟩, fun P d n0 z0 p l e R s m args below meth c Q ox om C r1 r2 K => ?_⟩
      cases cd with
      | eq => exact sg_icmp_eq C hc K
      | ne => exact sg_icmp_ne C hc K
      | lt => exact sg_icmp_lt C hc K
      | ge => exact sg_icmp_ge C hc K
      | gt => exact sg_icmp_gt C hc K
      | le => exact sg_icmp_le C hc K
    · cases ha
  | tableswitch dd lo hi offs =>
    simp only [mm_act] at ha
    split at ha
    · simp only [mm_go, Option.some.injEq, Sum.inl.injEq, Prod.mk.injEq] at ha
      obtain ⟨rfl, rfl, rfl, rfl⟩ := ha
      refine ⟨⟨Nat.le_refl _, Nat.le_refl _⟩, fun P d n0 z0 p l e R s m args below meth c Q ox om C r1 r2 K => ?_⟩
      exact sg_table C hc K
    · cases ha
  | getfield k =>
    obtain rfl : len = 3 := by simp only [mm_lk] at hlen; omega
    simp only [mm_act] at ha
    split at ha
    · rename_i hf
      unfold mm_if at ha
      split at ha
      · rename_i hg
        simp only [mm_go, Option.some.injEq, Sum.inl.injEq, Prod.mk.injEq] at ha
        obtain ⟨rfl, rfl, rfl, rfl⟩ := ha
        refine ⟨⟨Nat.le_refl _, Nat.le_refl _⟩, fun P d n0 z0 p l e R s m args below meth c Q ox om C r1 r2 K => ?_⟩
        refine sg_get C hc hf hg ?_ K
        unfold mm_fv
        split
        · rfl
        · split <;> rfl
      · cases ha
    · cases ha
  | putfield k =>
    obtain rfl : len = 3 := by simp only [mm_lk] at hlen; omega
    simp only [mm_act] at ha
    split at ha
    · rename_i hf
      unfold mm_if at ha
      split at ha
      · rename_i hg
        simp only [mm_go, Option.some.injEq, Sum.inl.injEq, Prod.mk.injEq] at ha
        obtain ⟨rfl, rfl, rfl, rfl⟩ := ha
        refine ⟨⟨Nat.le_refl _, Nat.le_refl _⟩, fun P d n0 z0 p l e R s m args below meth c Q ox om C r1 r2 K => ?_⟩
        exact sg_putI C hc hf hg.1 hg.2 K
      · cases ha
    · rename_i hf
      unfold mm_if at ha
      split at ha
      · rename_i hg
        simp only [mm_go, Option.some.injEq, Sum.inl.injEq, Prod.mk.injEq] at ha
        obtain ⟨rfl, rfl, rfl, rfl⟩ := ha
        refine ⟨⟨Nat.le_refl _, Nat.le_refl _⟩, fun P d n0 z0 p l e R s m args below meth c Q ox om C r1 r2 K => ?_⟩
        obtain ⟨g1, rfl⟩ := hg
        exact sg_putL C hc hf g1 K
      · cases ha
    · rename_i hf
      unfold mm_if at ha
      split at ha
      · rename_i hg
        simp only [mm_go, Option.some.injEq, Sum.inl.injEq, Prod.mk.injEq] at ha
        obtain ⟨rfl, rfl, rfl, rfl⟩ := ha
        refine ⟨⟨Nat.le_refl _, Nat.le_refl _⟩, fun P d n0 z0 p l e R s m args below meth c Q ox om C r1 r2 K => ?_⟩
        obtain ⟨g1, rfl⟩ := hg
        exact sg_putR C hc hf g1 K
      · cases ha
    · cases ha
  | iaload =>
    obtain rfl : len = 1 := by simp only [mm_lk] at hlen; omega
    simp only [mm_act] at ha
    split at ha
    · unfold mm_if at ha
      split at ha
      · rename_i hg
        simp only [mm_go, Option.some.injEq, Sum.inl.injEq, Prod.mk.injEq] at ha
        obtain ⟨rfl, rfl, rfl, rfl⟩ := ha
        refine ⟨⟨Nat.le_refl _, Nat.le_refl _⟩, fun P d n0 z0 p l e R s m args below meth c Q ox om C r1 r2 K => ?_⟩
        exact sg_iaload C hc hg.1 hg.2 K
      · cases ha
    · cases ha
  | laload =>
    obtain rfl : len = 1 := by simp only [mm_lk] at hlen; omega
    simp only [mm_act] at ha
    split at ha
    · unfold mm_if at ha
      split at ha
      · rename_i hg
        simp only [mm_go, Option.some.injEq, Sum.inl.injEq, Prod.mk.injEq] at ha
        obtain ⟨rfl, rfl, rfl, rfl⟩ := ha
        refine ⟨⟨Nat.le_refl _, Nat.le_refl _⟩, fun P d n0 z0 p l e R s m args below meth c Q ox om C r1 r2 K => ?_⟩
        exact sg_laload C hc hg.1 hg.2 K
      · cases ha
    · cases ha
  | baload =>
    obtain rfl : len = 1 := by simp only [mm_lk] at hlen; omega
    simp only [mm_act] at ha
    split at ha
    · unfold mm_if at ha
      split at ha
      · rename_i hg
        simp only [mm_go, Option.some.injEq, Sum.inl.injEq, Prod.mk.injEq] at ha
        obtain ⟨rfl, rfl, rfl, rfl⟩ := ha
        refine ⟨⟨Nat.le_refl _, Nat.le_refl _⟩, fun P d n0 z0 p l e R s m args below meth c Q ox om C r1 r2 K => ?_⟩
        exact sg_baload C hc hg.1 hg.2 K
      · cases ha
    · cases ha
  | aaload =>
    obtain rfl : len = 1 := by simp only [mm_lk] at hlen; omega
    simp only [mm_act] at ha
    split at ha
    · unfold mm_if at ha
      split at ha
      · rename_i hg
        simp only [mm_go, Option.some.injEq, Sum.inl.injEq, Prod.mk.injEq] at ha
        obtain ⟨rfl, rfl, rfl, rfl⟩ := ha
        refine ⟨⟨Nat.le_refl _, Nat.le_refl _⟩, fun P d n0 z0 p l e R s m args below meth c Q ox om C r1 r2 K => ?_⟩
        exact sg_aaload C hc rfl hg.1 hg.2.1 hg.2.2 K
      · cases ha
    · cases ha
  | iastore =>
    obtain rfl : len = 1 := by simp only [mm_lk] at hlen; omega
    simp only [mm_act] at ha
    split at ha
    · unfold mm_if at ha
      split at ha
      · rename_i hg
        simp only [mm_go, Option.some.injEq, Sum.inl.injEq, Prod.mk.injEq] at ha
        obtain ⟨rfl, rfl, rfl, rfl⟩ := ha
        refine ⟨⟨Nat.le_refl _, Nat.le_refl _⟩, fun P d n0 z0 p l e R s m args below meth c Q ox om C r1 r2 K => ?_⟩
        exact sg_iastore C hc hg.1 hg.2.1 hg.2.2 K
      · cases ha
    · cases ha
  | lastore =>
    obtain rfl : len = 1 := by simp only [mm_lk] at hlen; omega
    simp only [mm_act] at ha
    split at ha
    · unfold mm_if at ha
      split at ha
      · rename_i hg
        simp only [mm_go, Option.some.injEq, Sum.inl.injEq, Prod.mk.injEq] at ha
        obtain ⟨rfl, rfl, rfl, rfl⟩ := ha
        refine ⟨⟨Nat.le_refl _, Nat.le_refl _⟩, fun P d n0 z0 p l e R s m args below meth c Q ox om C r1 r2 K => ?_⟩
        exact sg_lastore C hc hg.1 hg.2 K
      · cases ha
    · cases ha
  | bastore =>
    obtain rfl : len = 1 := by simp only [mm_lk] at hlen; omega
    simp only [mm_act] at ha
    split at ha
    · unfold mm_if at ha
      split at ha
      · rename_i hg
        simp only [mm_go, Option.some.injEq, Sum.inl.injEq, Prod.mk.injEq] at ha
        obtain ⟨rfl, rfl, rfl, rfl⟩ := ha
        refine ⟨⟨Nat.le_refl _, Nat.le_refl _⟩, fun P d n0 z0 p l e R s m args below meth c Q ox om C r1 r2 K => ?_⟩
        exact sg_bastore C hc hg.1 hg.2.1 hg.2.2 K
      · cases ha
    · cases ha
  | aastore =>
    obtain rfl : len = 1 := by simp only [mm_lk] at hlen; omega
    simp only [mm_act] at ha
    split at ha
    · unfold mm_if at ha
      split at ha
      · rename_i hg
        simp only [mm_go, Option.some.injEq, Sum.inl.injEq, Prod.mk.injEq] at ha
        obtain ⟨rfl, rfl, rfl, rfl⟩ := ha
        refine ⟨⟨Nat.le_refl _, Nat.le_refl _⟩, fun P d n0 z0 p l e R s m args below meth c Q ox om C r1 r2 K => ?_⟩
        have E3 := C.2.1.2.2.2.2.2.1
        rcases hg with ⟨⟨g1, g2⟩ | ⟨g1, g2⟩ | ⟨g1, g2⟩, g3⟩
        · exact sg_aastore C hc g1 (by omega) (by omega) g2 (by omega) rfl E3.1.2 g3 K
        · exact sg_aastore C hc g1 (by omega) (by omega) g2 (by omega) rfl E3.2.1.2 g3 K
        · exact sg_aastore C hc g1 (by omega) (by omega) g2 (by omega) rfl E3.2.2.2 g3 K
      · cases ha
    · cases ha
  | arraylength =>
    obtain rfl : len = 1 := by simp only [mm_lk] at hlen; omega
    simp only [mm_act] at ha
    split at ha
    · unfold mm_if at ha
      split at ha
      · rename_i hg
        simp only [mm_go, Option.some.injEq, Sum.inl.injEq, Prod.mk.injEq] at ha
        obtain ⟨rfl, rfl, rfl, rfl⟩ := ha
        refine ⟨⟨Nat.le_refl _, Nat.le_refl _⟩, fun P d n0 z0 p l e R s m args below meth c Q ox om C r1 r2 K => ?_⟩
        exact sg_alen C hc rfl hg.1 hg.2 K
      · cases ha
    · cases ha
  | new k =>
    obtain rfl : len = 3 := by simp only [mm_lk] at hlen; omega
    simp only [mm_act] at ha
    cases hk : tb_ck y k with
    | none => simp [hk] at ha
    | some kd =>
      simp only [hk, mm_if] at ha
      split at ha
      · rename_i h26
        simp only [mm_go, Option.some.injEq, Sum.inl.injEq, Prod.mk.injEq] at ha
        obtain ⟨rfl, rfl, rfl, rfl⟩ := ha
        refine ⟨⟨by rw [mm_n_nw]; omega, by rw [mm_z_nw]; omega⟩, fun P d n0 z0 p l e R s m args below meth c Q ox om C r1 r2 K => ?_⟩
        exact sg_new C hc hk h26 (by rw [mm_n_nw] at r1; exact r1) (by rw [mm_z_nw] at r2; exact r2) K
      · cases ha
  | newarray ty =>
    obtain rfl : len = 2 := by simp only [mm_lk] at hlen; omega
    simp only [mm_act] at ha
    split at ha
    · unfold mm_if at ha
      split at ha
      · rename_i hg
        simp only [mm_go, Option.some.injEq, Sum.inl.injEq, Prod.mk.injEq] at ha
        obtain ⟨rfl, rfl, rfl, rfl⟩ := ha
        refine ⟨⟨by rw [mm_n_nw]; omega, by rw [mm_z_nw]; omega⟩, fun P d n0 z0 p l e R s m args below meth c Q ox om C r1 r2 K => ?_⟩
        rw [mm_n_nw] at r1
        rw [mm_z_nw] at r2
        obtain ⟨g1, g2, rfl | rfl | rfl⟩ := hg
        · exact sg_newarr C hc (Or.inl ⟨rfl, rfl⟩) g1 g2 r1 r2 K
        · exact sg_newarr C hc (Or.inr (Or.inl ⟨rfl, rfl⟩)) g1 g2 r1 r2 K
        · exact sg_newarr C hc (Or.inr (Or.inr ⟨rfl, rfl⟩)) g1 g2 r1 r2 K
      · cases ha
    · cases ha
  | anewarray k =>
    obtain rfl : len = 3 := by simp only [mm_lk] at hlen; omega
    simp only [mm_act] at ha
    split at ha
    · rename_i hk
      unfold mm_if at ha
      split at ha
      · rename_i hg
        simp only [mm_go, Option.some.injEq, Sum.inl.injEq, Prod.mk.injEq] at ha
        obtain ⟨rfl, rfl, rfl, rfl⟩ := ha
        refine ⟨⟨by rw [mm_n_nw]; omega, by rw [mm_z_nw]; omega⟩, fun P d n0 z0 p l e R s m args below meth c Q ox om C r1 r2 K => ?_⟩
        rw [mm_n_nw] at r1
        rw [mm_z_nw] at r2
        have E3 := C.2.1.2.2.2.2.2.1
        obtain ⟨g1, g2, rfl | rfl | rfl⟩ := hg
        · exact sg_anew C hc hk (by omega) rfl (by decide) (by decide) rfl E3.1.1 E3.1.2 g1 g2 r1 r2 K
        · exact sg_anew C hc hk (by omega) rfl (by decide) (by decide) rfl E3.2.1.1 E3.2.1.2 g1 g2 r1 r2 K
        · exact sg_anew C hc hk (by omega) rfl (by decide) (by decide) rfl E3.2.2.1 E3.2.2.2 g1 g2 r1 r2 K
      · cases ha
    · cases ha
  | multianewarray k dd =>
    obtain rfl : len = 4 := by simp only [mm_lk] at hlen; omega
    simp only [mm_act] at ha
    split at ha
    · rename_i hk
      unfold mm_if at ha
      split at ha
      · rename_i hg
        simp only [mm_go, Option.some.injEq, Sum.inl.injEq, Prod.mk.injEq] at ha
        obtain ⟨rfl, rfl, rfl, rfl⟩ := ha
        obtain ⟨g1, g2, g3, g4, rfl, rfl⟩ := hg
        refine ⟨⟨by show mm_n h ≤ mm_n h + 1 + _; omega, by show mm_z h ≤ mm_z h + _ + _; omega⟩, fun P d n0 z0 p l e R s m args below meth c Q ox om C r1 r2 K => ?_⟩
        exact om _ _ _ _ _ _ _ _ _ _ _ _ _ _ _ _ _ _ _ _ _ _ C hc hk g1 g2 g3 g4 r1 r2 K
      · cases ha
    · cases ha
  | invokespecial k =>
    obtain rfl : len = 3 := by simp only [mm_lk] at hlen; omega
    simp only [mm_act] at ha
    cases hk : tb_ca y k with
    | none => simp [hk] at ha
    | some z =>
      simp only [hk] at ha
      split at ha
      · rename_i hz
        subst hz
        split at ha
        · unfold mm_if at ha
          split at ha
          · rename_i hg
            simp only [mm_go, Option.some.injEq, Sum.inl.injEq, Prod.mk.injEq] at ha
            obtain ⟨rfl, rfl, rfl, rfl⟩ := ha
            refine ⟨⟨Nat.le_refl _, Nat.le_refl _⟩, fun P d n0 z0 p l e R s m args below meth c Q ox om C r1 r2 K => ?_⟩
            exact sg_objInit C hc hk hg K
          · cases ha
        · cases ha
      · split at ha
        · rename_i hz
          split at ha
          · unfold mm_if at ha
            split at ha
            · rename_i hg
              simp only [mm_go, Option.some.injEq, Sum.inl.injEq, Prod.mk.injEq] at ha
              obtain ⟨rfl, rfl, rfl, rfl⟩ := ha
              refine ⟨⟨Nat.le_refl _, Nat.le_refl _⟩, fun P d n0 z0 p l e R s m args below meth c Q ox om C r1 r2 K => ?_⟩
              exact ox _ _ _ _ _ _ _ _ _ _ _ _ _ _ _ _ _ _ _ _ _ _ C hc hk hz hg.1 hg.2 K
            · cases ha
          · cases ha
        · simp only [mm_if, mm_callI, mm_call] at ha
          repeat (first | cases ha | split at ha)
  | ireturn =>
    simp only [mm_act, mm_if] at ha
    repeat (first | cases ha | split at ha)
  | lreturn =>
    simp only [mm_act, mm_if] at ha
    repeat (first | cases ha | split at ha)
  | areturn =>
    simp only [mm_act, mm_if] at ha
    repeat (first | cases ha | split at ha)
  | return_ =>
    simp only [mm_act, mm_if] at ha
    repeat (first | cases ha | split at ha)
  | athrow =>
    simp only [mm_act, mm_if] at ha
    repeat (first | cases ha | split at ha)
  | invokestatic k =>
    simp only [mm_act, mm_if, mm_callV, mm_call] at ha
    repeat (first | cases ha | split at ha)
  | invokevirtual k =>
    simp only [mm_act, mm_if, mm_callV, mm_call] at ha
    repeat (first | cases ha | split at ha)
  | _ => simp [mm_act] at ha
