/-! A RULE AN INSTRUCTION, over the tables' entries -/
theorem mm_act_e {y pc : Nat} {i : ClassFile.Instr} {ls st : List Value} {h : mm_H} {x y' : Option mm_A} (e : mm_act y pc i ls st h = x) (e2 : x = y') : mm_act y pc i ls st h = y' := e.trans e2
section
variable {d y pc k kd p z t f len : Nat} {ls ls' st r : List Value} {h : mm_H} {Q : mm_Q} {a b : Nat} {x x2 : Int32} {w w2 : Int64} {n off : Int}
theorem wp_brc {P : Prop} [Decidable P] {bb : Bool} {i : ClassFile.Instr} {st' : List Value} (hc : tb_cod y pc = some (i, len)) (ha : mm_act y pc i ls st h = mm_go (if bb = true then t else f) ls st' h) (hb : bb = decide P) : mm_wp d y pc ls st h Q ↔ if P then mm_wp d y t ls st' h Q else mm_wp d y f ls st' h Q := by
  subst hb
  rw [wp_go hc ha]
  by_cases hP : P
  · simp [hP]
  · simp [hP]
theorem wp_iconst {v : Int32} (hc : tb_cod y pc = some (.iconst n, 1)) (hv : Int32.ofInt n = v) : mm_wp d y pc ls st h Q ↔ mm_wp d y (pc + 1) ls (.int v :: st) h Q := by subst hv; exact wp_go hc rfl
theorem wp_bipush {v : Int32} (hc : tb_cod y pc = some (.bipush n, 2)) (hv : (Int8.ofInt n).toInt32 = v) : mm_wp d y pc ls st h Q ↔ mm_wp d y (pc + 2) ls (.int v :: st) h Q := by subst hv; exact wp_go hc rfl
theorem wp_sipush {v : Int32} (hc : tb_cod y pc = some (.sipush n, 3)) (hv : (Int16.ofInt n).toInt32 = v) : mm_wp d y pc ls st h Q ↔ mm_wp d y (pc + 3) ls (.int v :: st) h Q := by subst hv; exact wp_go hc rfl
theorem wp_lconst {v : Int64} {m : Fin 2} (hc : tb_cod y pc = some (.lconst m, 1)) (hv : Int64.ofNat (m : Nat) = v) : mm_wp d y pc ls st h Q ↔ mm_wp d y (pc + 1) ls (.long v :: st) h Q := by subst hv; exact wp_go hc rfl
theorem wp_anull (hc : tb_cod y pc = some (.aconst_null, 1)) : mm_wp d y pc ls st h Q ↔ mm_wp d y (pc + 1) ls (.null :: st) h Q := wp_go hc rfl
theorem wp_ldcI {v : Int32} (hc : tb_cod y pc = some (.ldc k, 2)) (hv : tb_ci y k = some v) : mm_wp d y pc ls st h Q ↔ mm_wp d y (pc + 2) ls (.int v :: st) h Q := wp_go hc (by simp only [mm_act, hv])
theorem wp_ldcS (hc : tb_cod y pc = some (.ldc k, 2)) (hv : tb_ci y k = none) (hs : tb_cs y k = some z) : mm_wp d y pc ls st h Q ↔ mm_wp d y (pc + 2) ls (.float (UInt32.ofNat z) :: st) h Q := wp_go hc (by simp only [mm_act, hv, hs])
theorem wp_ldc2 {v : Int64} (hc : tb_cod y pc = some (.ldc2_w k, 3)) (hv : tb_cl2 y k = some v) : mm_wp d y pc ls st h Q ↔ mm_wp d y (pc + 3) ls (.long v :: st) h Q := wp_go hc (by simp only [mm_act, hv])
theorem wp_iload (hc : tb_cod y pc = some (.iload k, 2)) (hl : ls[k]? = some (.int x)) : mm_wp d y pc ls st h Q ↔ mm_wp d y (pc + 2) ls (.int x :: st) h Q := wp_go hc (by simp only [mm_act, hl])
theorem wp_iload_n {m : Fin 4} (hc : tb_cod y pc = some (.iload_n m, 1)) (hl : ls[(m : Nat)]? = some (.int x)) : mm_wp d y pc ls st h Q ↔ mm_wp d y (pc + 1) ls (.int x :: st) h Q := wp_go hc (by simp only [mm_act, hl])
theorem wp_lload (hc : tb_cod y pc = some (.lload k, 2)) (hl : ls[k]? = some (.long w)) : mm_wp d y pc ls st h Q ↔ mm_wp d y (pc + 2) ls (.long w :: st) h Q := wp_go hc (by simp only [mm_act, hl])
theorem wp_lload_n {m : Fin 4} (hc : tb_cod y pc = some (.lload_n m, 1)) (hl : ls[(m : Nat)]? = some (.long w)) : mm_wp d y pc ls st h Q ↔ mm_wp d y (pc + 1) ls (.long w :: st) h Q := wp_go hc (by simp only [mm_act, hl])
theorem wp_aload (hc : tb_cod y pc = some (.aload k, 2)) (o : Option Nat) (hl : ls[k]? = some (mm_o o)) : mm_wp d y pc ls st h Q ↔ mm_wp d y (pc + 2) ls (mm_o o :: st) h Q := wp_go hc (by cases o <;> simp only [mm_act, hl, mm_o])
theorem wp_aload_n {m : Fin 4} (hc : tb_cod y pc = some (.aload_n m, 1)) (o : Option Nat) (hl : ls[(m : Nat)]? = some (mm_o o)) : mm_wp d y pc ls st h Q ↔ mm_wp d y (pc + 1) ls (mm_o o :: st) h Q := wp_go hc (by cases o <;> simp only [mm_act, hl, mm_o])
theorem wp_aloadR (hc : tb_cod y pc = some (.aload k, 2)) (hl : ls[k]? = some (.ref a)) : mm_wp d y pc ls st h Q ↔ mm_wp d y (pc + 2) ls (.ref a :: st) h Q := wp_go hc (by simp only [mm_act, hl])
theorem wp_aloadR_n {m : Fin 4} (hc : tb_cod y pc = some (.aload_n m, 1)) (hl : ls[(m : Nat)]? = some (.ref a)) : mm_wp d y pc ls st h Q ↔ mm_wp d y (pc + 1) ls (.ref a :: st) h Q := wp_go hc (by simp only [mm_act, hl])
theorem wp_istore (hc : tb_cod y pc = some (.istore k, 2)) (hl : mm_set y ls k (.int x) = some ls') : mm_wp d y pc ls (.int x :: r) h Q ↔ mm_wp d y (pc + 2) ls' r h Q := wp_go hc (by simp only [mm_act, hl]; rfl)
theorem wp_istore_n {m : Fin 4} (hc : tb_cod y pc = some (.istore_n m, 1)) (hl : mm_set y ls m (.int x) = some ls') : mm_wp d y pc ls (.int x :: r) h Q ↔ mm_wp d y (pc + 1) ls' r h Q := wp_go hc (by simp only [mm_act, hl]; rfl)
theorem wp_lstore (hc : tb_cod y pc = some (.lstore k, 2)) (hl : mm_set2 y ls k (.long w) = some ls') : mm_wp d y pc ls (.long w :: r) h Q ↔ mm_wp d y (pc + 2) ls' r h Q := wp_go hc (by simp only [mm_act, hl]; rfl)
theorem wp_lstore_n {m : Fin 4} (hc : tb_cod y pc = some (.lstore_n m, 1)) (hl : mm_set2 y ls m (.long w) = some ls') : mm_wp d y pc ls (.long w :: r) h Q ↔ mm_wp d y (pc + 1) ls' r h Q := wp_go hc (by simp only [mm_act, hl]; rfl)
theorem wp_astore (hc : tb_cod y pc = some (.astore k, 2)) (o : Option Nat) (hl : mm_set y ls k (mm_o o) = some ls') : mm_wp d y pc ls (mm_o o :: r) h Q ↔ mm_wp d y (pc + 2) ls' r h Q := wp_go hc (by cases o <;> simp only [mm_o] at hl ⊢ <;> simp only [mm_act, hl] <;> rfl)
theorem wp_astore_n {m : Fin 4} (hc : tb_cod y pc = some (.astore_n m, 1)) (o : Option Nat) (hl : mm_set y ls m (mm_o o) = some ls') : mm_wp d y pc ls (mm_o o :: r) h Q ↔ mm_wp d y (pc + 1) ls' r h Q := wp_go hc (by cases o <;> simp only [mm_o] at hl ⊢ <;> simp only [mm_act, hl] <;> rfl)
theorem wp_astoreR (hc : tb_cod y pc = some (.astore k, 2)) (hl : mm_set y ls k (.ref a) = some ls') : mm_wp d y pc ls (.ref a :: r) h Q ↔ mm_wp d y (pc + 2) ls' r h Q := wp_go hc (by simp only [mm_act, hl]; rfl)
theorem wp_astoreR_n {m : Fin 4} (hc : tb_cod y pc = some (.astore_n m, 1)) (hl : mm_set y ls m (.ref a) = some ls') : mm_wp d y pc ls (.ref a :: r) h Q ↔ mm_wp d y (pc + 1) ls' r h Q := wp_go hc (by simp only [mm_act, hl]; rfl)
theorem wp_iinc {v : Int32} (hc : tb_cod y pc = some (.iinc k n, 3)) (hx : ls[k]? = some (.int x)) (hv : Int32.ofInt n = v) (hl : mm_set y ls k (.int (x + v)) = some ls') : mm_wp d y pc ls st h Q ↔ mm_wp d y (pc + 3) ls' st h Q := by subst hv; exact wp_go hc (by simp only [mm_act, hx, hl]; rfl)
theorem wp_iadd (hc : tb_cod y pc = some (.iadd, 1)) : mm_wp d y pc ls (.int x2 :: .int x :: r) h Q ↔ mm_wp d y (pc + 1) ls (.int (x + x2) :: r) h Q := wp_go hc rfl
theorem wp_isub (hc : tb_cod y pc = some (.isub, 1)) : mm_wp d y pc ls (.int x2 :: .int x :: r) h Q ↔ mm_wp d y (pc + 1) ls (.int (x - x2) :: r) h Q := wp_go hc rfl
theorem wp_imul (hc : tb_cod y pc = some (.imul, 1)) : mm_wp d y pc ls (.int x2 :: .int x :: r) h Q ↔ mm_wp d y (pc + 1) ls (.int (x * x2) :: r) h Q := wp_go hc rfl
theorem wp_iand (hc : tb_cod y pc = some (.iand, 1)) : mm_wp d y pc ls (.int x2 :: .int x :: r) h Q ↔ mm_wp d y (pc + 1) ls (.int (x &&& x2) :: r) h Q := wp_go hc rfl
theorem wp_idiv (hc : tb_cod y pc = some (.idiv, 1)) : mm_wp d y pc ls (.int x2 :: .int x :: r) h Q ↔ ¬ x2 = 0 ∧ mm_wp d y (pc + 1) ls (.int (x / x2) :: r) h Q := wp_if _ hc rfl
theorem wp_irem (hc : tb_cod y pc = some (.irem, 1)) : mm_wp d y pc ls (.int x2 :: .int x :: r) h Q ↔ ¬ x2 = 0 ∧ mm_wp d y (pc + 1) ls (.int (x - x / x2 * x2) :: r) h Q := wp_if _ hc rfl
theorem wp_ladd (hc : tb_cod y pc = some (.ladd, 1)) : mm_wp d y pc ls (.long w2 :: .long w :: r) h Q ↔ mm_wp d y (pc + 1) ls (.long (w + w2) :: r) h Q := wp_go hc rfl
theorem wp_lmul (hc : tb_cod y pc = some (.lmul, 1)) : mm_wp d y pc ls (.long w2 :: .long w :: r) h Q ↔ mm_wp d y (pc + 1) ls (.long (w * w2) :: r) h Q := wp_go hc rfl
theorem wp_ldiv (hc : tb_cod y pc = some (.ldiv, 1)) : mm_wp d y pc ls (.long w2 :: .long w :: r) h Q ↔ ¬ w2 = 0 ∧ mm_wp d y (pc + 1) ls (.long (w / w2) :: r) h Q := wp_if _ hc rfl
theorem wp_lrem (hc : tb_cod y pc = some (.lrem, 1)) : mm_wp d y pc ls (.long w2 :: .long w :: r) h Q ↔ ¬ w2 = 0 ∧ mm_wp d y (pc + 1) ls (.long (w - w / w2 * w2) :: r) h Q := wp_if _ hc rfl
theorem wp_lneg (hc : tb_cod y pc = some (.lneg, 1)) : mm_wp d y pc ls (.long w :: r) h Q ↔ mm_wp d y (pc + 1) ls (.long (-w) :: r) h Q := wp_go hc rfl
theorem wp_i2l (hc : tb_cod y pc = some (.i2l, 1)) : mm_wp d y pc ls (.int x :: r) h Q ↔ mm_wp d y (pc + 1) ls (.long x.toInt64 :: r) h Q := wp_go hc rfl
theorem wp_l2i (hc : tb_cod y pc = some (.l2i, 1)) : mm_wp d y pc ls (.long w :: r) h Q ↔ mm_wp d y (pc + 1) ls (.int w.toInt32 :: r) h Q := wp_go hc rfl
theorem wp_lcmp (hc : tb_cod y pc = some (.lcmp, 1)) : mm_wp d y pc ls (.long w2 :: .long w :: r) h Q ↔ mm_wp d y (pc + 1) ls (.int (if w2 < w then 1 else if w = w2 then 0 else -1) :: r) h Q := wp_go hc rfl
theorem wp_dupI (hc : tb_cod y pc = some (.dup, 1)) : mm_wp d y pc ls (.int x :: r) h Q ↔ mm_wp d y (pc + 1) ls (.int x :: .int x :: r) h Q := wp_go hc rfl
theorem wp_dupR (hc : tb_cod y pc = some (.dup, 1)) : mm_wp d y pc ls (.ref a :: r) h Q ↔ mm_wp d y (pc + 1) ls (.ref a :: .ref a :: r) h Q := wp_go hc rfl
theorem wp_popI (hc : tb_cod y pc = some (.pop, 1)) : mm_wp d y pc ls (.int x :: r) h Q ↔ mm_wp d y (pc + 1) ls r h Q := wp_go hc rfl
theorem wp_popR (hc : tb_cod y pc = some (.pop, 1)) : mm_wp d y pc ls (.ref a :: r) h Q ↔ mm_wp d y (pc + 1) ls r h Q := wp_go hc rfl
theorem wp_dup2 (hc : tb_cod y pc = some (.dup2, 1)) : mm_wp d y pc ls (.int x :: .ref a :: r) h Q ↔ mm_wp d y (pc + 1) ls (.int x :: .ref a :: .int x :: .ref a :: r) h Q := wp_go hc rfl
theorem wp_ifeq (hc : tb_cod y pc = some (.ifCond .eq off, 3)) (ht : mm_t pc off = t) : mm_wp d y pc ls (.int x :: r) h Q ↔ if x = 0 then mm_wp d y t ls r h Q else mm_wp d y (pc + 3) ls r h Q := by subst ht; exact wp_brc hc rfl rfl
theorem wp_ifne (hc : tb_cod y pc = some (.ifCond .ne off, 3)) (ht : mm_t pc off = t) : mm_wp d y pc ls (.int x :: r) h Q ↔ if x = 0 then mm_wp d y (pc + 3) ls r h Q else mm_wp d y t ls r h Q := by
  subst ht
  rw [wp_brc (P := ¬ x = 0) hc rfl rfl]
  by_cases hx : x = 0 <;> simp [hx]
theorem wp_iflt (hc : tb_cod y pc = some (.ifCond .lt off, 3)) (ht : mm_t pc off = t) : mm_wp d y pc ls (.int x :: r) h Q ↔ if x < 0 then mm_wp d y t ls r h Q else mm_wp d y (pc + 3) ls r h Q := by subst ht; exact wp_brc hc rfl rfl
theorem wp_ifge (hc : tb_cod y pc = some (.ifCond .ge off, 3)) (ht : mm_t pc off = t) : mm_wp d y pc ls (.int x :: r) h Q ↔ if 0 ≤ x then mm_wp d y t ls r h Q else mm_wp d y (pc + 3) ls r h Q := by subst ht; exact wp_brc hc rfl rfl
theorem wp_ifgt (hc : tb_cod y pc = some (.ifCond .gt off, 3)) (ht : mm_t pc off = t) : mm_wp d y pc ls (.int x :: r) h Q ↔ if 0 < x then mm_wp d y t ls r h Q else mm_wp d y (pc + 3) ls r h Q := by subst ht; exact wp_brc hc rfl rfl
theorem wp_ifle (hc : tb_cod y pc = some (.ifCond .le off, 3)) (ht : mm_t pc off = t) : mm_wp d y pc ls (.int x :: r) h Q ↔ if x ≤ 0 then mm_wp d y t ls r h Q else mm_wp d y (pc + 3) ls r h Q := by subst ht; exact wp_brc hc rfl rfl
theorem wp_icmpeq (hc : tb_cod y pc = some (.if_icmp .eq off, 3)) (ht : mm_t pc off = t) : mm_wp d y pc ls (.int x2 :: .int x :: r) h Q ↔ if x = x2 then mm_wp d y t ls r h Q else mm_wp d y (pc + 3) ls r h Q := by subst ht; exact wp_brc hc rfl rfl
theorem wp_icmpne (hc : tb_cod y pc = some (.if_icmp .ne off, 3)) (ht : mm_t pc off = t) : mm_wp d y pc ls (.int x2 :: .int x :: r) h Q ↔ if x = x2 then mm_wp d y (pc + 3) ls r h Q else mm_wp d y t ls r h Q := by
  subst ht
  rw [wp_brc (P := ¬ x = x2) hc rfl rfl]
  by_cases hx : x = x2 <;> simp [hx]
theorem wp_icmplt (hc : tb_cod y pc = some (.if_icmp .lt off, 3)) (ht : mm_t pc off = t) : mm_wp d y pc ls (.int x2 :: .int x :: r) h Q ↔ if x < x2 then mm_wp d y t ls r h Q else mm_wp d y (pc + 3) ls r h Q := by subst ht; exact wp_brc hc rfl rfl
theorem wp_icmpge (hc : tb_cod y pc = some (.if_icmp .ge off, 3)) (ht : mm_t pc off = t) : mm_wp d y pc ls (.int x2 :: .int x :: r) h Q ↔ if x2 ≤ x then mm_wp d y t ls r h Q else mm_wp d y (pc + 3) ls r h Q := by subst ht; exact wp_brc hc rfl rfl
theorem wp_icmpgt (hc : tb_cod y pc = some (.if_icmp .gt off, 3)) (ht : mm_t pc off = t) : mm_wp d y pc ls (.int x2 :: .int x :: r) h Q ↔ if x2 < x then mm_wp d y t ls r h Q else mm_wp d y (pc + 3) ls r h Q := by subst ht; exact wp_brc hc rfl rfl
theorem wp_icmple (hc : tb_cod y pc = some (.if_icmp .le off, 3)) (ht : mm_t pc off = t) : mm_wp d y pc ls (.int x2 :: .int x :: r) h Q ↔ if x ≤ x2 then mm_wp d y t ls r h Q else mm_wp d y (pc + 3) ls r h Q := by subst ht; exact wp_brc hc rfl rfl
theorem wp_ifnull (hc : tb_cod y pc = some (.ifnull off, 3)) (ht : mm_t pc off = t) (o : Option Nat) : mm_wp d y pc ls (mm_o o :: r) h Q ↔ if o = none then mm_wp d y t ls r h Q else mm_wp d y (pc + 3) ls r h Q := by
  subst ht
  cases o
  · exact wp_go hc rfl
  · exact wp_go hc rfl
theorem wp_ifnonnull (hc : tb_cod y pc = some (.ifnonnull off, 3)) (ht : mm_t pc off = t) (o : Option Nat) : mm_wp d y pc ls (mm_o o :: r) h Q ↔ if o = none then mm_wp d y (pc + 3) ls r h Q else mm_wp d y t ls r h Q := by
  subst ht
  cases o
  · exact wp_go hc rfl
  · exact wp_go hc rfl
theorem wp_goto (hc : tb_cod y pc = some (.goto off, 3)) (ht : mm_t pc off = t) : mm_wp d y pc ls st h Q ↔ mm_wp d y t ls st h Q := by subst ht; exact wp_go hc rfl
theorem wp_tabOut {dd lo hi : Int} {offs : Array Int} (hc : tb_cod y pc = some (.tableswitch dd lo hi offs, len)) (hx : x.toInt < lo ∨ hi < x.toInt) (ht : mm_t pc dd = t) : mm_wp d y pc ls (.int x :: r) h Q ↔ mm_wp d y t ls r h Q := by
  subst ht
  exact wp_go hc (by simp only [mm_act]; rw [if_pos hx])
theorem wp_tabIn {dd lo hi : Int} {offs : Array Int} (hc : tb_cod y pc = some (.tableswitch dd lo hi offs, len)) (hx : ¬ (x.toInt < lo ∨ hi < x.toInt)) (ht : mm_t pc (offs.toList.getD (x.toInt - lo).toNat 0) = t) : mm_wp d y pc ls (.int x :: r) h Q ↔ mm_wp d y t ls r h Q := by
  subst ht
  exact wp_go hc (by simp only [mm_act]; rw [if_neg hx])
theorem wp_getI {ty : Nat} (hc : tb_cod y pc = some (.getfield k, 3)) (hf : tb_fl y k = some (kd, p, ty)) (h1 : ¬ ty = 1) (h2 : ¬ ty = 2) : mm_wp d y pc ls (.ref a :: r) h Q ↔ (mm_s h a).1 = kd ∧ mm_wp d y (pc + 3) ls (.int (mm_i h a p) :: r) h Q := wp_if inferInstance hc (by simp only [mm_act, hf, h1, h2, if_false])
theorem wp_getL (hc : tb_cod y pc = some (.getfield k, 3)) (hf : tb_fl y k = some (kd, p, 1)) : mm_wp d y pc ls (.ref a :: r) h Q ↔ (mm_s h a).1 = kd ∧ mm_wp d y (pc + 3) ls (.long (mm_l h a p) :: r) h Q := wp_if inferInstance hc (by simp only [mm_act, hf, if_true])
theorem wp_getR (hc : tb_cod y pc = some (.getfield k, 3)) (hf : tb_fl y k = some (kd, p, 2)) : mm_wp d y pc ls (.ref a :: r) h Q ↔ (mm_s h a).1 = kd ∧ mm_wp d y (pc + 3) ls (mm_o (mm_r h a p) :: r) h Q := wp_if inferInstance hc (by simp [mm_act, hf])
theorem wp_putI (hc : tb_cod y pc = some (.putfield k, 3)) (hf : tb_fl y k = some (kd, p, 0)) : mm_wp d y pc ls (.int x :: .ref a :: r) h Q ↔ (mm_s h a).1 = kd ∧ mm_wp d y (pc + 3) ls r (mm_pi h a p x) Q := by
  rw [wp_if (c := (mm_s h a).1 = kd ∧ ((0 : Nat) = 0 ∨ (0 : Nat) = 3 ∧ (x = 0 ∨ x = 1))) (pc' := pc + 3) (ls' := ls) (st' := r) (h' := mm_pi h a p x) inferInstance hc (by simp only [mm_act, hf])]
  simp
theorem wp_putZ (hc : tb_cod y pc = some (.putfield k, 3)) (hf : tb_fl y k = some (kd, p, 3)) : mm_wp d y pc ls (.int x :: .ref a :: r) h Q ↔ (mm_s h a).1 = kd ∧ (x = 0 ∨ x = 1) ∧ mm_wp d y (pc + 3) ls r (mm_pi h a p x) Q := by
  rw [wp_if (c := (mm_s h a).1 = kd ∧ ((3 : Nat) = 0 ∨ (3 : Nat) = 3 ∧ (x = 0 ∨ x = 1))) (pc' := pc + 3) (ls' := ls) (st' := r) (h' := mm_pi h a p x) inferInstance hc (by simp only [mm_act, hf])]
  simp [and_assoc]
theorem wp_putL (hc : tb_cod y pc = some (.putfield k, 3)) (hf : tb_fl y k = some (kd, p, 1)) : mm_wp d y pc ls (.long w :: .ref a :: r) h Q ↔ (mm_s h a).1 = kd ∧ mm_wp d y (pc + 3) ls r (mm_pl h a p w) Q := by
  rw [wp_if (c := (mm_s h a).1 = kd ∧ (1 : Nat) = 1) (pc' := pc + 3) (ls' := ls) (st' := r) (h' := mm_pl h a p w) inferInstance hc (by simp only [mm_act, hf])]
  simp
theorem wp_putR (hc : tb_cod y pc = some (.putfield k, 3)) (hf : tb_fl y k = some (kd, p, 2)) : mm_wp d y pc ls (.ref b :: .ref a :: r) h Q ↔ (mm_s h a).1 = kd ∧ mm_wp d y (pc + 3) ls r (mm_pr h a p (some b)) Q := by
  rw [wp_if (c := (mm_s h a).1 = kd ∧ (2 : Nat) = 2) (pc' := pc + 3) (ls' := ls) (st' := r) (h' := mm_pr h a p (some b)) inferInstance hc (by simp only [mm_act, hf])]
  simp
theorem mm_inI {j : Int32} {n : Nat} : mm_in j n = true ↔ 0 ≤ j.toInt ∧ j.toInt < n := by
  simp only [mm_in, Bool.and_eq_true, decide_eq_true_eq, Int32.le_iff_toInt_le]
  have h0 : (0 : Int32).toInt = 0 := rfl
  rw [h0]
  constructor
  · rintro ⟨h1, h2⟩
    refine ⟨h1, ?_⟩
    have : j.toNatClampNeg = j.toInt.toNat := rfl
    omega
  · rintro ⟨h1, h2⟩
    refine ⟨h1, ?_⟩
    have : j.toNatClampNeg = j.toInt.toNat := rfl
    omega
theorem wp_iaload (hc : tb_cod y pc = some (.iaload, 1)) : mm_wp d y pc ls (.int x :: .ref a :: r) h Q ↔ ((mm_s h a).1 = 20 ∧ mm_in x (mm_s h a).2 = true) ∧ mm_wp d y (pc + 1) ls (.int (mm_i h a x.toNatClampNeg) :: r) h Q := wp_if _ hc rfl
theorem wp_laload (hc : tb_cod y pc = some (.laload, 1)) : mm_wp d y pc ls (.int x :: .ref a :: r) h Q ↔ ((mm_s h a).1 = 21 ∧ mm_in x (mm_s h a).2 = true) ∧ mm_wp d y (pc + 1) ls (.long (mm_l h a x.toNatClampNeg) :: r) h Q := wp_if _ hc rfl
theorem wp_baload (hc : tb_cod y pc = some (.baload, 1)) : mm_wp d y pc ls (.int x :: .ref a :: r) h Q ↔ ((mm_s h a).1 = 22 ∧ mm_in x (mm_s h a).2 = true) ∧ mm_wp d y (pc + 1) ls (.int (mm_i h a x.toNatClampNeg) :: r) h Q := wp_if _ hc rfl
theorem wp_aaload (hc : tb_cod y pc = some (.aaload, 1)) : mm_wp d y pc ls (.int x :: .ref a :: r) h Q ↔ (23 ≤ (mm_s h a).1 ∧ (mm_s h a).1 ≤ 26 ∧ mm_in x (mm_s h a).2 = true) ∧ mm_wp d y (pc + 1) ls (mm_o (mm_r h a x.toNatClampNeg) :: r) h Q := wp_if _ hc rfl
theorem wp_iastore (hc : tb_cod y pc = some (.iastore, 1)) : mm_wp d y pc ls (.int x2 :: .int x :: .ref a :: r) h Q ↔ ((mm_s h a).1 = 20 ∧ ¬ a = 0 ∧ mm_in x (mm_s h a).2 = true) ∧ mm_wp d y (pc + 1) ls r (mm_pi h a x.toNatClampNeg x2) Q := wp_if _ hc rfl
theorem wp_lastore (hc : tb_cod y pc = some (.lastore, 1)) : mm_wp d y pc ls (.long w :: .int x :: .ref a :: r) h Q ↔ ((mm_s h a).1 = 21 ∧ mm_in x (mm_s h a).2 = true) ∧ mm_wp d y (pc + 1) ls r (mm_pl h a x.toNatClampNeg w) Q := wp_if _ hc rfl
theorem wp_bastore (hc : tb_cod y pc = some (.bastore, 1)) : mm_wp d y pc ls (.int x2 :: .int x :: .ref a :: r) h Q ↔ ((mm_s h a).1 = 22 ∧ (x2 = 0 ∨ x2 = 1) ∧ mm_in x (mm_s h a).2 = true) ∧ mm_wp d y (pc + 1) ls r (mm_pi h a x.toNatClampNeg x2) Q := wp_if _ hc rfl
theorem wp_aastore (hc : tb_cod y pc = some (.aastore, 1)) : mm_wp d y pc ls (.ref b :: .int x :: .ref a :: r) h Q ↔ (((mm_s h a).1 = 23 ∧ (mm_s h b).1 = 5 ∨ (mm_s h a).1 = 24 ∧ (mm_s h b).1 = 6 ∨ (mm_s h a).1 = 25 ∧ (mm_s h b).1 = 4) ∧ mm_in x (mm_s h a).2 = true) ∧ mm_wp d y (pc + 1) ls r (mm_pr h a x.toNatClampNeg (some b)) Q := wp_if _ hc rfl
theorem wp_alen (hc : tb_cod y pc = some (.arraylength, 1)) : mm_wp d y pc ls (.ref a :: r) h Q ↔ (20 ≤ (mm_s h a).1 ∧ (mm_s h a).1 ≤ 26) ∧ mm_wp d y (pc + 1) ls (.int (nI (mm_s h a).2) :: r) h Q := wp_if _ hc rfl
theorem wp_new {sl : Nat} (hc : tb_cod y pc = some (.new k, 3)) (hk : tb_ck y k = some kd) (hs : tb_sl kd = sl) (h26 : (kd == 26) = false) : mm_wp d y pc ls st h Q ↔ mm_wp d y (pc + 3) ls (.ref (mm_n h) :: st) (mm_nw h kd sl sl) Q := by subst hs; exact wp_go hc (by simp only [mm_act, hk, mm_if, if_pos (show kd ≠ 26 from fun q => by subst q; cases h26)])
theorem wp_newI (hc : tb_cod y pc = some (.newarray .int, 2)) : mm_wp d y pc ls (.int x :: r) h Q ↔ (0 ≤ x ∧ x ≤ 1000) ∧ mm_wp d y (pc + 2) ls (.ref (mm_n h) :: r) (mm_nw h 20 x.toNatClampNeg x.toNatClampNeg) Q := by
  rw [wp_if (c := 0 ≤ x ∧ x ≤ 1000 ∧ (ClassFile.ArrayType.int = .int ∨ ClassFile.ArrayType.int = .long ∨ ClassFile.ArrayType.int = .boolean)) inferInstance hc rfl]
  simp
theorem wp_newL (hc : tb_cod y pc = some (.newarray .long, 2)) : mm_wp d y pc ls (.int x :: r) h Q ↔ (0 ≤ x ∧ x ≤ 1000) ∧ mm_wp d y (pc + 2) ls (.ref (mm_n h) :: r) (mm_nw h 21 x.toNatClampNeg x.toNatClampNeg) Q := by
  rw [wp_if (c := 0 ≤ x ∧ x ≤ 1000 ∧ (ClassFile.ArrayType.long = .int ∨ ClassFile.ArrayType.long = .long ∨ ClassFile.ArrayType.long = .boolean)) inferInstance hc rfl]
  simp
theorem wp_newZ (hc : tb_cod y pc = some (.newarray .boolean, 2)) : mm_wp d y pc ls (.int x :: r) h Q ↔ (0 ≤ x ∧ x ≤ 1000) ∧ mm_wp d y (pc + 2) ls (.ref (mm_n h) :: r) (mm_nw h 22 x.toNatClampNeg x.toNatClampNeg) Q := by
  rw [wp_if (c := 0 ≤ x ∧ x ≤ 1000 ∧ (ClassFile.ArrayType.boolean = .int ∨ ClassFile.ArrayType.boolean = .long ∨ ClassFile.ArrayType.boolean = .boolean)) inferInstance hc rfl]
  simp
theorem wp_newA {ka : Nat} (hc : tb_cod y pc = some (.anewarray k, 3)) (hk : tb_ck y k = some kd) (hd : kd = 5 ∧ ka = 23 ∨ kd = 6 ∧ ka = 24 ∨ kd = 4 ∧ ka = 25) : mm_wp d y pc ls (.int x :: r) h Q ↔ (0 ≤ x ∧ x ≤ 1000) ∧ mm_wp d y (pc + 3) ls (.ref (mm_n h) :: r) (mm_nw h ka x.toNatClampNeg x.toNatClampNeg) Q := by
  rw [wp_if (c := 0 ≤ x ∧ x ≤ 1000 ∧ (kd = 5 ∨ kd = 6 ∨ kd = 4)) inferInstance hc (by simp only [mm_act, hk]; rfl)]
  rcases hd with ⟨rfl, rfl⟩ | ⟨rfl, rfl⟩ | ⟨rfl, rfl⟩ <;> simp
theorem wp_newM (hc : tb_cod y pc = some (.multianewarray k 2, 4)) (hk : tb_ck y k = some 26) : mm_wp d y pc ls (.int x2 :: .int x :: r) h Q ↔ (0 ≤ x ∧ x ≤ 1000 ∧ 0 ≤ x2 ∧ x2 ≤ 1000) ∧ mm_wp d y (pc + 4) ls (.ref (mm_n h) :: r) (mm_nw2 h 26 20 x.toNatClampNeg x2.toNatClampNeg) Q := by
  rw [wp_if (c := 0 ≤ x ∧ x ≤ 1000 ∧ 0 ≤ x2 ∧ x2 ≤ 1000 ∧ 2 = 2 ∧ 26 = 26) inferInstance hc (by simp only [mm_act, hk]; rfl)]
  simp
theorem wp_iret (hc : tb_cod y pc = some (.ireturn, 1)) (ht : tb_rt y = 1) : mm_wp d y pc ls (.int x :: r) h Q ↔ Q (.inl (some (.int x))) h := by
  rw [wp_retif (c := tb_rt y = 1 ∨ tb_rt y = 3 ∧ (x = 0 ∨ x = 1)) inferInstance hc rfl]
  simp [ht]
theorem wp_zret (hc : tb_cod y pc = some (.ireturn, 1)) (ht : tb_rt y = 3) : mm_wp d y pc ls (.int x :: r) h Q ↔ (x = 0 ∨ x = 1) ∧ Q (.inl (some (.int x))) h := by
  rw [wp_retif (c := tb_rt y = 1 ∨ tb_rt y = 3 ∧ (x = 0 ∨ x = 1)) inferInstance hc rfl]
  simp [ht]
theorem wp_lret (hc : tb_cod y pc = some (.lreturn, 1)) (ht : tb_rt y = 2) : mm_wp d y pc ls (.long w :: r) h Q ↔ Q (.inl (some (.long w))) h := by
  rw [wp_retif (c := tb_rt y = 2) inferInstance hc rfl]
  simp [ht]
theorem wp_aret (hc : tb_cod y pc = some (.areturn, 1)) (ht : tb_rt y = 4) (o : Option Nat) : mm_wp d y pc ls (mm_o o :: r) h Q ↔ Q (.inl (some (mm_o o))) h := by
  cases o
  · rw [wp_retif (c := tb_rt y = 4) inferInstance hc rfl]
    simp [ht, mm_o]
  · rw [wp_retif (c := tb_rt y = 4) inferInstance hc rfl]
    simp [ht, mm_o]
theorem wp_vret (hc : tb_cod y pc = some (.return_, 1)) (ht : tb_rt y = 0) : mm_wp d y pc ls st h Q ↔ Q (.inl none) h := by
  rw [wp_retif (c := tb_rt y = 0) inferInstance hc rfl]
  simp [ht]
theorem wp_athrow (hc : tb_cod y pc = some (.athrow, 1)) (hh : tb_han.getD y [] = []) : mm_wp d y pc ls (.ref a :: r) h Q ↔ 30 ≤ (mm_s h a).1 ∧ Q (.inr a) h := wp_thr hc rfl hh
theorem wp_objInit (hc : tb_cod y pc = some (.invokespecial k, 3)) (hk : tb_ca y k = some 1000) (hr : r.length ≤ 8) : mm_wp d y pc ls (.ref a :: r) h Q ↔ mm_wp d y (pc + 3) ls r h Q := wp_go hc (by simp only [mm_act, hk, if_true, mm_if, hr])
theorem wp_excInit {q : UInt32} (hc : tb_cod y pc = some (.invokespecial k, 3)) (hk : tb_ca y k = some z) (hz : 1000 < z) (hkd : z - 971 = kd) (hr : r.length ≤ 8) : mm_wp d y pc ls (.float q :: .ref a :: r) h Q ↔ (mm_s h a).1 = kd ∧ mm_wp d y (pc + 3) ls r h Q := by
  subst hkd
  rw [wp_if (c := (mm_s h a).1 = z - 971 ∧ r.length ≤ 8) (pc' := pc + 3) (ls' := ls) (st' := r) (h' := h) inferInstance hc (by simp only [mm_act, hk, if_neg (show ¬ z = 1000 by omega), if_pos hz])]
  simp [hr]
theorem wp_static {as rest env : List Value} (hc : tb_cod y pc = some (.invokestatic k, 3)) (hk : tb_ca y k = some z) (hz : z < 1000 ∧ tb_sta z = true) (h1 : tb_na z ≤ st.length ∧ st.length ≤ tb_na z + 8) (ha : (st.take (tb_na z)).reverse = as) (hr : st.drop (tb_na z) = rest) (he : mm_ent z as = env) (hok : mm_eok z env = true) : mm_wp (d + 1) y pc ls st h Q ↔ mm_wp d z 0 env [] h (mm_bk (d + 1) y pc ls rest Q) := by
  subst he; subst ha; subst hr
  exact wp_call hc (by simp only [mm_act, hk, mm_if, if_pos hz, mm_call, if_pos (And.intro h1 hok)])
theorem wp_special {as rest env : List Value} (hc : tb_cod y pc = some (.invokespecial k, 3)) (hk : tb_ca y k = some z) (hz : z < 1000 ∧ tb_sta z = false) (h1 : tb_na z ≤ st.length ∧ st.length ≤ tb_na z + 8) (hv : st[tb_na z - 1]? = some (.ref a)) (ha : (st.take (tb_na z)).reverse = as) (hr : st.drop (tb_na z) = rest) (he : mm_ent z as = env) (hok : mm_eok z env = true) : mm_wp (d + 1) y pc ls st h Q ↔ mm_wp d z 0 env [] h (mm_bk (d + 1) y pc ls rest Q) := by
  subst he; subst ha; subst hr
  exact wp_call hc (by simp only [mm_act, hk, if_neg (show ¬ z = 1000 by omega), if_neg (show ¬ 1000 < z by omega), mm_if, hz.2, if_true, mm_callI, hv, mm_call, if_pos (And.intro h1 hok)])
theorem wp_virtual {as rest env : List Value} (hc : tb_cod y pc = some (.invokevirtual k, 3)) (hk : tb_ca y k = some z) (hz : z < 1000 ∧ tb_sta z = false) (h1 : tb_na z ≤ st.length ∧ st.length ≤ tb_na z + 8) (hv : st[tb_na z - 1]? = some (.ref a)) (ha : (st.take (tb_na z)).reverse = as) (hr : st.drop (tb_na z) = rest) (he : mm_ent z as = env) (hok : mm_eok z env = true) (hkd : tb_cls z = kd) : mm_wp (d + 1) y pc ls st h Q ↔ (mm_s h a).1 = kd ∧ mm_wp d z 0 env [] h (mm_bk (d + 1) y pc ls rest Q) := by
  subst he; subst ha; subst hr; subst hkd
  exact wp_callif inferInstance hc (by simp only [mm_act, hk, mm_callV, hv, mm_call]; simp only [mm_if, if_pos hz, if_pos (And.intro h1 hok)])
end
