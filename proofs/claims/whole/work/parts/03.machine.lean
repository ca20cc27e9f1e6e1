/-! THE MODEL MACHINE: a small definitional interpreter of the program's bytecode over a typed heap. Part 04 on: what it does, the JVM does. -/
abbrev mm_H : Type := (Nat × Nat) × (Nat → Nat × Nat) × (Nat → Nat → Int32) × (Nat → Nat → Int64) × (Nat → Nat → Option Nat)
/-- cells and slots made; shapes (kind, length); ints, longs, references of a cell by their places -/
def mm_n (h : mm_H) : Nat := h.1.1
def mm_z (h : mm_H) : Nat := h.1.2
def mm_s (h : mm_H) (a : Nat) : Nat × Nat := h.2.1 a
def mm_i (h : mm_H) (a k : Nat) : Int32 := h.2.2.1 a k
def mm_l (h : mm_H) (a k : Nat) : Int64 := h.2.2.2.1 a k
def mm_r (h : mm_H) (a k : Nat) : Option Nat := h.2.2.2.2 a k
def mm_up {α : Type} (f : Nat → Nat → α) (a k : Nat) (v : α) : Nat → Nat → α := fun b j => if b = a ∧ j = k then v else f b j
def mm_pi (h : mm_H) (a k : Nat) (v : Int32) : mm_H := (h.1, h.2.1, mm_up h.2.2.1 a k v, h.2.2.2.1, h.2.2.2.2)
def mm_pl (h : mm_H) (a k : Nat) (v : Int64) : mm_H := (h.1, h.2.1, h.2.2.1, mm_up h.2.2.2.1 a k v, h.2.2.2.2)
def mm_pr (h : mm_H) (a k : Nat) (v : Option Nat) : mm_H := (h.1, h.2.1, h.2.2.1, h.2.2.2.1, mm_up h.2.2.2.2 a k v)
def mm_nw (h : mm_H) (kd len sl : Nat) : mm_H := ((h.1.1 + 1, h.1.2 + sl), (fun b => if b = h.1.1 then (kd, len) else h.2.1 b), (fun b j => if b = h.1.1 then 0 else h.2.2.1 b j), (fun b j => if b = h.1.1 then 0 else h.2.2.2.1 b j), (fun b j => if b = h.1.1 then none else h.2.2.2.2 b j))
/-- an array of n int arrays of length k: the outer one, then the inner ones -/
def mm_nw2 (h : mm_H) (kd kd2 n k : Nat) : mm_H := ((h.1.1 + 1 + n, h.1.2 + n + n * k), (fun b => if b = h.1.1 then (kd, n) else if h.1.1 < b ∧ b ≤ h.1.1 + n then (kd2, k) else h.2.1 b), (fun b j => if h.1.1 ≤ b ∧ b ≤ h.1.1 + n then 0 else h.2.2.1 b j), (fun b j => if h.1.1 ≤ b ∧ b ≤ h.1.1 + n then 0 else h.2.2.2.1 b j), (fun b j => if b = h.1.1 then (if j < n then some (h.1.1 + 1 + j) else none) else if h.1.1 ≤ b ∧ b ≤ h.1.1 + n then none else h.2.2.2.2 b j))
def mm_o : Option Nat → Value
  | none => .null
  | some a => .ref a
/-- what stands behind a long, and in variables that hold nothing yet -/
def mm_j : Value := .retAddr 0
theorem mm_o_some (a : Nat) : mm_o (some a) = .ref a := rfl
theorem mm_o_none : mm_o none = .null := rfl
-- reading behind a write
theorem mm_i_pi (h : mm_H) (a k : Nat) (v : Int32) (b j : Nat) : mm_i (mm_pi h a k v) b j = if b = a ∧ j = k then v else mm_i h b j := rfl
theorem mm_i_pl (h : mm_H) (a k : Nat) (v : Int64) : mm_i (mm_pl h a k v) = mm_i h := rfl
theorem mm_i_pr (h : mm_H) (a k : Nat) (v : Option Nat) : mm_i (mm_pr h a k v) = mm_i h := rfl
theorem mm_l_pl (h : mm_H) (a k : Nat) (v : Int64) (b j : Nat) : mm_l (mm_pl h a k v) b j = if b = a ∧ j = k then v else mm_l h b j := rfl
theorem mm_l_pi (h : mm_H) (a k : Nat) (v : Int32) : mm_l (mm_pi h a k v) = mm_l h := rfl
theorem mm_l_pr (h : mm_H) (a k : Nat) (v : Option Nat) : mm_l (mm_pr h a k v) = mm_l h := rfl
theorem mm_r_pr (h : mm_H) (a k : Nat) (v : Option Nat) (b j : Nat) : mm_r (mm_pr h a k v) b j = if b = a ∧ j = k then v else mm_r h b j := rfl
theorem mm_r_pi (h : mm_H) (a k : Nat) (v : Int32) : mm_r (mm_pi h a k v) = mm_r h := rfl
theorem mm_r_pl (h : mm_H) (a k : Nat) (v : Int64) : mm_r (mm_pl h a k v) = mm_r h := rfl
theorem mm_s_pi (h : mm_H) (a k : Nat) (v : Int32) : mm_s (mm_pi h a k v) = mm_s h := rfl
theorem mm_s_pl (h : mm_H) (a k : Nat) (v : Int64) : mm_s (mm_pl h a k v) = mm_s h := rfl
theorem mm_s_pr (h : mm_H) (a k : Nat) (v : Option Nat) : mm_s (mm_pr h a k v) = mm_s h := rfl
theorem mm_n_pi (h : mm_H) (a k : Nat) (v : Int32) : mm_n (mm_pi h a k v) = mm_n h := rfl
theorem mm_n_pl (h : mm_H) (a k : Nat) (v : Int64) : mm_n (mm_pl h a k v) = mm_n h := rfl
theorem mm_n_pr (h : mm_H) (a k : Nat) (v : Option Nat) : mm_n (mm_pr h a k v) = mm_n h := rfl
theorem mm_z_pi (h : mm_H) (a k : Nat) (v : Int32) : mm_z (mm_pi h a k v) = mm_z h := rfl
theorem mm_z_pl (h : mm_H) (a k : Nat) (v : Int64) : mm_z (mm_pl h a k v) = mm_z h := rfl
theorem mm_z_pr (h : mm_H) (a k : Nat) (v : Option Nat) : mm_z (mm_pr h a k v) = mm_z h := rfl
theorem mm_n_nw (h : mm_H) (kd len sl : Nat) : mm_n (mm_nw h kd len sl) = mm_n h + 1 := rfl
theorem mm_z_nw (h : mm_H) (kd len sl : Nat) : mm_z (mm_nw h kd len sl) = mm_z h + sl := rfl
theorem mm_s_nw (h : mm_H) (kd len sl b : Nat) : mm_s (mm_nw h kd len sl) b = if b = mm_n h then (kd, len) else mm_s h b := rfl
theorem mm_i_nw (h : mm_H) (kd len sl b j : Nat) : mm_i (mm_nw h kd len sl) b j = if b = mm_n h then 0 else mm_i h b j := rfl
theorem mm_l_nw (h : mm_H) (kd len sl b j : Nat) : mm_l (mm_nw h kd len sl) b j = if b = mm_n h then 0 else mm_l h b j := rfl
theorem mm_r_nw (h : mm_H) (kd len sl b j : Nat) : mm_r (mm_nw h kd len sl) b j = if b = mm_n h then none else mm_r h b j := rfl
/-! tables, read -/
def tb_cod (y pc : Nat) : Option (ClassFile.Instr × Nat) := ((tb_ins.getD y []).getD (pc / 64) []).lookup pc
def tb_dm : Nat × String × String × Nat × Nat × Nat × Bool := (0, "", "", 0, 0, 0, false)
def tb_cls (y : Nat) : Nat := (tb_met.getD y tb_dm).1
def tb_nL (y : Nat) : Nat := (tb_met.getD y tb_dm).2.2.2.1
def tb_rt (y : Nat) : Nat := (tb_met.getD y tb_dm).2.2.2.2.1
def tb_na (y : Nat) : Nat := (tb_met.getD y tb_dm).2.2.2.2.2.1
def tb_sta (y : Nat) : Bool := (tb_met.getD y tb_dm).2.2.2.2.2.2
def tb_fl (y idx : Nat) : Option (Nat × Nat × Nat) := (tb_fld.lookup (tb_cls y, idx)).map (·.1)
def tb_ca (y idx : Nat) : Option Nat := (tb_cal.lookup (tb_cls y, idx)).map (·.1)
def tb_ck (y idx : Nat) : Option Nat := (tb_cla.lookup (tb_cls y, idx)).map (·.1)
def tb_sl (kd : Nat) : Nat := ((tb_slt.lookup kd).map (·.1)).getD 0
def tb_ci (y idx : Nat) : Option Int32 := (tb_int.lookup (tb_cls y, idx)).map (·.1)
def tb_cl2 (y idx : Nat) : Option Int64 := (tb_lon.lookup (tb_cls y, idx)).map (·.1)
def tb_cs (y idx : Nat) : Option Nat := tb_str.findIdx? (fun q => q.1 == (tb_cls y, idx))
/-- the handler of a throw at pc -/
def mm_hnd (y pc kd : Nat) : Option Nat := ((tb_han.getD y []).find? (fun q => decide (q.1 ≤ pc) && (decide (pc < q.2.1) && decide (q.2.2.2.1 = kd)))).map (·.2.2.1)
/-- no handler of the method covers pc -/
def mm_ncv (y pc : Nat) : Bool := (tb_han.getD y []).all (fun q => !(decide (q.1 ≤ pc) && decide (pc < q.2.1)))
/-- a variable set: never just behind a long -/
def mm_set (y : Nat) (ls : List Value) (i : Nat) (v : Value) : Option (List Value) :=
  if (tb_lng.getD y []).any (fun j => j + 1 == i) then
    match ls[i - 1]? with
    | some (.int _) => some (ls.set i v)
    | some (.ref _) => some (ls.set i v)
    | _ => none
  else some (ls.set i v)
def mm_set2 (y : Nat) (ls : List Value) (i : Nat) (v : Value) : Option (List Value) :=
  if (tb_lng.getD y []).any (fun j => j == i) then
    if (tb_lng.getD y []).any (fun j => j + 1 == i) then none else some ((ls.set i v).set (i + 1) mm_j)
  else none
/-- arguments as they lie in the callee's variables -/
def mm_x : List Value → List Value
  | [] => []
  | v :: r => if v.category = 2 then v :: mm_j :: mm_x r else v :: mm_x r
def mm_ent (z : Nat) (as : List Value) : List Value := mm_x as ++ List.replicate (tb_nL z - (mm_x as).length) mm_j
/-- longs lie where the method has longs -/
def mm_e2 (lng : List Nat) : Nat → List Value → Bool
  | _, [] => true
  | i, v :: r => (v.category != 2 || lng.contains i) && mm_e2 lng (i + 1) r
def mm_eok (z : Nat) (env : List Value) : Bool := (env.length == tb_nL z) && mm_e2 (tb_lng.getD z []) 0 env
def mm_t (pc : Nat) (off : Int) : Nat := ((pc : Int) + off).toNat
def mm_c (c : ClassFile.Cond) (a b : Int32) : Bool := match c with
  | .eq => decide (a = b)
  | .ne => decide (¬ a = b)
  | .lt => decide (a < b)
  | .ge => decide (b ≤ a)
  | .gt => decide (b < a)
  | .le => decide (a ≤ b)
/-- a place in an array, looked at -/
def mm_in (j : Int32) (n : Nat) : Bool := decide (0 ≤ j) && decide (j.toNatClampNeg < n)
/-- go on there; call; return; throw -/
abbrev mm_A : Type := (Nat × List Value × List Value × mm_H) ⊕ ((Nat × List Value × List Value) ⊕ (Option Value ⊕ Nat))
def mm_go (pc : Nat) (ls st : List Value) (h : mm_H) : Option mm_A := some (.inl (pc, ls, st, h))
def mm_if (c : Prop) [Decidable c] (x : Option mm_A) : Option mm_A := if c then x else none
/-- a call: its arguments off the stack -/
def mm_call (z : Nat) (st : List Value) (h : mm_H) : Option mm_A :=
  mm_if ((tb_na z ≤ st.length ∧ st.length ≤ tb_na z + 8) ∧ mm_eok z (mm_ent z (st.take (tb_na z)).reverse) = true) (some (.inr (.inl (z, (st.take (tb_na z)).reverse, st.drop (tb_na z)))))
def mm_callV (z : Nat) (st : List Value) (h : mm_H) : Option mm_A :=
  match st[tb_na z - 1]? with
  | some (.ref a) => mm_if ((mm_s h a).1 = tb_cls z) (mm_call z st h)
  | _ => none
def mm_callI (z : Nat) (st : List Value) (h : mm_H) : Option mm_A :=
  match st[tb_na z - 1]? with
  | some (.ref _) => mm_call z st h
  | _ => none
def mm_act (y pc : Nat) (i : ClassFile.Instr) (ls st : List Value) (h : mm_H) : Option mm_A := match i with
  | .iconst n => mm_go (pc + 1) ls (.int (Int32.ofInt n) :: st) h
  | .bipush n => mm_go (pc + 2) ls (.int (Int8.ofInt n).toInt32 :: st) h
  | .sipush n => mm_go (pc + 3) ls (.int (Int16.ofInt n).toInt32 :: st) h
  | .lconst n => mm_go (pc + 1) ls (.long (Int64.ofNat (n : Nat)) :: st) h
  | .aconst_null => mm_go (pc + 1) ls (.null :: st) h
  | .ldc k => match tb_ci y k with
    | some v => mm_go (pc + 2) ls (.int v :: st) h
    | none => match tb_cs y k with
      | some q => mm_go (pc + 2) ls (.float (UInt32.ofNat q) :: st) h
      | none => none
  | .ldc2_w k => match tb_cl2 y k with
    | some v => mm_go (pc + 3) ls (.long v :: st) h
    | none => none
  | .iload k => match ls[k]? with
    | some (.int x) => mm_go (pc + 2) ls (.int x :: st) h
    | _ => none
  | .iload_n k => match ls[(k : Nat)]? with
    | some (.int x) => mm_go (pc + 1) ls (.int x :: st) h
    | _ => none
  | .lload k => match ls[k]? with
    | some (.long x) => mm_go (pc + 2) ls (.long x :: st) h
    | _ => none
  | .lload_n k => match ls[(k : Nat)]? with
    | some (.long x) => mm_go (pc + 1) ls (.long x :: st) h
    | _ => none
  | .aload k => match ls[k]? with
    | some (.ref x) => mm_go (pc + 2) ls (.ref x :: st) h
    | some .null => mm_go (pc + 2) ls (.null :: st) h
    | _ => none
  | .aload_n k => match ls[(k : Nat)]? with
    | some (.ref x) => mm_go (pc + 1) ls (.ref x :: st) h
    | some .null => mm_go (pc + 1) ls (.null :: st) h
    | _ => none
  | .istore k => match st with
    | .int x :: r => (mm_set y ls k (.int x)).bind (fun ls' => mm_go (pc + 2) ls' r h)
    | _ => none
  | .istore_n k => match st with
    | .int x :: r => (mm_set y ls k (.int x)).bind (fun ls' => mm_go (pc + 1) ls' r h)
    | _ => none
  | .lstore k => match st with
    | .long x :: r => (mm_set2 y ls k (.long x)).bind (fun ls' => mm_go (pc + 2) ls' r h)
    | _ => none
  | .lstore_n k => match st with
    | .long x :: r => (mm_set2 y ls k (.long x)).bind (fun ls' => mm_go (pc + 1) ls' r h)
    | _ => none
  | .astore k => match st with
    | .ref x :: r => (mm_set y ls k (.ref x)).bind (fun ls' => mm_go (pc + 2) ls' r h)
    | .null :: r => (mm_set y ls k .null).bind (fun ls' => mm_go (pc + 2) ls' r h)
    | _ => none
  | .astore_n k => match st with
    | .ref x :: r => (mm_set y ls k (.ref x)).bind (fun ls' => mm_go (pc + 1) ls' r h)
    | .null :: r => (mm_set y ls k .null).bind (fun ls' => mm_go (pc + 1) ls' r h)
    | _ => none
  | .iinc k n => match ls[k]? with
    | some (.int x) => (mm_set y ls k (.int (x + Int32.ofInt n))).bind (fun ls' => mm_go (pc + 3) ls' st h)
    | _ => none
  | .iadd => match st with
    | .int b :: .int a :: r => mm_go (pc + 1) ls (.int (a + b) :: r) h
    | _ => none
  | .isub => match st with
    | .int b :: .int a :: r => mm_go (pc + 1) ls (.int (a - b) :: r) h
    | _ => none
  | .imul => match st with
    | .int b :: .int a :: r => mm_go (pc + 1) ls (.int (a * b) :: r) h
    | _ => none
  | .iand => match st with
    | .int b :: .int a :: r => mm_go (pc + 1) ls (.int (a &&& b) :: r) h
    | _ => none
  | .idiv => match st with
    | .int b :: .int a :: r => mm_if (¬ b = 0) (mm_go (pc + 1) ls (.int (a / b) :: r) h)
    | _ => none
  | .irem => match st with
    | .int b :: .int a :: r => mm_if (¬ b = 0) (mm_go (pc + 1) ls (.int (a - a / b * b) :: r) h)
    | _ => none
  | .ladd => match st with
    | .long b :: .long a :: r => mm_go (pc + 1) ls (.long (a + b) :: r) h
    | _ => none
  | .lmul => match st with
    | .long b :: .long a :: r => mm_go (pc + 1) ls (.long (a * b) :: r) h
    | _ => none
  | .ldiv => match st with
    | .long b :: .long a :: r => mm_if (¬ b = 0) (mm_go (pc + 1) ls (.long (a / b) :: r) h)
    | _ => none
  | .lrem => match st with
    | .long b :: .long a :: r => mm_if (¬ b = 0) (mm_go (pc + 1) ls (.long (a - a / b * b) :: r) h)
    | _ => none
  | .lneg => match st with
    | .long a :: r => mm_go (pc + 1) ls (.long (-a) :: r) h
    | _ => none
  | .i2l => match st with
    | .int a :: r => mm_go (pc + 1) ls (.long a.toInt64 :: r) h
    | _ => none
  | .l2i => match st with
    | .long a :: r => mm_go (pc + 1) ls (.int a.toInt32 :: r) h
    | _ => none
  | .lcmp => match st with
    | .long b :: .long a :: r => mm_go (pc + 1) ls (.int (if b < a then 1 else if a = b then 0 else -1) :: r) h
    | _ => none
  | .dup => match st with
    | .int a :: r => mm_go (pc + 1) ls (.int a :: .int a :: r) h
    | .ref a :: r => mm_go (pc + 1) ls (.ref a :: .ref a :: r) h
    | _ => none
  | .pop => match st with
    | .int _ :: r => mm_go (pc + 1) ls r h
    | .ref _ :: r => mm_go (pc + 1) ls r h
    | _ => none
  | .dup2 => match st with
    | .int b :: .ref a :: r => mm_go (pc + 1) ls (.int b :: .ref a :: .int b :: .ref a :: r) h
    | _ => none
  | .ifCond c off => match st with
    | .int a :: r => mm_go (if mm_c c a 0 = true then mm_t pc off else pc + 3) ls r h
    | _ => none
  | .if_icmp c off => match st with
    | .int b :: .int a :: r => mm_go (if mm_c c a b = true then mm_t pc off else pc + 3) ls r h
    | _ => none
  | .ifnull off => match st with
    | .null :: r => mm_go (mm_t pc off) ls r h
    | .ref _ :: r => mm_go (pc + 3) ls r h
    | _ => none
  | .ifnonnull off => match st with
    | .null :: r => mm_go (pc + 3) ls r h
    | .ref _ :: r => mm_go (mm_t pc off) ls r h
    | _ => none
  | .goto off => mm_go (mm_t pc off) ls st h
  | .tableswitch d lo hi offs => match st with
    | .int x :: r => mm_go (if x.toInt < lo ∨ hi < x.toInt then mm_t pc d else mm_t pc (offs.toList.getD (x.toInt - lo).toNat 0)) ls r h
    | _ => none
  | .getfield k => match st, tb_fl y k with
    | .ref a :: r, some (kd, p, ty) => mm_if ((mm_s h a).1 = kd) (mm_go (pc + 3) ls ((if ty = 1 then .long (mm_l h a p) else if ty = 2 then mm_o (mm_r h a p) else .int (mm_i h a p)) :: r) h)
    | _, _ => none
  | .putfield k => match st, tb_fl y k with
    | .int v :: .ref a :: r, some (kd, p, ty) => mm_if ((mm_s h a).1 = kd ∧ (ty = 0 ∨ ty = 3 ∧ (v = 0 ∨ v = 1))) (mm_go (pc + 3) ls r (mm_pi h a p v))
    | .long v :: .ref a :: r, some (kd, p, ty) => mm_if ((mm_s h a).1 = kd ∧ ty = 1) (mm_go (pc + 3) ls r (mm_pl h a p v))
    | .ref b :: .ref a :: r, some (kd, p, ty) => mm_if ((mm_s h a).1 = kd ∧ ty = 2) (mm_go (pc + 3) ls r (mm_pr h a p (some b)))
    | _, _ => none
  | .iaload => match st with
    | .int j :: .ref a :: r => mm_if ((mm_s h a).1 = 20 ∧ mm_in j (mm_s h a).2 = true) (mm_go (pc + 1) ls (.int (mm_i h a j.toNatClampNeg) :: r) h)
    | _ => none
  | .laload => match st with
    | .int j :: .ref a :: r => mm_if ((mm_s h a).1 = 21 ∧ mm_in j (mm_s h a).2 = true) (mm_go (pc + 1) ls (.long (mm_l h a j.toNatClampNeg) :: r) h)
    | _ => none
  | .baload => match st with
    | .int j :: .ref a :: r => mm_if ((mm_s h a).1 = 22 ∧ mm_in j (mm_s h a).2 = true) (mm_go (pc + 1) ls (.int (mm_i h a j.toNatClampNeg) :: r) h)
    | _ => none
  | .aaload => match st with
    | .int j :: .ref a :: r => mm_if (23 ≤ (mm_s h a).1 ∧ (mm_s h a).1 ≤ 26 ∧ mm_in j (mm_s h a).2 = true) (mm_go (pc + 1) ls (mm_o (mm_r h a j.toNatClampNeg) :: r) h)
    | _ => none
  | .iastore => match st with
    | .int v :: .int j :: .ref a :: r => mm_if ((mm_s h a).1 = 20 ∧ ¬ a = 0 ∧ mm_in j (mm_s h a).2 = true) (mm_go (pc + 1) ls r (mm_pi h a j.toNatClampNeg v))
    | _ => none
  | .lastore => match st with
    | .long v :: .int j :: .ref a :: r => mm_if ((mm_s h a).1 = 21 ∧ mm_in j (mm_s h a).2 = true) (mm_go (pc + 1) ls r (mm_pl h a j.toNatClampNeg v))
    | _ => none
  | .bastore => match st with
    | .int v :: .int j :: .ref a :: r => mm_if ((mm_s h a).1 = 22 ∧ (v = 0 ∨ v = 1) ∧ mm_in j (mm_s h a).2 = true) (mm_go (pc + 1) ls r (mm_pi h a j.toNatClampNeg v))
    | _ => none
  | .aastore => match st with
    | .ref v :: .int j :: .ref a :: r => mm_if (((mm_s h a).1 = 23 ∧ (mm_s h v).1 = 5 ∨ (mm_s h a).1 = 24 ∧ (mm_s h v).1 = 6 ∨ (mm_s h a).1 = 25 ∧ (mm_s h v).1 = 4) ∧ mm_in j (mm_s h a).2 = true) (mm_go (pc + 1) ls r (mm_pr h a j.toNatClampNeg (some v)))
    | _ => none
  | .arraylength => match st with
    | .ref a :: r => mm_if (20 ≤ (mm_s h a).1 ∧ (mm_s h a).1 ≤ 26) (mm_go (pc + 1) ls (.int (nI (mm_s h a).2) :: r) h)
    | _ => none
  | .new k => match tb_ck y k with
    | some kd => mm_if (kd ≠ 26) (mm_go (pc + 3) ls (.ref (mm_n h) :: st) (mm_nw h kd (tb_sl kd) (tb_sl kd)))
    | none => none
  | .newarray ty => match st with
    | .int n :: r => mm_if (0 ≤ n ∧ n ≤ 1000 ∧ (ty = .int ∨ ty = .long ∨ ty = .boolean)) (mm_go (pc + 2) ls (.ref (mm_n h) :: r) (mm_nw h (if ty = .int then 20 else if ty = .long then 21 else 22) n.toNatClampNeg n.toNatClampNeg))
    | _ => none
  | .anewarray k => match st, tb_ck y k with
    | .int n :: r, some kd => mm_if (0 ≤ n ∧ n ≤ 1000 ∧ (kd = 5 ∨ kd = 6 ∨ kd = 4)) (mm_go (pc + 3) ls (.ref (mm_n h) :: r) (mm_nw h (if kd = 5 then 23 else if kd = 6 then 24 else 25) n.toNatClampNeg n.toNatClampNeg))
    | _, _ => none
  | .multianewarray k d => match st, tb_ck y k with
    | .int m :: .int n :: r, some kd => mm_if (0 ≤ n ∧ n ≤ 1000 ∧ 0 ≤ m ∧ m ≤ 1000 ∧ d = 2 ∧ kd = 26) (mm_go (pc + 4) ls (.ref (mm_n h) :: r) (mm_nw2 h 26 20 n.toNatClampNeg m.toNatClampNeg))
    | _, _ => none
  | .ireturn => match st with
    | .int v :: _ => mm_if (tb_rt y = 1 ∨ tb_rt y = 3 ∧ (v = 0 ∨ v = 1)) (some (.inr (.inr (.inl (some (.int v))))))
    | _ => none
  | .lreturn => match st with
    | .long v :: _ => mm_if (tb_rt y = 2) (some (.inr (.inr (.inl (some (.long v))))))
    | _ => none
  | .areturn => match st with
    | .ref v :: _ => mm_if (tb_rt y = 4) (some (.inr (.inr (.inl (some (.ref v))))))
    | .null :: _ => mm_if (tb_rt y = 4) (some (.inr (.inr (.inl (some .null)))))
    | _ => none
  | .return_ => mm_if (tb_rt y = 0) (some (.inr (.inr (.inl none))))
  | .athrow => match st with
    | .ref a :: _ => mm_if (30 ≤ (mm_s h a).1) (some (.inr (.inr (.inr a))))
    | _ => none
  | .invokestatic k => match tb_ca y k with
    | some z => mm_if (z < 1000 ∧ tb_sta z = true) (mm_call z st h)
    | none => none
  | .invokevirtual k => match tb_ca y k with
    | some z => mm_if (z < 1000 ∧ tb_sta z = false) (mm_callV z st h)
    | none => none
  | .invokespecial k => match tb_ca y k with
    | some z => if z = 1000 then (match st with
        | .ref _ :: r => mm_if (r.length ≤ 8) (mm_go (pc + 3) ls r h)
        | _ => none) else if 1000 < z then (match st with
        | .float _ :: .ref a :: r => mm_if ((mm_s h a).1 = z - 971 ∧ r.length ≤ 8) (mm_go (pc + 3) ls r h)
        | _ => none) else mm_if (tb_sta z = false) (mm_callI z st h)
    | none => none
  | _ => none
/-- fuel, depth, method, pc, variables, stack, heap: what the method comes to (an answer, or an exception's cell), and the heap -/
def mm_run : Nat → Nat → Nat → Nat → List Value → List Value → mm_H → Option ((Option Value ⊕ Nat) × mm_H)
  | 0, _, _, _, _, _, _ => none
  | n + 1, d, y, pc, ls, st, h =>
    match tb_cod y pc with
    | none => none
    | some q =>
      match mm_act y pc q.1 ls st h with
      | none => none
      | some (.inl g) => mm_run n d y g.1 g.2.1 g.2.2.1 g.2.2.2
      | some (.inr (.inl c)) =>
        match d with
        | 0 => none
        | d' + 1 =>
          match mm_run n d' c.1 0 (mm_ent c.1 c.2.1) [] h with
          | none => none
          | some (.inl v, h') => mm_run n (d' + 1) y (pc + 3) ls (v.toList ++ c.2.2) h'
          | some (.inr a, h') =>
            match mm_hnd y pc (mm_s h' a).1 with
            | none => if mm_ncv y pc = true then some (.inr a, h') else none
            | some pc' => mm_run n (d' + 1) y pc' ls [.ref a] h'
      | some (.inr (.inr (.inl v))) => some (.inl v, h)
      | some (.inr (.inr (.inr a))) =>
        match mm_hnd y pc (mm_s h a).1 with
        | none => if mm_ncv y pc = true then some (.inr a, h) else none
        | some pc' => mm_run n d y pc' ls [.ref a] h
