/-! THE MODEL'S HEAP IN THE JVM'S HEAP -/
/-- ((the script's cell, where new cells begin), where texts lie, (classes, slots), the classes of arrays and exceptions) -/
abbrev mm_P : Type := (Nat × Nat) × (Nat → Nat) × va_G × (Nat → ClassId)
def mm_ad (P : mm_P) (a : Nat) : Nat := if a = 0 then P.1.1 else P.1.2 + (a - 1)
def mm_rv (P : mm_P) : Value → Value
  | .ref a => .ref (mm_ad P a)
  | .float q => .ref (P.2.1 q.toNat)
  | .int x => .int x
  | .long x => .long x
  | .double x => .double x
  | .null => .null
  | .retAddr q => .retAddr q
theorem mm_ad_inj {P : mm_P} (hb : P.1.1 < P.1.2) {a b : Nat} (h : mm_ad P a = mm_ad P b) : a = b := by
  unfold mm_ad at h
  split at h <;> split at h <;> omega
theorem mm_rv_cat (P : mm_P) (v : Value) : (mm_rv P v).category = v.category ∨ v.category = 1 ∧ (mm_rv P v).category = 1 := by
  cases v <;> simp [mm_rv, Value.category]
theorem mm_rv_cat2 {P : mm_P} {v : Value} (h : (mm_rv P v).category = 2) : v.category = 2 := by
  cases v <;> simp [mm_rv, Value.category] at h ⊢
theorem mm_rv_cat1 {P : mm_P} {v : Value} (h : v.category = 1) : (mm_rv P v).category = 1 := by
  cases v <;> simp [mm_rv, Value.category] at h ⊢
def mm_aty : Nat → FieldType
  | 20 => .int
  | 21 => .long
  | 22 => .boolean
  | 23 => .object "LoadRoom$Piece"
  | 24 => .object "LoadRoom$Placed"
  | 25 => .object "LoadRoom$Floor"
  | _ => .array .int
def mm_av (P : mm_P) (h : mm_H) (a kd j : Nat) : Value := if kd = 21 then .long (mm_l h a j) else if 23 ≤ kd then mm_rv P (mm_o (mm_r h a j)) else .int (mm_i h a j)
def mm_fv (P : mm_P) (h : mm_H) (a ty k : Nat) : Value := if ty = 1 then .long (mm_l h a k) else if ty = 2 then mm_rv P (mm_o (mm_r h a k)) else .int (mm_i h a k)
def mm_fty (kd k : Nat) : Nat := (tb_ty.getD kd []).getD k 0
def mm_fn (kd : Nat) : Nat := (tb_ty.getD kd []).length
/-- an exception's cell -/
def mm_xc (s : State) (cell : Cell) : Prop := cell.monitor.owner = none ∧ cell.monitor.count = 0 ∧ ∃ k : Class, s.vm.classes[cell.cls]? = some k ∧ k.kind = .ordinary ∧ cell.slots.size = k.instanceTypes.size ∧ ∀ j : Nat, k.instanceTypes[j]? = some (.object "java/lang/Object") → cell.slots[j]? = some .null
def mm_cl (P : mm_P) (s : State) (h : mm_H) (a : Nat) (cell : Cell) : Prop :=
  ((mm_s h a).1 < 11 ∧ cell.cls = P.2.2.1.1 (mm_s h a).1 ∧ cell.vm = .none ∧ ∀ k, k < mm_fn (mm_s h a).1 → cell.slots[P.2.2.1.2 (mm_s h a).1 k]? = some (mm_fv P h a (mm_fty (mm_s h a).1 k) k)) ∨
  ((20 ≤ (mm_s h a).1 ∧ (mm_s h a).1 ≤ 26) ∧ cell.slots.size = (mm_s h a).2 ∧ s.isArrayOf cell (mm_aty (mm_s h a).1) ∧ (23 ≤ (mm_s h a).1 → cell.cls = P.2.2.2 (mm_s h a).1) ∧ ∀ j, j < (mm_s h a).2 → cell.slots[j]? = some (mm_av P h a (mm_s h a).1 j)) ∨
  ((30 ≤ (mm_s h a).1 ∧ (mm_s h a).1 ≤ 33) ∧ cell.cls = P.2.2.2 (mm_s h a).1 ∧ cell.vm = .none ∧ mm_xc s cell)
def mm_ok (P : mm_P) (s : State) (h : mm_H) (H : Heap) (a : Nat) : Prop := ∃ cell : Cell, H[mm_ad P a]? = some cell ∧ cell.vm ≠ .unknown ∧ mm_cl P s h a cell
/-- a static field of Throwable, a reference, in a cell below the new ones that is not the script's -/
def mm_S1 (b0 b1 : Nat) (s : State) (H : Heap) (n d : String) : Prop := ∃ (c : ClassId) (k : Class) (i : Nat) (f : Field) (a : Nat) (cell : Cell) (v : Value), s.vm.findClass "java/lang/Throwable" = some c ∧ s.fieldFound? "java/lang/Throwable" n d = some (c, k, i, f) ∧ f.isStatic = true ∧ k.statics = some a ∧ (a < b1 ∧ a ≠ b0) ∧ H[a]? = some cell ∧ (cell.vm.isStatics = true ∧ cell.cls = c ∧ f.slot < cell.slots.size ∧ k.staticTypes[f.slot]? = some f.type) ∧ cell.slots[f.slot]? = some v ∧ v.isRef = true
def mm_Sx (P : mm_P) (s : State) (H : Heap) : Prop := mm_S1 P.1.1 P.1.2 s H "UNASSIGNED_STACK" "[Ljava/lang/StackTraceElement;" ∧ mm_S1 P.1.1 P.1.2 s H "SUPPRESSED_SENTINEL" "Ljava/util/List;"
theorem mm_S1.keep {b0 b1 : Nat} {s : State} {H H' : Heap} {n d : String} (h : mm_S1 b0 b1 s H n d) (ho : ∀ (a : Nat) (cell : Cell), H[a]? = some cell → a < b1 → a ≠ b0 → H'[a]? = some cell) : mm_S1 b0 b1 s H' n d := by
  obtain ⟨c, k, i, f, a, cell, v, h1, h2, h3, h4, h5, h6, h7, h8⟩ := h
  exact ⟨c, k, i, f, a, cell, v, h1, h2, h3, h4, h5, ho a cell h6 h5.1 h5.2, h7, h8⟩
theorem mm_S1.moved {b0 b1 : Nat} {s U : State} {H : Heap} {n d : String} (hvm : s.vm.Alike U.vm) (h : mm_S1 b0 b1 s H n d) : mm_S1 b0 b1 U H n d := by
  obtain ⟨c, k, i, f, a, cell, v, h1, h2, h3, h4, h5, h6, h7, h8⟩ := h
  obtain ⟨k', h2', he⟩ := State.fieldFound?_setVm hvm h2
  exact ⟨c, k', i, f, a, cell, v, by rw [hvm.findClass]; exact h1, h2', h3, by rw [he]; exact h4, h5, h6, ⟨h7.1, h7.2.1, h7.2.2.1, by rw [he]; exact h7.2.2.2⟩, h8⟩
theorem mm_Sx.keep {P : mm_P} {s : State} {H H' : Heap} (h : mm_Sx P s H) (ho : ∀ (a : Nat) (cell : Cell), H[a]? = some cell → a < P.1.2 → a ≠ P.1.1 → H'[a]? = some cell) : mm_Sx P s H' := ⟨h.1.keep ho, h.2.keep ho⟩
theorem mm_Sx.moved {P : mm_P} {s U : State} {H : Heap} (hvm : s.vm.Alike U.vm) (h : mm_Sx P s H) : mm_Sx P U H := ⟨h.1.moved hvm, h.2.moved hvm⟩
def mm_rep (P : mm_P) (s : State) (h : mm_H) (H : Heap) : Prop :=
  (1 ≤ mm_n h ∧ mm_Sx P s H) ∧ H.size + 1 = P.1.2 + mm_n h ∧ P.1.1 < P.1.2 ∧ (mm_s h 0).1 = 20 ∧ (∀ a, mm_n h ≤ a → (mm_s h a).1 = 15) ∧ ∀ a, a < mm_n h → mm_ok P s h H a
theorem mm_rep.lt {P : mm_P} {s : State} {h : mm_H} {H : Heap} (r : mm_rep P s h H) {a : Nat} (hk : (mm_s h a).1 ≠ 15) : a < mm_n h := by
  rcases Nat.lt_or_ge a (mm_n h) with q | q
  · exact q
  · exact absurd (r.2.2.2.2.1 a q) hk
theorem mm_rep.ad {P : mm_P} {s : State} {h : mm_H} {H : Heap} (r : mm_rep P s h H) {a : Nat} (ha : a < mm_n h) : mm_ad P a < H.size := by
  obtain ⟨cell, h1, -⟩ := r.2.2.2.2.2 a ha
  exact (Array.getElem?_eq_some_iff.mp h1).1
/-- an object's cell -/
theorem mm_rep.obj {P : mm_P} {s : State} {h : mm_H} {H : Heap} (r : mm_rep P s h H) {a kd : Nat} (hk : (mm_s h a).1 = kd) (hkd : kd < 11) :
    a < mm_n h ∧ ¬ a = 0 ∧ ∃ cell : Cell, H[mm_ad P a]? = some cell ∧ cell.cls = P.2.2.1.1 kd ∧ cell.vm = .none ∧ ∀ k, k < mm_fn kd → cell.slots[P.2.2.1.2 kd k]? = some (mm_fv P h a (mm_fty kd k) k) := by
  have ha := r.lt (a := a) (by omega)
  refine ⟨ha, fun e => ?_, ?_⟩
  · subst e
    have := r.2.2.2.1
    omega
  · obtain ⟨cell, h1, -, h3⟩ := r.2.2.2.2.2 a ha
    rw [mm_cl, hk] at h3
    rcases h3 with ⟨-, q1, q2, q3⟩ | ⟨q, -⟩ | ⟨q, -⟩
    · exact ⟨cell, h1, q1, q2, q3⟩
    · omega
    · omega
theorem mm_rep.arr {P : mm_P} {s : State} {h : mm_H} {H : Heap} (r : mm_rep P s h H) {a kd : Nat} (hk : (mm_s h a).1 = kd) (h1 : 20 ≤ kd) (h2 : kd ≤ 26) :
    a < mm_n h ∧ ∃ cell : Cell, H[mm_ad P a]? = some cell ∧ cell.vm ≠ .unknown ∧ cell.slots.size = (mm_s h a).2 ∧ s.isArrayOf cell (mm_aty kd) ∧ (23 ≤ kd → cell.cls = P.2.2.2 kd) ∧ ∀ j, j < (mm_s h a).2 → cell.slots[j]? = some (mm_av P h a kd j) := by
  have ha := r.lt (a := a) (by omega)
  refine ⟨ha, ?_⟩
  obtain ⟨cell, e1, e2, h3⟩ := r.2.2.2.2.2 a ha
  rw [mm_cl, hk] at h3
  rcases h3 with ⟨q, -⟩ | ⟨-, q1, q2, q3, q4⟩ | ⟨q, -⟩
  · omega
  · exact ⟨cell, e1, e2, q1, q2, q3, q4⟩
  · omega
theorem mm_rep.exc {P : mm_P} {s : State} {h : mm_H} {H : Heap} (r : mm_rep P s h H) {a kd : Nat} (hk : (mm_s h a).1 = kd) (h1 : 30 ≤ kd) :
    a < mm_n h ∧ ¬ a = 0 ∧ kd ≤ 33 ∧ ∃ cell : Cell, H[mm_ad P a]? = some cell ∧ cell.cls = P.2.2.2 kd ∧ cell.vm = .none ∧ mm_xc s cell := by
  have ha := r.lt (a := a) (by omega)
  obtain ⟨cell, e1, e2, h3⟩ := r.2.2.2.2.2 a ha
  rw [mm_cl, hk] at h3
  rcases h3 with ⟨q, -⟩ | ⟨q, -⟩ | ⟨q, q1, q2, q3⟩
  · omega
  · omega
  · refine ⟨ha, fun e => ?_, q.2, cell, e1, q1, q2, q3⟩
    subst e
    have := r.2.2.2.1
    omega
/-- one cell is written -/
theorem mm_rep.upd {P : mm_P} {s : State} {h h' : mm_H} {H H' : Heap} (r : mm_rep P s h H) {a : Nat} (ha : a < mm_n h) (hz : H'.size = H.size) (ho : ∀ q, q ≠ mm_ad P a → H'[q]? = H[q]?)
    (hn : mm_n h' = mm_n h) (hs : mm_s h' = mm_s h) (hi : ∀ b k, b ≠ a → mm_i h' b k = mm_i h b k) (hl : ∀ b k, b ≠ a → mm_l h' b k = mm_l h b k) (hr : ∀ b k, b ≠ a → mm_r h' b k = mm_r h b k)
    (hok : mm_ok P s h' H' a) : mm_rep P s h' H' := by
  obtain ⟨r1, r2, r3, r4, r5, r6⟩ := r
  refine ⟨⟨by rw [hn]; exact r1.1, r1.2.keep (fun q cell q0 q1 q2 => by rw [ho q (fun e => by unfold mm_ad at e; split at e <;> omega)]; exact q0)⟩, by rw [hn, hz]; exact r2, r3, by rw [hs]; exact r4, fun b hb => by rw [hs]; exact r5 b (by rw [← hn]; exact hb), fun b hb => ?_⟩
  by_cases e : b = a
  · subst e; exact hok
  · obtain ⟨cell, e1, e2, e3⟩ := r6 b (by rw [← hn]; exact hb)
    refine ⟨cell, by rw [ho _ (fun q => e (mm_ad_inj r3 q))]; exact e1, e2, ?_⟩
    have fv : ∀ ty k, mm_fv P h' b ty k = mm_fv P h b ty k := fun ty k => by simp only [mm_fv, hi b k e, hl b k e, hr b k e]
    have av : ∀ kd j, mm_av P h' b kd j = mm_av P h b kd j := fun kd k => by simp only [mm_av, hi b k e, hl b k e, hr b k e]
    simp only [mm_cl, hs, fv, av]
    exact e3
/-- a cell is made -/
theorem mm_rep.nw {P : mm_P} {s : State} {h : mm_H} {H H' : Heap} {kd len sl : Nat} (r : mm_rep P s h H) (hz : H'.size = H.size + 1) (ho : ∀ q, q < H.size → H'[q]? = H[q]?)
    (hok : mm_ok P s (mm_nw h kd len sl) H' (mm_n h)) : mm_rep P s (mm_nw h kd len sl) H' := by
  have r' := r
  obtain ⟨r1, r2, r3, r4, r5, r6⟩ := r
  refine ⟨⟨by rw [mm_n_nw]; omega, r1.2.keep (fun q cell q0 q1 q2 => by rw [ho q (Array.getElem?_eq_some_iff.mp q0).1]; exact q0)⟩, by rw [mm_n_nw, hz]; omega, r3, ?_, fun b hb => ?_, fun b hb => ?_⟩
  · rw [mm_s_nw, if_neg (by omega)]; exact r4
  · rw [mm_n_nw] at hb
    rw [mm_s_nw, if_neg (by omega)]; exact r5 b (by omega)
  · rw [mm_n_nw] at hb
    by_cases e : b = mm_n h
    · subst e; exact hok
    · have hbl : b < mm_n h := by omega
      obtain ⟨cell, e1, e2, e3⟩ := r6 b hbl
      refine ⟨cell, by rw [ho _ (r'.ad hbl)]; exact e1, e2, ?_⟩
      have fv : ∀ ty k, mm_fv P (mm_nw h kd len sl) b ty k = mm_fv P h b ty k := fun ty k => by simp only [mm_fv, mm_i_nw, mm_l_nw, mm_r_nw, if_neg e]
      have av : ∀ kd' j, mm_av P (mm_nw h kd len sl) b kd' j = mm_av P h b kd' j := fun kd' k => by simp only [mm_av, mm_i_nw, mm_l_nw, mm_r_nw, if_neg e]
      simp only [mm_cl, mm_s_nw, if_neg e, fv, av]
      exact e3
theorem mm_ad_new {P : mm_P} {s : State} {h : mm_H} {H : Heap} (r : mm_rep P s h H) : mm_ad P (mm_n h) = H.size := by
  obtain ⟨r1, r2, -⟩ := r
  unfold mm_ad
  rw [if_neg (by omega)]
  omega
theorem mm_ad_base {P : mm_P} {a : Nat} (ha : ¬ a = 0) : P.1.2 ≤ mm_ad P a := by
  unfold mm_ad
  rw [if_neg ha]
  omega
/-- to another state's tables -/
theorem mm_rep.moved {P : mm_P} {s U : State} {h : mm_H} {H : Heap} (hvm : s.vm.Alike U.vm) (r : mm_rep P s h H) : mm_rep P U h H := by
  obtain ⟨r1, r2, r3, r4, r5, r6⟩ := r
  refine ⟨⟨r1.1, r1.2.moved hvm⟩, r2, r3, r4, r5, fun a ha => ?_⟩
  obtain ⟨cell, e1, e2, e3⟩ := r6 a ha
  refine ⟨cell, e1, e2, ?_⟩
  rcases e3 with q | ⟨q0, q1, q2, q3, q4⟩ | ⟨q0, q1, q2, x1, x2, k, x3, x4, x5, x6⟩
  · exact Or.inl q
  · exact Or.inr (Or.inl ⟨q0, q1, State.isArrayOf_alike hvm q2, q3, q4⟩)
  · obtain ⟨k', hk', he⟩ := hvm.2.2 _ _ x3
    exact Or.inr (Or.inr ⟨q0, q1, q2, x1, x2, k', hk', by rw [he]; exact x4, by rw [he]; exact x5, by rw [he]; exact x6⟩)
/-! the variables -/
def mm_lv (P : mm_P) (y : Nat) (ls : List Value) (lsR : Array Slot) : Prop :=
  lsR.size = tb_nL y ∧ ls.length = tb_nL y ∧ lv_wf lsR ∧ (∀ (i : Nat) (v : Value), ls[i]? = some v → v ≠ mm_j → lsR[i]? = some (Slot.val (mm_rv P v))) ∧ ∀ (i : Nat) (v : Value), ls[i]? = some v → v.category = 2 → i ∈ tb_lng.getD y []
def mm_pr1 (k : Nat) : Option Slot → Option (Nat × Value)
  | some (.val v) => some (k, v)
  | _ => none
def mm_prs (lsR : Array Slot) : List (Nat × Value) := (List.range lsR.size).filterMap (fun k => mm_pr1 k lsR[k]?)
theorem mm_prs_mem {lsR : Array Slot} {k : Nat} {v : Value} : (k, v) ∈ mm_prs lsR ↔ lsR[k]? = some (.val v) := by
  constructor
  · intro h
    obtain ⟨j, -, hj⟩ := List.mem_filterMap.mp h
    cases hs : lsR[j]? with
    | none => simp [hs, mm_pr1] at hj
    | some z =>
      cases z with
      | val w =>
        simp only [hs, mm_pr1, Option.some.injEq, Prod.mk.injEq] at hj
        obtain ⟨rfl, rfl⟩ := hj
        exact hs
      | _ => simp [hs, mm_pr1] at hj
  · intro h
    refine List.mem_filterMap.mpr ⟨k, List.mem_range.mpr (Array.getElem?_eq_some_iff.mp h).1, ?_⟩
    simp [h, mm_pr1]
theorem mm_prs_has {lsR : Array Slot} {nL : Nat} (hs : lsR.size = nL) (hw : lv_wf lsR) : lv_has lsR nL (mm_prs lsR) := ⟨hs, hw, fun q hq => mm_prs_mem.mp (by obtain ⟨k, v⟩ := q; exact hq)⟩
theorem mm_lv.at {P : mm_P} {y : Nat} {ls : List Value} {lsR : Array Slot} (h : mm_lv P y ls lsR) {i : Nat} {v : Value} (hi : ls[i]? = some v) (hv : v ≠ mm_j) : lsR[i]? = some (.val (mm_rv P v)) := h.2.2.2.1 i v hi hv
/-- a variable of one slot is set -/
theorem mm_lv.set1 {P : mm_P} {y : Nat} {ls ls' : List Value} {lsR lsR' : Array Slot} {i : Nat} {v : Value} (h : mm_lv P y ls lsR) (hi : i < tb_nL y) (hc : v.category = 1) (hset : mm_set y ls i v = some ls')
    (hn : lv_has lsR' (tb_nL y) ((i, mm_rv P v) :: (mm_prs lsR).filter (fun q => !(q.1 == i) && !(q.1 + 1 == i && q.2.category == 2)))) : mm_lv P y ls' lsR' := by
  obtain ⟨h1, h2, h3, h4, h5⟩ := h
  obtain ⟨n1, n2, n3⟩ := hn
  have hls : ls' = ls.set i v := by
    unfold mm_set at hset
    split at hset
    · split at hset <;> first | exact (Option.some.inj hset).symm | cases hset
    · exact (Option.some.inj hset).symm
  have hprev : ∀ w, ls[i - 1]? = some w → w.category = 2 → ¬ i = 0 → False := by
    intro w hx hc2 h0
    have hm := h5 _ _ hx hc2
    unfold mm_set at hset
    rw [if_pos (by
      rw [List.any_eq_true]
      exact ⟨i - 1, hm, by simp; omega⟩)] at hset
    rw [hx] at hset
    cases w <;> simp [Value.category] at hc2 hset
  subst hls
  refine ⟨n1, by rw [List.length_set]; exact h2, n2, fun j w hj hw => ?_, fun j w hj hw => ?_⟩
  · rw [List.getElem?_set] at hj
    by_cases e : i = j
    · subst e
      rw [if_pos rfl] at hj
      split at hj
      · cases hj
        exact n3 _ List.mem_cons_self
      · cases hj
    · rw [if_neg e] at hj
      refine n3 (j, mm_rv P w) (List.mem_cons_of_mem _ (List.mem_filter.mpr ⟨mm_prs_mem.mpr (h4 j w hj hw), ?_⟩))
      simp only [Bool.and_eq_true, Bool.not_eq_true', beq_eq_false_iff_ne, ne_eq, Bool.and_eq_false_iff]
      refine ⟨fun q => e q.symm, ?_⟩
      by_cases e2 : j + 1 = i
      · right
        intro hcat
        exact hprev w (by rw [show i - 1 = j by omega]; exact hj) (mm_rv_cat2 hcat) (by omega)
      · left; exact e2
  · rw [List.getElem?_set] at hj
    by_cases e : i = j
    · subst e
      rw [if_pos rfl] at hj
      split at hj
      · cases hj
        omega
      · cases hj
    · rw [if_neg e] at hj
      exact h5 j w hj hw
/-- a variable of two slots is set -/
theorem mm_lv.set2 {P : mm_P} {y : Nat} {ls ls' : List Value} {lsR lsR' : Array Slot} {i : Nat} {x : Int64} (h : mm_lv P y ls lsR) (hi : i + 1 < tb_nL y) (hset : mm_set2 y ls i (.long x) = some ls')
    (hn : lv_has lsR' (tb_nL y) ((i, .long x) :: (mm_prs lsR).filter (fun q => !(q.1 == i) && (!(q.1 == i + 1) && !(q.1 + 1 == i && q.2.category == 2))))) : mm_lv P y ls' lsR' := by
  obtain ⟨h1, h2, h3, h4, h5⟩ := h
  obtain ⟨n1, n2, n3⟩ := hn
  unfold mm_set2 at hset
  split at hset
  case isFalse => cases hset
  case isTrue hin =>
  split at hset
  case isTrue => cases hset
  case isFalse hno =>
  have hls : ls' = (ls.set i (.long x)).set (i + 1) mm_j := (Option.some.inj hset).symm
  subst hls
  refine ⟨n1, by rw [List.length_set, List.length_set]; exact h2, n2, fun j w hj hw => ?_, fun j w hj hw => ?_⟩
  · rw [List.getElem?_set, List.getElem?_set] at hj
    by_cases e1 : i + 1 = j
    · rw [if_pos e1] at hj
      split at hj
      · cases hj; exact absurd rfl hw
      · cases hj
    · rw [if_neg e1] at hj
      by_cases e : i = j
      · subst e
        rw [if_pos rfl] at hj
        split at hj
        · cases hj
          exact n3 _ List.mem_cons_self
        · cases hj
      · rw [if_neg e] at hj
        refine n3 (j, mm_rv P w) (List.mem_cons_of_mem _ (List.mem_filter.mpr ⟨mm_prs_mem.mpr (h4 j w hj hw), ?_⟩))
        simp only [Bool.and_eq_true, Bool.not_eq_true', beq_eq_false_iff_ne, ne_eq, Bool.and_eq_false_iff]
        refine ⟨fun q => e q.symm, fun q => e1 q.symm, ?_⟩
        by_cases e2 : j + 1 = i
        · right
          intro hcat
          have hm := h5 j w hj (mm_rv_cat2 hcat)
          exact hno (by rw [List.any_eq_true]; exact ⟨j, hm, by simp; omega⟩)
        · left; exact e2
  · rw [List.getElem?_set, List.getElem?_set] at hj
    by_cases e1 : i + 1 = j
    · rw [if_pos e1] at hj
      split at hj
      · cases hj; simp [mm_j, Value.category] at hw
      · cases hj
    · rw [if_neg e1] at hj
      by_cases e : i = j
      · subst e
        rw [List.any_eq_true] at hin
        obtain ⟨z, hz, hz2⟩ := hin
        simp at hz2
        subst hz2
        exact hz
      · rw [if_neg e] at hj
        exact h5 j w hj hw
