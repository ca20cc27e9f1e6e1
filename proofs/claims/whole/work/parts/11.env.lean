/-! WHAT THE TABLES SAY AT A STATE; A METHOD'S CONTEXT -/
def mm_gw : Cond → Bool
  | .fieldLinkNest .. => true
  | .methodLinkNest .. => true
  | w => goodWord w
def mm_E1 (s : State) : Prop := ∀ w ∈ lw_tbl, mm_gw w = true → ∀ a : Array Value, w.before a s = true
def mm_E2 (P : mm_P) (s : State) : Prop := ∀ (k : Nat) (q : vw_C), tb_cl[k]? = some q → u_Kn s q.1 q.2.1 q.2.2 (P.2.2.1.1 k) (P.2.2.1.2 k)
/-- arrays of objects: kinds 23, 24, 25 over the classes 5, 6, 4 -/
def mm_E3 (P : mm_P) (s : State) : Prop := (va_AO "LoadRoom$Piece" s ∧ va_RA s (P.2.2.2 23) (.object "LoadRoom$Piece")) ∧ (va_AO "LoadRoom$Placed" s ∧ va_RA s (P.2.2.2 24) (.object "LoadRoom$Placed")) ∧ (va_AO "LoadRoom$Floor" s ∧ va_RA s (P.2.2.2 25) (.object "LoadRoom$Floor"))
def mm_E4 (P : mm_P) (s : State) : Prop := ∀ (q : Nat) (z : (Nat × Nat) × String × Nat), tb_str[q]? = some z → vk_R (tb_nm z.1.1) z.1.2 z.2.1 (P.2.1 q) s
def mm_xn (i : Nat) : String := ((tb_kin.lookup (30 + i)).getD ("", 0)).1
def mm_E5 (P : mm_P) (s : State) : Prop := ∀ i, i < 4 → ClassAt s (mm_xn i) (P.2.2.2 (30 + i))
def mm_E6 (s : State) : Prop := ∀ i j, i < 4 → j < 4 → i ≠ j → va_Nc (mm_xn i) (mm_xn j) s
/-- the arrays of arrays of ints -/
def mm_E7 (P : mm_P) (s : State) : Prop := (∃ (kA kC : Class) (comp cc : ClassId), s.vm.findClass "[[I" = some (P.2.2.2 26) ∧ s.vm.classes[P.2.2.2 26]? = some kA ∧ kA.kind = .array comp (.array .int) ∧ s.vm.classes[comp]? = some kC ∧ kC.kind = .array cc .int) ∧ P.1.2 ≤ s.heap.size
theorem mm_E7.moved {P : mm_P} {s U : State} (hvm : s.vm.Alike U.vm) (hs : P.1.2 ≤ U.heap.size) (h : mm_E7 P s) : mm_E7 P U := by
  obtain ⟨⟨kA, kC, comp, cc, h1, h2, h3, h4, h5⟩, -⟩ := h
  obtain ⟨kA', a1, a2⟩ := hvm.2.2 _ _ h2
  obtain ⟨kC', c1, c2⟩ := hvm.2.2 _ _ h4
  exact ⟨⟨kA', kC', comp, cc, by rw [hvm.findClass]; exact h1, a1, by rw [a2]; exact h3, c1, by rw [c2]; exact h5⟩, hs⟩
def mm_Ev (P : mm_P) (s : State) : Prop := mm_E1 s ∧ mm_E2 P s ∧ mm_E3 P s ∧ mm_E4 P s ∧ mm_E5 P s ∧ mm_E6 s ∧ mm_E7 P s
theorem mm_E1.moved {s U : State} (hW : s.WarmedH U.vm) (h : mm_E1 s) : mm_E1 U := by
  intro w hw hg a
  cases w with
  | fieldLinkNest c i r n d host => exact va_Nw.use rfl (va_Nw.warmF hW (h _ hw rfl #[]))
  | methodLinkNest c i x host => exact va_Nw.use rfl (va_Nw.warmM hW (h _ hw rfl #[]))
  | _ => exact word_at hW (good_of_word hg) (h _ hw hg #[])
theorem mm_E3.moved {P : mm_P} {s U : State} (hvm : s.vm.Alike U.vm) (h : mm_E3 P s) : mm_E3 P U :=
  ⟨⟨h.1.1.moved hvm, h.1.2.moved hvm⟩, ⟨h.2.1.1.moved hvm, h.2.1.2.moved hvm⟩, ⟨h.2.2.1.moved hvm, h.2.2.2.moved hvm⟩⟩
theorem mm_Ev.moved {P : mm_P} {s U : State} (hW : s.WarmedH U.vm) (hs : P.1.2 ≤ U.heap.size) (h : mm_Ev P s) : mm_Ev P U :=
  ⟨h.1.moved hW, fun k q hq => u_Kn_moved hW.alike (h.2.1 k q hq), h.2.2.1.moved hW.alike, fun q z hz => (h.2.2.2.1 q z hz).warm hW, fun i hi => classAt_moved hW.alike (h.2.2.2.2.1 i hi), fun i j hi hj hne => (h.2.2.2.2.2.1 i j hi hj hne).moved hW.alike, h.2.2.2.2.2.2.moved hW.alike hs⟩
/-- a method's context: y on the way, d frames left -/
def mm_Cx (P : mm_P) (y d : Nat) (p : Program) (R : Room) (s : State) (m : MethodId) (meth : Method) (c : Code) : Prop :=
  (p.tables.exec = Jvm.exec ∧ c.code = tb_byt.getD y ⟨#[]⟩ ∧ c.maxLocals = tb_nL y ∧ meth.sig.returnType = tb_rty y) ∧ (s.vm.findClass (tb_nm (tb_cls y)) = some m.cls ∧ meth.locks = false ∧ meth.name = (tb_y y).name ∧ mm_Ev P s) ∧ (y < 149 ∧ c.exceptionTable.toList.map (fun h => (h.startPc, h.endPc, h.handlerPc, h.catchType)) = (tb_han.getD y []).map (fun q => (q.1, q.2.1, q.2.2.1, q.2.2.2.2))) ∧ d + 8 ≤ R.frames ∧ 60 * (d + 8) ≤ R.locals
/-! tables, looked up -/
theorem mm_lookup {α β : Type} [BEq α] [LawfulBEq α] {l : List (α × β)} {k : α} {v : β} (h : l.lookup k = some v) : (k, v) ∈ l := by
  induction l with
  | nil => cases h
  | cons q t ih =>
    obtain ⟨a, b⟩ := q
    rw [List.lookup_cons] at h
    split at h
    · rename_i e
      have e' := eq_of_beq e
      cases h
      subst e'
      exact List.mem_cons_self
    · exact List.mem_cons_of_mem _ (ih h)
/-- the chunks of instructions that there are -/
def tb_pairs : List (Nat × Nat) := [(0, 0), (0, 1), (0, 2), (0, 3), (0, 4), (0, 5), (0, 6), (0, 7), (0, 8), (0, 9), (0, 10), (0, 11), (0, 12), (0, 13), (1, 0), (1, 1), (2, 0), (3, 0), (4, 0), (5, 0), (6, 0), (7, 0), (8, 0), (8, 1), (9, 0), (10, 0), (11, 0), (12, 0), (13, 0), (14, 0), (15, 0), (16, 0), (17, 0), (18, 0), (19, 0), (20, 0), (21, 0), (22, 0), (23, 0), (23, 1), (24, 0), (25, 0), (26, 0), (27, 0), (28, 0), (29, 0), (30, 0), (31, 0), (31, 1), (32, 0), (33, 0), (34, 0), (35, 0), (36, 0), (37, 0), (38, 0), (39, 0), (40, 0), (41, 0), (42, 0), (43, 0), (44, 0), (45, 0), (46, 0), (47, 0), (48, 0), (49, 0), (50, 0), (51, 0), (52, 0), (52, 1), (52, 2), (53, 0), (54, 0), (55, 0), (56, 0), (57, 0), (58, 0), (58, 1), (58, 2), (59, 0), (60, 0), (60, 1), (61, 0), (61, 1), (62, 0), (63, 0), (64, 0), (64, 1), (64, 2), (65, 0), (66, 0), (67, 0), (68, 0), (69, 0), (70, 0), (70, 1), (71, 0), (72, 0), (72, 1), (73, 0), (74, 0), (74, 1), (75, 0), (76, 0), (77, 0), (78, 0), (78, 1), (79, 0), (79, 1), (80, 0), (81, 0), (81, 1), (82, 0), (82, 1), (82, 2), (83, 0), (84, 0), (85, 0), (85, 1), (86, 0), (87, 0), (88, 0), (89, 0), (89, 1), (90, 0), (91, 0), (92, 0), (93, 0), (93, 1), (94, 0), (95, 0), (96, 0), (97, 0), (98, 0), (98, 1), (99, 0), (100, 0), (101, 0), (102, 0), (102, 1), (103, 0), (104, 0), (104, 1), (105, 0), (106, 0), (107, 0), (108, 0), (108, 1), (108, 2), (108, 3), (109, 0), (110, 0), (111, 0), (111, 1), (111, 2), (112, 0), (113, 0), (114, 0), (115, 0), (116, 0), (117, 0), (118, 0), (119, 0), (120, 0), (120, 1), (121, 0), (122, 0), (122, 1), (123, 0), (123, 1), (124, 0), (124, 1), (125, 0), (126, 0), (126, 1), (126, 2), (126, 3), (127, 0), (127, 1), (127, 2), (127, 3), (128, 0), (128, 1), (128, 2), (128, 3), (128, 4), (129, 0), (130, 0), (131, 0), (132, 0), (132, 1), (132, 2), (132, 3), (132, 4), (132, 5), (132, 6), (133, 0), (133, 1), (134, 0), (134, 1), (135, 0), (135, 1), (135, 2), (135, 3), (136, 0), (136, 1), (136, 2), (136, 3), (137, 0), (137, 1), (137, 2), (138, 0), (139, 0), (140, 0), (140, 1), (141, 0), (142, 0), (143, 0), (143, 1), (143, 2), (144, 0), (145, 0), (145, 1), (146, 0), (146, 1), (146, 2), (146, 3), (146, 4), (147, 0), (148, 0)]
theorem tb_okD_in : ∀ q ∈ tb_pairs, tb_okD q.1 q.2 = true := tb_okD_all
def tb_len : List Nat := [14, 2, 1, 1, 1, 1, 1, 1, 2, 1, 1, 1, 1, 1, 1, 1, 1, 1, 1, 1, 1, 1, 1, 2, 1, 1, 1, 1, 1, 1, 1, 2, 1, 1, 1, 1, 1, 1, 1, 1, 1, 1, 1, 1, 1, 1, 1, 1, 1, 1, 1, 1, 3, 1, 1, 1, 1, 1, 3, 1, 2, 2, 1, 1, 3, 1, 1, 1, 1, 1, 2, 1, 2, 1, 2, 1, 1, 1, 2, 2, 1, 2, 3, 1, 1, 2, 1, 1, 1, 2, 1, 1, 1, 2, 1, 1, 1, 1, 2, 1, 1, 1, 2, 1, 2, 1, 1, 1, 4, 1, 1, 3, 1, 1, 1, 1, 1, 1, 1, 1, 2, 1, 2, 2, 2, 1, 4, 4, 5, 1, 1, 1, 7, 2, 2, 4, 4, 3, 1, 1, 2, 1, 1, 3, 1, 2, 5, 1, 1]
theorem tb_len_ok : tb_ins.map List.length = tb_len := by decide +kernel
theorem tb_pairs_ok : (List.range 149).all (fun y => (List.range (tb_len.getD y 0)).all (fun c => tb_pairs.contains (y, c))) = true := by decide +kernel
theorem tb_pairs_out {y c : Nat} (h : (y, c) ∉ tb_pairs) : (tb_ins.getD y []).getD c [] = [] := by
  have hlen : (tb_ins.getD y []).length = tb_len.getD y 0 := by
    rw [← tb_len_ok, List.getD_eq_getElem?_getD, List.getD_eq_getElem?_getD, List.getElem?_map]
    cases tb_ins[y]? <;> rfl
  by_cases hc : c < (tb_ins.getD y []).length
  · exfalso
    rw [hlen] at hc
    have hy : y < 149 := by
      rcases Nat.lt_or_ge y 149 with q | q
      · exact q
      · rw [List.getD_eq_getElem?_getD, List.getElem?_eq_none (by simpa [tb_len] using q)] at hc
        exact absurd hc (Nat.not_lt_zero _)
    have h1 := List.all_eq_true.mp tb_pairs_ok y (List.mem_range.mpr hy)
    have h2 := List.all_eq_true.mp h1 c (List.mem_range.mpr hc)
    exact h (by simpa using h2)
  · rw [List.getD_eq_getElem?_getD, List.getElem?_eq_none (by omega)]
    rfl
theorem mm_dec {y pc : Nat} {i : ClassFile.Instr} {len : Nat} (hc : tb_cod y pc = some (i, len)) : decode (tb_byt.getD y ⟨#[]⟩) pc = .ok (i, len) ∧ tb_okT pc i = true := by
  have hm := mm_lookup hc
  have hok : tb_okD y (pc / 64) = true := by
    by_cases hin : (y, pc / 64) ∈ tb_pairs
    · exact tb_okD_in _ hin
    · exact absurd hm (by
        have : (tb_ins.getD y []).getD (pc / 64) [] = [] := tb_pairs_out hin
        rw [this]
        exact List.not_mem_nil)
  unfold tb_okD at hok
  have h2 := List.all_eq_true.mp hok _ hm
  simp only [Bool.and_eq_true, decide_eq_true_eq] at h2
  refine ⟨?_, h2.2⟩
  have h3 := h2.1
  cases hd : decode (tb_byt.getD y ⟨#[]⟩) pc with
  | error e => rw [hd] at h3; cases h3
  | ok q => rw [hd] at h3; cases h3; rfl
