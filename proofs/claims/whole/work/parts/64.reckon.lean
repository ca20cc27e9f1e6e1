/-! A ROW RECKONS WHAT ITS LAST PIECE BRINGS -/
def zL (v : Int) : Int64 := Int64.ofInt v
theorem zL_add (a b : Int) : zL a + zL b = zL (a + b) := (Int64.ofInt_add a b).symm
theorem zL_mul (a b : Int) : zL a * zL b = zL (a * b) := (Int64.ofInt_mul a b).symm
theorem zL_toInt {v : Int} (h : -9223372036854775808 ≤ v ∧ v < 9223372036854775808) : (zL v).toInt = v := Int64.toInt_ofInt_of_le (by have := h.1; omega) (by have := h.2; omega)
theorem zI_l {v : Int} (h : zr v) : (zI v).toInt64 = zL v := by
  refine Int64.toInt_inj.mp ?_
  rw [Int32.toInt_toInt64, zI_toInt h, zL_toInt]
  simp only [zr] at h
  omega
theorem zI_2 : (2 : Int32) = zI 2 := rfl
theorem zI_m1 : (-1 : Int32) = zI (-1) := rfl
def rkH (r : Nat) (C : Nat → Int) (R : zR) (sg : Int) : mm_H → Nat → Nat → mm_H
  | h, _, 0 => h
  | h, i, n + 1 => rkH r C R sg (if zOv C (R i) = true then mm_pi h (r + 2 + i) 15 (zI (R i 15 + sg * C 12)) else h) (i + 1) n
section
variable {d : Nat} {h : mm_H} {Q : mm_Q} {a b c r L t e j i q : Nat} {x x2 x3 : Int32} {p A C : Nat → Int} {R : zR} {l : List Int} {y v sg : Int}
theorem zRec.pi (hA : zRec h b A) (hab : ¬ b = a) (k : Nat) (w : Int32) : zRec (mm_pi h a k w) b A := ⟨hA.1, fun j h1 h2 => by rw [mm_i_pi, if_neg (fun (H : b = a ∧ j = k) => hab H.1)]; exact hA.2 j h1 h2⟩
theorem rkH_s : ∀ n i h, mm_s (rkH r C R sg h i n) = mm_s h ∧ mm_r (rkH r C R sg h i n) = mm_r h ∧ mm_l (rkH r C R sg h i n) = mm_l h ∧ mm_n (rkH r C R sg h i n) = mm_n h ∧ mm_z (rkH r C R sg h i n) = mm_z h := by
  intro n
  induction n with
  | zero => intro i h; exact ⟨rfl, rfl, rfl, rfl, rfl⟩
  | succ n ih =>
    intro i h
    rw [rkH]
    split
    · obtain ⟨h1, h2, h3, h4, h5⟩ := ih (i + 1) (mm_pi h (r + 2 + i) 15 (zI (R i 15 + sg * C 12)))
      exact ⟨h1, h2, h3, h4, h5⟩
    · exact ih (i + 1) h
theorem rkH_o : ∀ n i h b k, (¬ k = 15 ∨ b < r + 2 + i ∨ r + 2 + i + n ≤ b) → mm_i (rkH r C R sg h i n) b k = mm_i h b k := by
  intro n
  induction n with
  | zero => intro i h b k _; rfl
  | succ n ih =>
    intro i h b k hb
    rw [rkH, ih (i + 1) _ b k (by omega)]
    split
    · rw [mm_i_pi, if_neg (by omega)]
    · rfl
theorem rkH_b : ∀ n i h j, i ≤ j → j < i + n → mm_i (rkH r C R sg h i n) (r + 2 + j) 15 = if zOv C (R j) = true then zI (R j 15 + sg * C 12) else mm_i h (r + 2 + j) 15 := by
  intro n
  induction n with
  | zero => intro i h j h1 h2; omega
  | succ n ih =>
    intro i h j h1 h2
    rw [rkH]
    by_cases e : j = i
    · subst e
      rw [rkH_o n (j + 1) _ (r + 2 + j) 15 (by omega)]
      split
      · rw [mm_i_pi, if_pos ⟨rfl, rfl⟩]
      · rfl
    · rw [ih (i + 1) _ j (by omega) (by omega)]
      split
      · rfl
      · split
        · rw [mm_i_pi, if_neg (by omega)]
        · rfl
theorem c81_loop (hL : L ≤ 8) (hO : ∀ i, i < L → zOk (R i)) (oC : zOk C) (ha : a = r + 2 + L) : ∀ n i h, i + n = L → zSk h r → mm_i h r 1 = nI L → (∀ j, i ≤ j → j < L → zRec h (r + 2 + j) (R j)) → zRec h a C → (mm_wp (d + 1) 81 55 [.ref r, .ref a, .int (zI sg), .int (nI i)] [] h Q ↔ Q (.inl none) (rkH r C R sg h i n)) := by
  intro n
  induction n with
  | zero =>
    intro i h hi hs h5 _ _
    have e : nI L ≤ nI i := by rw [show i = L by omega]; exact Int32.le_refl _
    rw [s81_55]
    simp only [s81_0, s81_1, s81_2, s81_5, s81_6, s81_6o, s81_6n, s81_7, s81_10, s81_11, s81_11o, s81_11n, s81_12, s81_15, s81_16, s81_16o, s81_16n, s81_17, s81_20, s81_21, s81_22, s81_25, s81_26, s81_27, s81_30, s81_31, s81_31o, s81_31n, s81_32, s81_35, s81_36, s81_37, s81_37o, s81_37n, s81_38, s81_41, s81_42, s81_42o, s81_42n, s81_43, s81_46, s81_47, s81_48, s81_49, s81_50, s81_53, s81_54, s81_56, s81_57, s81_60, s81_63, s81_63o, s81_63n, s81_64, s81_65, s81_68, s81_69, s81_70, s81_73, s81_76, s81_77, s81_80, s81_81, s81_82, s81_83, s81_86, s81_87, s81_87o, s81_87n, s81_88, s81_91, s81_92, s81_93, s81_96, s81_99, s81_102, or_true, true_or, true_and, and_true, mm_o_some, mm_o_none, mm_bk_v, mm_bk_n, Nat.reduceAdd, hs.1, h5, if_pos e, rkH]
  | succ n ih =>
    intro i h hi hs h5 h7 hC
    have hs' := hs
    obtain ⟨h1, h2, h3, h4⟩ := hs
    have e : ¬ nI L ≤ nI i := nI_ge (by omega) (by omega)
    have hin : mm_in (nI i) 8 = true := mm_inN (by omega) (by omega)
    have hcl : (nI i).toNatClampNeg = i := nI_clamp (by omega)
    obtain ⟨p1, p2⟩ := h4 i (by omega)
    have hA := h7 i (by omega) (by omega)
    have oA := hO i (by omega)
    have i15 := hA.2 15 (by decide) (by decide)
    have i12 := hC.2 12 (by decide) (by decide)
    rw [s81_55]
    simp only [s81_0, s81_1, s81_2, s81_5, s81_6, s81_6o, s81_6n, s81_7, s81_10, s81_11, s81_11o, s81_11n, s81_12, s81_15, s81_16, s81_16o, s81_16n, s81_17, s81_20, s81_21, s81_22, s81_25, s81_26, s81_27, s81_30, s81_31, s81_31o, s81_31n, s81_32, s81_35, s81_36, s81_37, s81_37o, s81_37n, s81_38, s81_41, s81_42, s81_42o, s81_42n, s81_43, s81_46, s81_47, s81_48, s81_49, s81_50, s81_53, s81_54, s81_56, s81_57, s81_60, s81_63, s81_63o, s81_63n, s81_64, s81_65, s81_68, s81_69, s81_70, s81_73, s81_76, s81_77, s81_80, s81_81, s81_82, s81_83, s81_86, s81_87, s81_87o, s81_87n, s81_88, s81_91, s81_92, s81_93, s81_96, s81_99, s81_102, or_true, true_or, true_and, and_true, mm_o_some, mm_o_none, mm_bk_v, mm_bk_n, Nat.reduceAdd, h1, h2, h3, h5, if_neg e, hin, hcl, p1, p2, hC.1, Nat.reduceLeDiff, nI_1, c76z hC oC hA oA, bI_0, i15, i12, zI_mul, zI_add, rkH]
    cases hz : zOv C (R i)
    · simp only [if_true, reduceIte, Bool.false_eq_true]
      exact ih (i + 1) h (by omega) hs' h5 (fun j h1 h2 => h7 j (by omega) h2) hC
    · simp only [if_true, reduceIte, Bool.true_eq_false]
      exact ih (i + 1) _ (by omega) hs' (by rw [mm_i_pi, if_neg (by omega)]; exact h5) (fun j h1 h2 => (h7 j (by omega) h2).pi (by omega) _ _) (hC.pi (by omega) _ _)

theorem zSmall {C : Nat → Int} (oC : zOk C) : (0 ≤ C 9 * C 10 * C 11 ∧ C 9 * C 10 * C 11 ≤ 8000000) ∧ 0 ≤ C 12 * (2 * C 4 + C 10) ∧ C 12 * (2 * C 4 + C 10) ≤ 10000000 := by
  simp only [zOk] at oC
  have h1 := zMul_b (a := C 9) (b := C 10) (m := 200) (n := 200) (by omega) (by omega) (by omega) (by omega)
  have h2 := zMul_b (a := C 9 * C 10) (b := C 11) (m := 40000) (n := 200) (by omega) (by omega) (by omega) (by omega)
  have h3 := zMul_b (a := C 12) (b := 2 * C 4 + C 10) (m := 10000) (n := 1000) (by omega) (by omega) (by omega) (by omega)
  exact ⟨⟨h2.1, by omega⟩, h3.1, by omega⟩
/-- what a reckoning leaves -/
def rkE (h : mm_H) (r L : Nat) (C : Nat → Int) (R : zR) (sg : Int) : mm_H := rkH r C R sg (mm_pl (mm_pi h r 2 (mm_i h r 2 + zI (sg * C 9 * C 10 * C 11))) r 3 (mm_l h r 3 + zL (sg * C 12 * (2 * C 4 + C 10)))) 0 L
theorem c81z (hR : zRw h r L R) (hO : ∀ i, i < L → zOk (R i)) (hC : zRec h a C) (oC : zOk C) (ha : a = r + 2 + L) (hsg : sg = 1 ∨ sg = -1) (j3 : Value) : mm_wp (d + 1) 81 0 [.ref r, .ref a, .int (zI sg), j3] [] h Q ↔ Q (.inl none) (rkE h r L C R sg) := by
  have hs := hR.1
  have hL := hR.2.1
  have h5 := hR.2.2.1
  have h7 := hR.2.2.2
  have h1 := hs.1
  have iC := hC.2
  have sm := zSmall oC
  have hl : (zI (sg * C 12 * (2 * C 4 + C 10))).toInt64 = zL (sg * C 12 * (2 * C 4 + C 10)) := zI_l (by
    rw [Int.mul_assoc]
    simp only [zr]
    rcases hsg with rfl | rfl <;> omega)
  have lp := fun Q => c81_loop (d := d) (Q := Q) (sg := sg) hL hO oC ha L 0 (mm_pl (mm_pi h r 2 (mm_i h r 2 + zI (sg * C 9 * C 10 * C 11))) r 3 (mm_l h r 3 + zL (sg * C 12 * (2 * C 4 + C 10)))) (by omega) hs (by rw [mm_i_pl, mm_i_pi, if_neg (by omega)]; exact h5) (fun j _ hj => ⟨(h7 j hj).1, fun k h1 h2 => by rw [mm_i_pl, mm_i_pi, if_neg (by omega)]; exact (h7 j hj).2 k h1 h2⟩) ⟨hC.1, fun k h1 h2 => by rw [mm_i_pl, mm_i_pi, if_neg (by omega)]; exact hC.2 k h1 h2⟩
  have har : ¬ a = r := by omega
  simp only [nI_0] at lp
  simp only [s81_0, s81_1, s81_2, s81_5, s81_6, s81_6o, s81_6n, s81_7, s81_10, s81_11, s81_11o, s81_11n, s81_12, s81_15, s81_16, s81_16o, s81_16n, s81_17, s81_20, s81_21, s81_22, s81_25, s81_26, s81_27, s81_30, s81_31, s81_31o, s81_31n, s81_32, s81_35, s81_36, s81_37, s81_37o, s81_37n, s81_38, s81_41, s81_42, s81_42o, s81_42n, s81_43, s81_46, s81_47, s81_48, s81_49, s81_50, s81_53, s81_54, s81_56, s81_57, s81_60, s81_63, s81_63o, s81_63n, s81_64, s81_65, s81_68, s81_69, s81_70, s81_73, s81_76, s81_77, s81_80, s81_81, s81_82, s81_83, s81_86, s81_87, s81_87o, s81_87n, s81_88, s81_91, s81_92, s81_93, s81_96, s81_99, s81_102, or_true, true_or, true_and, and_true, mm_o_some, mm_o_none, mm_bk_v, mm_bk_n, Nat.reduceAdd, mm_s_pi, mm_s_pl, mm_i_pi, mm_l_pi, mm_i_pl, h1, hC.1, iC, har, false_and, if_false, Nat.reduceLeDiff, Nat.le_refl, zI_2, zI_mul, zI_add, hl, lp]
  rfl

end
