/-! THE CLASS: LOADS -/
section
variable {d : Nat} {h h' : mm_H} {Q : mm_Q} {L n a b q t u i r e j na bL told : Nat} {W p A : Nat → Int} {m mk : Int} {R bR : zR} {P : Nat → Nat → Int} {sp : Bool} {T : Nat → Prop} {x x2 x3 x4 : Int32} {l : List Int}
theorem c99t (H : zCl h W n P mk sp bL bR na A) (hj : j < na) (ha : na ≤ 6) : mm_wp d 99 0 [.ref 140, .int (nI j)] [] h Q ↔ Q (.inl (some (.int 1))) h := by
  simp only [s99_0, s99_1, s99_4, s99_5, s99_6, s99_9, s99_12, s99_13, s99_16, s99_17, or_true, true_or, true_and, and_true, mm_o_some, mm_o_none, mm_bk_v, mm_bk_n, Nat.reduceAdd, if_neg (nI_pos (show j < 2 ^ 31 by omega)), kS140 H.1, H.2.2.2.2.2.2.2.2.1, if_neg (nI_ge hj (by omega))]
theorem c99f (H : zCl h W n P mk sp bL bR na A) (hj : na ≤ j) (hj2 : j < 100) : mm_wp d 99 0 [.ref 140, .int (nI j)] [] h Q ↔ Q (.inl (some (.int 0))) h := by
  simp only [s99_0, s99_1, s99_4, s99_5, s99_6, s99_9, s99_12, s99_13, s99_16, s99_17, or_true, true_or, true_and, and_true, mm_o_some, mm_o_none, mm_bk_v, mm_bk_n, Nat.reduceAdd, if_neg (nI_pos (show j < 2 ^ 31 by omega)), kS140 H.1, H.2.2.2.2.2.2.2.2.1, if_pos (nI_le hj (by omega))]
theorem c99x (H : zCl h W n P mk sp bL bR na A) (hx : x < 0 ∨ (¬ x < 0 ∧ ¬ x < nI na)) : mm_wp d 99 0 [.ref 140, .int x] [] h Q ↔ Q (.inl (some (.int 0))) h := by
  rcases hx with g | ⟨g1, g2⟩
  · simp only [s99_0, s99_1, s99_4, s99_5, s99_6, s99_9, s99_12, s99_13, s99_16, s99_17, or_true, true_or, true_and, and_true, mm_o_some, mm_o_none, mm_bk_v, mm_bk_n, Nat.reduceAdd, if_pos g]
  · simp only [s99_0, s99_1, s99_4, s99_5, s99_6, s99_9, s99_12, s99_13, s99_16, s99_17, or_true, true_or, true_and, and_true, mm_o_some, mm_o_none, mm_bk_v, mm_bk_n, Nat.reduceAdd, if_neg g1, kS140 H.1, H.2.2.2.2.2.2.2.2.1, if_pos (Int32.not_lt.mp g2)]
theorem nI_0m : nI 0 - 1 = (-1 : Int32) := rfl
theorem c101z (H : zCl h W n P mk sp bL bR na A) (ha : na ≤ 6) (hj : j < na) : mm_wp (d + 1) 101 0 [.ref 140, .int (nI j)] [] h Q ↔ Q (.inl (some (.int (zI (zGp na A j))))) h := by
  have e2 := H.2.2.2.2.2.2.2.2.2
  have hin : mm_in (nI j) 6 = true := mm_inN (by omega) (by omega)
  have hcl : (nI j).toNatClampNeg = j := nI_clamp (by omega)
  by_cases g : j + 1 < na
  · have hin1 : mm_in (nI (j + 1)) 6 = true := mm_inN (by omega) (by omega)
    have hcl1 : (nI (j + 1)).toNatClampNeg = j + 1 := nI_clamp (by omega)
    simp only [s101_0, s101_1, s101_2, s101_5, s101_8, s101_9, s101_10, s101_11, s101_12, s101_15, s101_18, s101_19, s101_20, s101_23, s101_24, s101_25, s101_26, s101_27, s101_28, s101_31, s101_32, s101_33, s101_34, s101_35, s101_38, s101_39, or_true, true_or, true_and, and_true, mm_o_some, mm_o_none, mm_bk_v, mm_bk_n, Nat.reduceAdd, kS140 H.1, c99t H hj ha, if_neg n10, nI_1, c99t H g ha, kR140_0 H.1, kS141 H.1, hin, hin1, hcl, hcl1, e2 j hj, e2 (j + 1) g, zI_sub, zI_2, zI_mul, zGp, if_pos g]
  · simp only [s101_0, s101_1, s101_2, s101_5, s101_8, s101_9, s101_10, s101_11, s101_12, s101_15, s101_18, s101_19, s101_20, s101_23, s101_24, s101_25, s101_26, s101_27, s101_28, s101_31, s101_32, s101_33, s101_34, s101_35, s101_38, s101_39, or_true, true_or, true_and, and_true, mm_o_some, mm_o_none, mm_bk_v, mm_bk_n, Nat.reduceAdd, kS140 H.1, c99t H hj ha, if_neg n10, nI_1, c99f H (show na ≤ j + 1 by omega) (by omega), if_true, zGp, if_neg g]
    exact Iff.rfl
theorem c101m (H : zCl h W n P mk sp bL bR na A) (ha : na ≤ 6) (hj : j < na) : mm_wp (d + 1) 101 0 [.ref 140, .int (nI j - 1)] [] h Q ↔ Q (.inl (some (.int (zI (zBe na A j))))) h := by
  by_cases g : j = 0
  · subst g
    have hx : (-1 : Int32) < 0 ∨ (¬ (-1 : Int32) < 0 ∧ ¬ (-1 : Int32) < nI na) := Or.inl (by decide)
    simp only [s101_0, s101_1, s101_2, s101_5, s101_8, s101_9, s101_10, s101_11, s101_12, s101_15, s101_18, s101_19, s101_20, s101_23, s101_24, s101_25, s101_26, s101_27, s101_28, s101_31, s101_32, s101_33, s101_34, s101_35, s101_38, s101_39, or_true, true_or, true_and, and_true, mm_o_some, mm_o_none, mm_bk_v, mm_bk_n, Nat.reduceAdd, nI_0m, kS140 H.1, c99x H hx, if_true, zBe]
    exact Iff.rfl
  · rw [nI_m1 (by omega), c101z H ha (by omega), zBe, if_neg g]
theorem c103_loop (H : zCl h W n P mk sp bL bR na A) (hA : zAok na A) (hm : zr m) : ∀ k i, 1 ≤ i → i + k = na - 1 → (mm_wp d 103 4 [.ref 140, .int (zI m), .int (nI (zG1 A m (i - 1))), .int (nI i)] [] h Q ↔ Q (.inl (some (.int (nI (zG1 A m (na - 2)))))) h) := by
  have e1 := H.2.2.2.2.2.2.2.2.1
  have e2 := H.2.2.2.2.2.2.2.2.2
  have ha := hA.1
  intro k
  induction k with
  | zero =>
    intro i hi1 hi
    have c : nI (na - 1) ≤ nI i := nI_le (by omega) (by omega)
    rw [s103_4]
    simp only [s103_5, s103_6, s103_9, s103_10, s103_11, s103_14, s103_15, s103_16, s103_19, s103_20, s103_21, s103_22, s103_23, s103_26, s103_27, s103_28, s103_31, s103_34, s103_35, or_true, true_or, true_and, and_true, mm_o_some, mm_o_none, mm_bk_v, mm_bk_n, Nat.reduceAdd, kS140 H.1, e1, nI_m1 (show 0 < na by omega), if_pos c, show i - 1 = na - 2 by omega]
  | succ k ih =>
    intro i hi1 hi
    have c : ¬ nI (na - 1) ≤ nI i := nI_ge (by omega) (by omega)
    have hin : mm_in (nI i) 6 = true := mm_inN (by omega) (by omega)
    have hcl : (nI i).toNatClampNeg = i := nI_clamp (by omega)
    have ai := hA.2.1 i (by omega)
    have r1 : zr (2 * A i) := by simp only [zr]; omega
    rw [s103_4]
    simp only [s103_5, s103_6, s103_9, s103_10, s103_11, s103_14, s103_15, s103_16, s103_19, s103_20, s103_21, s103_22, s103_23, s103_26, s103_27, s103_28, s103_31, s103_34, s103_35, or_true, true_or, true_and, and_true, mm_o_some, mm_o_none, mm_bk_v, mm_bk_n, Nat.reduceAdd, kS140 H.1, kR140_0 H.1, kS141 H.1, e1, nI_m1 (show 0 < na by omega), if_neg c, hin, hcl, e2 i (by omega), zI_2, zI_mul, zI_lt hm r1, nI_1]
    have ih' := ih (i + 1) (by omega) (by omega)
    rw [show i + 1 - 1 = (i - 1) + 1 by omega, zG1, show i - 1 + 1 = i by omega] at ih'
    by_cases g : m < 2 * A i
    · rw [if_pos g]
      rw [if_neg (show ¬ 2 * A i ≤ m by omega)] at ih'
      exact ih'
    · rw [if_neg g]
      rw [if_pos (show 2 * A i ≤ m by omega)] at ih'
      exact ih'
theorem c103z (H : zCl h W n P mk sp bL bR na A) (hA : zAok na A) (hm : zr m) (h0 : 0 < na) (v2 v3 : Value) : mm_wp d 103 0 [.ref 140, .int (zI m), v2, v3] [] h Q ↔ Q (.inl (some (.int (nI (zG1 A m (na - 2)))))) h := by
  simp only [s103_0, s103_1, s103_2, s103_3]
  by_cases g : na = 1
  · subst g
    have e1 := H.2.2.2.2.2.2.2.2.1
    have c : nI (1 - 1) ≤ (1 : Int32) := by decide
    rw [s103_4]
    simp only [s103_5, s103_6, s103_9, s103_10, s103_11, s103_14, s103_15, s103_16, s103_19, s103_20, s103_21, s103_22, s103_23, s103_26, s103_27, s103_28, s103_31, s103_34, s103_35, or_true, true_or, true_and, and_true, mm_o_some, mm_o_none, mm_bk_v, mm_bk_n, Nat.reduceAdd, kS140 H.1, e1, nI_m1 (show 0 < 1 by omega), if_pos c]
    exact Iff.rfl
  · have := c103_loop (d := d) (Q := Q) H hA hm (na - 2) 1 (by omega) (by omega)
    rw [nI_lit1, show nI (zG1 A m (1 - 1)) = 0 from rfl] at this
    exact this
theorem zG1_le : ∀ k, zG1 A m k ≤ k := by
  intro k
  induction k with
  | zero => exact Nat.le_refl _
  | succ k ih =>
    simp only [zG1]
    split <;> omega
theorem c102_loop (H : zCl h W n P mk sp bL bR na A) (hA : zAok na A) (hO : ∀ i, i < bL → zOk (bR i)) (hj : j < na) : ∀ k i, i + k = bL → ∀ v6 v7 : Value, (mm_wp (d + 1) 102 5 [.ref 140, .int (nI j), .ref 32, .long (zL (zSB na A bR j i)), mm_j, .int (nI i), v6, v7] [] h Q ↔ Q (.inl (some (.long (zL (zSB na A bR j bL))))) h) := by
  have hR := H.2.2.2.1.1
  have hb := hR.2.1
  have ha := hA.1
  have e2 := H.2.2.2.2.2.2.2.2.2
  intro k
  induction k with
  | zero =>
    intro i hi v6 v7
    obtain rfl : i = bL := by omega
    rw [s102_5]
    simp only [s102_7, s102_7o, s102_7n, s102_8, s102_11, s102_14, s102_14o, s102_14n, s102_15, s102_18, s102_20, s102_21, s102_21o, s102_21n, s102_23, s102_24, s102_24o, s102_24n, s102_26, s102_29, s102_30, s102_30o, s102_30n, s102_32, s102_35, s102_36, s102_38, s102_39, s102_40, s102_41, s102_42, s102_45, s102_48, s102_49, s102_51, s102_54, s102_55, s102_56, s102_57, s102_60, s102_61, s102_61o, s102_61n, s102_63, s102_66, s102_67, s102_69, s102_70, s102_71, s102_74, s102_75, s102_76, s102_77, s102_78, s102_79, s102_80, s102_81, s102_82, s102_83, s102_84, s102_87, s102_90, s102_91, or_true, true_or, true_and, and_true, mm_o_some, mm_o_none, mm_bk_v, mm_bk_n, Nat.reduceAdd, kS32 H.1, hR.2.2.1, if_pos (Int32.le_refl (nI i))]
  | succ k ih =>
    intro i hi v6 v7
    have c : ¬ nI bL ≤ nI i := nI_ge (by omega) (by omega)
    have hin : mm_in (nI i) 8 = true := mm_inN (by omega) (by omega)
    have hcl : (nI i).toNatClampNeg = i := nI_clamp (by omega)
    have hr : zRec h (32 + 2 + i) (bR i) := hR.2.2.2 i (by omega)
    rw [show 32 + 2 + i = 34 + i by omega] at hr
    have o := hO i (by omega)
    have mr := zMd_r o
    have rm : zr (zMd (bR i)) := by simp only [zr]; omega
    have em : zI 2 * zI (bR i 5) + zI (bR i 11) = zI (zMd (bR i)) := by rw [zI_mul, zI_add]; rfl
    have em' : zI (2 * bR i 5) + zI (bR i 11) = zI (zMd (bR i)) := by rw [zI_add]; rfl
    have ih' := fun v6 v7 => ih (i + 1) (by omega) v6 v7
    have es : zSB na A bR j (i + 1) = zSB na A bR j i + (if 1 ≤ j ∧ zG1 A (zMd (bR i)) (na - 2) = j - 1 then bR i 12 * (zMd (bR i) - 2 * A (j - 1)) else 0) := rfl
    rw [s102_5]
    by_cases g0 : j = 0
    · have hx : (-1 : Int32) < 0 ∨ (¬ (-1 : Int32) < 0 ∧ ¬ (-1 : Int32) < nI na) := Or.inl (by decide)
      rw [es, if_neg (by omega), Int.add_zero] at ih'
      simp only [g0] at ih' ⊢
      simp only [s102_7, s102_7o, s102_7n, s102_8, s102_11, s102_14, s102_14o, s102_14n, s102_15, s102_18, s102_20, s102_21, s102_21o, s102_21n, s102_23, s102_24, s102_24o, s102_24n, s102_26, s102_29, s102_30, s102_30o, s102_30n, s102_32, s102_35, s102_36, s102_38, s102_39, s102_40, s102_41, s102_42, s102_45, s102_48, s102_49, s102_51, s102_54, s102_55, s102_56, s102_57, s102_60, s102_61, s102_61o, s102_61n, s102_63, s102_66, s102_67, s102_69, s102_70, s102_71, s102_74, s102_75, s102_76, s102_77, s102_78, s102_79, s102_80, s102_81, s102_82, s102_83, s102_84, s102_87, s102_90, s102_91, or_true, true_or, true_and, and_true, mm_o_some, mm_o_none, mm_bk_v, mm_bk_n, Nat.reduceAdd, kS32 H.1, kR32_0 H.1, kS33 H.1, hR.2.2.1, if_neg c, hin, hcl, kR_bslots H.1 (show i < 8 by omega), Nat.reduceLeDiff, hr.1, hr.2 5 (by decide) (by decide), hr.2 11 (by decide) (by decide), zI_2, em, nI_0m, kS140 H.1, c99x H hx, if_true, nI_1]
      exact ih' _ _
    · have hg := zG1_le (A := A) (m := zMd (bR i)) (na - 2)
      have hinj : mm_in (nI (j - 1)) 6 = true := mm_inN (by omega) (by omega)
      have hclj : (nI (j - 1)).toNatClampNeg = j - 1 := nI_clamp (by omega)
      have aj := hA.2.1 (j - 1) (by omega)
      by_cases g1 : zG1 A (zMd (bR i)) (na - 2) = j - 1
      · have d1 : zr (bR i 12) := o.r 12 (by decide) (by decide)
        have d2 : zr (zMd (bR i) - 2 * A (j - 1)) := by simp only [zr]; omega
        rw [es, if_pos ⟨by omega, g1⟩] at ih'
        simp only [s102_7, s102_7o, s102_7n, s102_8, s102_11, s102_14, s102_14o, s102_14n, s102_15, s102_18, s102_20, s102_21, s102_21o, s102_21n, s102_23, s102_24, s102_24o, s102_24n, s102_26, s102_29, s102_30, s102_30o, s102_30n, s102_32, s102_35, s102_36, s102_38, s102_39, s102_40, s102_41, s102_42, s102_45, s102_48, s102_49, s102_51, s102_54, s102_55, s102_56, s102_57, s102_60, s102_61, s102_61o, s102_61n, s102_63, s102_66, s102_67, s102_69, s102_70, s102_71, s102_74, s102_75, s102_76, s102_77, s102_78, s102_79, s102_80, s102_81, s102_82, s102_83, s102_84, s102_87, s102_90, s102_91, or_true, true_or, true_and, and_true, mm_o_some, mm_o_none, mm_bk_v, mm_bk_n, Nat.reduceAdd, kS32 H.1, kR32_0 H.1, kS33 H.1, hR.2.2.1, if_neg c, hin, hcl, kR_bslots H.1 (show i < 8 by omega), Nat.reduceLeDiff, hr.1, hr.2 5 (by decide) (by decide), hr.2 11 (by decide) (by decide), hr.2 12 (by decide) (by decide), zI_2, em, nI_m1 (show 0 < j by omega), kS140 H.1, c99t H (show j - 1 < na by omega) ha, if_neg n10, c103z H hA rm (show 0 < na by omega), g1, if_true, kR140_0 H.1, kS141 H.1, hinj, hclj, e2 (j - 1) (by omega), zI_mul, em', zI_sub, zI_l d1, zI_l d2, zL_mul, zL_add, nI_1]
        exact ih' _ _
      · have c1 : ¬ nI (zG1 A (zMd (bR i)) (na - 2)) = nI (j - 1) := by rw [nI_eq (by omega) (by omega)]; exact g1
        rw [es, if_neg (fun q => g1 q.2), Int.add_zero] at ih'
        simp only [s102_7, s102_7o, s102_7n, s102_8, s102_11, s102_14, s102_14o, s102_14n, s102_15, s102_18, s102_20, s102_21, s102_21o, s102_21n, s102_23, s102_24, s102_24o, s102_24n, s102_26, s102_29, s102_30, s102_30o, s102_30n, s102_32, s102_35, s102_36, s102_38, s102_39, s102_40, s102_41, s102_42, s102_45, s102_48, s102_49, s102_51, s102_54, s102_55, s102_56, s102_57, s102_60, s102_61, s102_61o, s102_61n, s102_63, s102_66, s102_67, s102_69, s102_70, s102_71, s102_74, s102_75, s102_76, s102_77, s102_78, s102_79, s102_80, s102_81, s102_82, s102_83, s102_84, s102_87, s102_90, s102_91, or_true, true_or, true_and, and_true, mm_o_some, mm_o_none, mm_bk_v, mm_bk_n, Nat.reduceAdd, kS32 H.1, kR32_0 H.1, kS33 H.1, hR.2.2.1, if_neg c, hin, hcl, kR_bslots H.1 (show i < 8 by omega), Nat.reduceLeDiff, hr.1, hr.2 5 (by decide) (by decide), hr.2 11 (by decide) (by decide), zI_2, em, nI_m1 (show 0 < j by omega), kS140 H.1, c99t H (show j - 1 < na by omega) ha, if_neg n10, c103z H hA rm (show 0 < na by omega), if_neg c1, nI_1]
        exact ih' _ _
theorem c104_loop (H : zCl h W n P mk sp bL bR na A) (hA : zAok na A) (hO : ∀ i, i < bL → zOk (bR i)) (hj : j < na) : ∀ k i, i + k = bL → ∀ v6 v7 : Value, (mm_wp (d + 1) 104 5 [.ref 140, .int (nI j), .ref 32, .long (zL (zSH na A bR j i)), mm_j, .int (nI i), v6, v7] [] h Q ↔ Q (.inl (some (.long (zL (zSH na A bR j bL))))) h) := by
  have hR := H.2.2.2.1.1
  have hb := hR.2.1
  have ha := hA.1
  have e1 := H.2.2.2.2.2.2.2.2.1
  have e2 := H.2.2.2.2.2.2.2.2.2
  intro k
  induction k with
  | zero =>
    intro i hi v6 v7
    obtain rfl : i = bL := by omega
    rw [s104_5]
    simp only [s104_7, s104_7o, s104_7n, s104_8, s104_11, s104_14, s104_14o, s104_14n, s104_15, s104_18, s104_20, s104_21, s104_21o, s104_21n, s104_23, s104_24, s104_24o, s104_24n, s104_26, s104_29, s104_30, s104_30o, s104_30n, s104_32, s104_35, s104_36, s104_38, s104_39, s104_42, s104_43, s104_46, s104_47, s104_47o, s104_47n, s104_49, s104_52, s104_53, s104_54, s104_55, s104_58, s104_59, s104_60, s104_61, s104_62, s104_65, s104_68, s104_69, s104_71, s104_74, s104_75, s104_78, s104_79, s104_79o, s104_79n, s104_81, s104_84, s104_85, s104_86, s104_87, s104_90, s104_91, s104_92, s104_93, s104_94, s104_95, s104_97, s104_98, s104_99, s104_100, s104_101, s104_102, s104_105, s104_108, s104_109, or_true, true_or, true_and, and_true, mm_o_some, mm_o_none, mm_bk_v, mm_bk_n, Nat.reduceAdd, kS32 H.1, hR.2.2.1, if_pos (Int32.le_refl (nI i))]
  | succ k ih =>
    intro i hi v6 v7
    have c : ¬ nI bL ≤ nI i := nI_ge (by omega) (by omega)
    have hin : mm_in (nI i) 8 = true := mm_inN (by omega) (by omega)
    have hcl : (nI i).toNatClampNeg = i := nI_clamp (by omega)
    have hr : zRec h (32 + 2 + i) (bR i) := hR.2.2.2 i (by omega)
    rw [show 32 + 2 + i = 34 + i by omega] at hr
    have o := hO i (by omega)
    have mr := zMd_r o
    have rm : zr (zMd (bR i)) := by simp only [zr]; omega
    have em : zI 2 * zI (bR i 5) + zI (bR i 11) = zI (zMd (bR i)) := by rw [zI_mul, zI_add]; rfl
    have em' : zI (2 * bR i 5) + zI (bR i 11) = zI (zMd (bR i)) := by rw [zI_add]; rfl
    have d1 : zr (bR i 12) := o.r 12 (by decide) (by decide)
    have ih' := fun v6 v7 => ih (i + 1) (by omega) v6 v7
    have es : zSH na A bR j (i + 1) = zSH na A bR j i + (if na = 1 then bR i 12 else if j + 1 < na ∧ zG1 A (zMd (bR i)) (na - 2) = j then bR i 12 * (2 * A (j + 1) - zMd (bR i)) else 0) := rfl
    rw [s104_5]
    by_cases g0 : na = 1
    · have c1 : nI na = 1 := by rw [g0]; rfl
      rw [es, if_pos g0] at ih'
      simp only [s104_7, s104_7o, s104_7n, s104_8, s104_11, s104_14, s104_14o, s104_14n, s104_15, s104_18, s104_20, s104_21, s104_21o, s104_21n, s104_23, s104_24, s104_24o, s104_24n, s104_26, s104_29, s104_30, s104_30o, s104_30n, s104_32, s104_35, s104_36, s104_38, s104_39, s104_42, s104_43, s104_46, s104_47, s104_47o, s104_47n, s104_49, s104_52, s104_53, s104_54, s104_55, s104_58, s104_59, s104_60, s104_61, s104_62, s104_65, s104_68, s104_69, s104_71, s104_74, s104_75, s104_78, s104_79, s104_79o, s104_79n, s104_81, s104_84, s104_85, s104_86, s104_87, s104_90, s104_91, s104_92, s104_93, s104_94, s104_95, s104_97, s104_98, s104_99, s104_100, s104_101, s104_102, s104_105, s104_108, s104_109, or_true, true_or, true_and, and_true, mm_o_some, mm_o_none, mm_bk_v, mm_bk_n, Nat.reduceAdd, kS32 H.1, kR32_0 H.1, kS33 H.1, hR.2.2.1, if_neg c, hin, hcl, kR_bslots H.1 (show i < 8 by omega), Nat.reduceLeDiff, hr.1, hr.2 5 (by decide) (by decide), hr.2 11 (by decide) (by decide), hr.2 12 (by decide) (by decide), zI_2, em, kS140 H.1, e1, if_pos c1, zI_l d1, zL_add, nI_1]
      exact ih' _ _
    · have c1 : ¬ nI na = 1 := by rw [← nI_lit1, nI_eq (by omega) (by omega)]; exact g0
      rw [es, if_neg g0] at ih'
      by_cases g1 : j + 1 < na
      · have hinj : mm_in (nI (j + 1)) 6 = true := mm_inN (by omega) (by omega)
        have hclj : (nI (j + 1)).toNatClampNeg = j + 1 := nI_clamp (by omega)
        have aj := hA.2.1 (j + 1) (by omega)
        have hg := zG1_le (A := A) (m := zMd (bR i)) (na - 2)
        by_cases g2 : zG1 A (zMd (bR i)) (na - 2) = j
        · have d2 : zr (2 * A (j + 1) - zMd (bR i)) := by simp only [zr]; omega
          rw [if_pos ⟨g1, g2⟩] at ih'
          simp only [s104_7, s104_7o, s104_7n, s104_8, s104_11, s104_14, s104_14o, s104_14n, s104_15, s104_18, s104_20, s104_21, s104_21o, s104_21n, s104_23, s104_24, s104_24o, s104_24n, s104_26, s104_29, s104_30, s104_30o, s104_30n, s104_32, s104_35, s104_36, s104_38, s104_39, s104_42, s104_43, s104_46, s104_47, s104_47o, s104_47n, s104_49, s104_52, s104_53, s104_54, s104_55, s104_58, s104_59, s104_60, s104_61, s104_62, s104_65, s104_68, s104_69, s104_71, s104_74, s104_75, s104_78, s104_79, s104_79o, s104_79n, s104_81, s104_84, s104_85, s104_86, s104_87, s104_90, s104_91, s104_92, s104_93, s104_94, s104_95, s104_97, s104_98, s104_99, s104_100, s104_101, s104_102, s104_105, s104_108, s104_109, or_true, true_or, true_and, and_true, mm_o_some, mm_o_none, mm_bk_v, mm_bk_n, Nat.reduceAdd, kS32 H.1, kR32_0 H.1, kS33 H.1, hR.2.2.1, if_neg c, hin, hcl, kR_bslots H.1 (show i < 8 by omega), Nat.reduceLeDiff, hr.1, hr.2 5 (by decide) (by decide), hr.2 11 (by decide) (by decide), hr.2 12 (by decide) (by decide), zI_2, em, kS140 H.1, e1, if_neg c1, nI_1, c99t H g1 ha, if_neg n10, c103z H hA rm (show 0 < na by omega), g2, if_true, kR140_0 H.1, kS141 H.1, hinj, hclj, e2 (j + 1) g1, zI_mul, em', zI_sub, zI_l d1, zI_l d2, zL_mul, zL_add]
          exact ih' _ _
        · have c2 : ¬ nI (zG1 A (zMd (bR i)) (na - 2)) = nI j := by rw [nI_eq (by omega) (by omega)]; exact g2
          rw [if_neg (fun q => g2 q.2), Int.add_zero] at ih'
          simp only [s104_7, s104_7o, s104_7n, s104_8, s104_11, s104_14, s104_14o, s104_14n, s104_15, s104_18, s104_20, s104_21, s104_21o, s104_21n, s104_23, s104_24, s104_24o, s104_24n, s104_26, s104_29, s104_30, s104_30o, s104_30n, s104_32, s104_35, s104_36, s104_38, s104_39, s104_42, s104_43, s104_46, s104_47, s104_47o, s104_47n, s104_49, s104_52, s104_53, s104_54, s104_55, s104_58, s104_59, s104_60, s104_61, s104_62, s104_65, s104_68, s104_69, s104_71, s104_74, s104_75, s104_78, s104_79, s104_79o, s104_79n, s104_81, s104_84, s104_85, s104_86, s104_87, s104_90, s104_91, s104_92, s104_93, s104_94, s104_95, s104_97, s104_98, s104_99, s104_100, s104_101, s104_102, s104_105, s104_108, s104_109, or_true, true_or, true_and, and_true, mm_o_some, mm_o_none, mm_bk_v, mm_bk_n, Nat.reduceAdd, kS32 H.1, kR32_0 H.1, kS33 H.1, hR.2.2.1, if_neg c, hin, hcl, kR_bslots H.1 (show i < 8 by omega), Nat.reduceLeDiff, hr.1, hr.2 5 (by decide) (by decide), hr.2 11 (by decide) (by decide), zI_2, em, kS140 H.1, e1, if_neg c1, nI_1, c99t H g1 ha, if_neg n10, c103z H hA rm (show 0 < na by omega), if_neg c2]
          exact ih' _ _
      · rw [if_neg (fun q => g1 q.1), Int.add_zero] at ih'
        simp only [s104_7, s104_7o, s104_7n, s104_8, s104_11, s104_14, s104_14o, s104_14n, s104_15, s104_18, s104_20, s104_21, s104_21o, s104_21n, s104_23, s104_24, s104_24o, s104_24n, s104_26, s104_29, s104_30, s104_30o, s104_30n, s104_32, s104_35, s104_36, s104_38, s104_39, s104_42, s104_43, s104_46, s104_47, s104_47o, s104_47n, s104_49, s104_52, s104_53, s104_54, s104_55, s104_58, s104_59, s104_60, s104_61, s104_62, s104_65, s104_68, s104_69, s104_71, s104_74, s104_75, s104_78, s104_79, s104_79o, s104_79n, s104_81, s104_84, s104_85, s104_86, s104_87, s104_90, s104_91, s104_92, s104_93, s104_94, s104_95, s104_97, s104_98, s104_99, s104_100, s104_101, s104_102, s104_105, s104_108, s104_109, or_true, true_or, true_and, and_true, mm_o_some, mm_o_none, mm_bk_v, mm_bk_n, Nat.reduceAdd, kS32 H.1, kR32_0 H.1, kS33 H.1, hR.2.2.1, if_neg c, hin, hcl, kR_bslots H.1 (show i < 8 by omega), Nat.reduceLeDiff, hr.1, hr.2 5 (by decide) (by decide), hr.2 11 (by decide) (by decide), zI_2, em, kS140 H.1, e1, if_neg c1, nI_1, c99f H (show na ≤ j + 1 by omega) (by omega), if_true]
        exact ih' _ _
theorem c100z (H : zCl h W n P mk sp bL bR na A) (hA : zAok na A) (hO : ∀ i, i < bL → zOk (bR i)) (hj : j < na) {pt : Int} (hp : pt = 0 ∨ pt = 1) (v4 v5 v6 v7 v8 v9 : Value) : mm_wp (d + 2) 100 0 [.ref 140, .int (nI j), .int (zI pt), .ref 32, v4, v5, v6, v7, v8, v9] [] h Q ↔ Q (.inl (some (.long (zLoad na A bL bR j pt)))) h := by
  have hb := H.2.2.2.1.1.2.1
  have gr := zGp_r (j := j) hA
  have br := zBe_r (j := j) hA
  have r1 : zr (zGp na A j) := by simp only [zr]; omega
  have r2 : zr (zBe na A j) := by simp only [zr]; omega
  have l102 : ∀ Q : mm_Q, mm_wp (d + 1) 102 0 [.ref 140, .int (nI j), .ref 32, mm_j, mm_j, mm_j, mm_j, mm_j] [] h Q ↔ Q (.inl (some (.long (zL (zSB na A bR j bL))))) h := by
    intro Q
    have := c102_loop (d := d) (Q := Q) H hA hO hj bL 0 (by omega) mm_j mm_j
    rw [nI_lit0, show zL (zSB na A bR j 0) = 0 from rfl] at this
    simp only [s102_0, s102_1, s102_2, s102_3]
    exact this
  have l104 : ∀ Q : mm_Q, mm_wp (d + 1) 104 0 [.ref 140, .int (nI j), .ref 32, mm_j, mm_j, mm_j, mm_j, mm_j] [] h Q ↔ Q (.inl (some (.long (zL (zSH na A bR j bL))))) h := by
    intro Q
    have := c104_loop (d := d) (Q := Q) H hA hO hj bL 0 (by omega) mm_j mm_j
    rw [nI_lit0, show zL (zSH na A bR j 0) = 0 from rfl] at this
    simp only [s104_0, s104_1, s104_2, s104_3]
    exact this
  have ea : zSB na A bR j bL * zGp na A j + zSH na A bR j bL * zBe na A j = zAbv na A bL bR j := rfl
  have eb : zBe na A j * zGp na A j = zBlw na A j := rfl
  simp only [s100_0, s100_1, s100_2, s100_3, s100_4, s100_7, s100_8, s100_10, s100_11, s100_12, s100_15, s100_16, s100_18, s100_19, s100_20, s100_20o, s100_20n, s100_21, s100_24, s100_26, s100_27, s100_28, s100_29, s100_29o, s100_29n, s100_30, s100_33, s100_35, s100_36, s100_37, s100_39, s100_41, s100_43, s100_45, s100_46, s100_47, s100_50, or_true, true_or, true_and, and_true, mm_o_some, mm_o_none, mm_bk_v, mm_bk_n, Nat.reduceAdd, kS140 H.1, c101m H hA.1 hj, c101z H hA.1 hj, zI_l r1, zI_l r2, l102, l104, zL_mul, zL_add, ea, eb, c105z (zAbv_r hA hb hO hj) (zBlw_r hA) hp]
  exact Iff.rfl
/-- loads, as the law asks for them -/
theorem w97x (H : zCl h W n P mk sp bL bR na A) (h0 : na = 0) (v4 : Value) : mm_wp (d + 2) 97 0 [.ref 1, .int x, .int x2, .ref 167, v4] [] h Q ↔ Q (.inl (some (.int 1))) (mm_nw h 33 6 6) := by
  have c : nI na = 0 := by rw [h0]; rfl
  simp only [s97_0, s97_0o, s97_0n, s97_1, s97_2, s97_2o, s97_2n, s97_3, s97_4, s97_5, s97_8, s97_9, s97_12, s97_12o, s97_12n, s97_14, s97_15, s97_16, s97_16o, s97_16n, s97_18, s97_19, s97_20, s97_20o, s97_20n, s97_22, s97_23, s97_24, s97_25, s98_0, s98_1, s98_4, s98_7, s98_10, s98_13, s98_14, s98_16, s98_19, s98_20, s98_21, s98_24, s98_25, s98_28, s98_31, s98_34, s98_35, s98_37, s98_40, s98_41, s98_42, s98_43, s98_44, s98_47, s98_50, s98_53, s98_54, s98_56, s98_59, s98_60, s98_61, s98_64, s98_65, s98_66, s98_67, s98_70, s98_73, s98_76, or_true, true_or, true_and, and_true, mm_o_some, mm_o_none, mm_bk_v, mm_bk_n, Nat.reduceAdd, kS1 H.1, kR1_3 H.1, kS140 H.1, H.2.2.2.2.2.2.2.2.1, if_pos c, mm_bk_x, mm_s_ex, Nat.reduceLeDiff, show mm_hnd 97 5 33 = some 12 from rfl]
theorem w97y (H : zCl h W n P mk sp bL bR na A) (h0 : 0 < na) (ha : na ≤ 6) (hx : x < 0 ∨ (¬ x < 0 ∧ ¬ x < nI na)) (v4 : Value) : mm_wp (d + 2) 97 0 [.ref 1, .int x, .int x2, .ref 167, v4] [] h Q ↔ Q (.inl (some (.int 2))) (mm_nw h 32 6 6) := by
  have c : ¬ nI na = 0 := nI_ne0 h0 (by omega)
  simp only [s97_0, s97_0o, s97_0n, s97_1, s97_2, s97_2o, s97_2n, s97_3, s97_4, s97_5, s97_8, s97_9, s97_12, s97_12o, s97_12n, s97_14, s97_15, s97_16, s97_16o, s97_16n, s97_18, s97_19, s97_20, s97_20o, s97_20n, s97_22, s97_23, s97_24, s97_25, s98_0, s98_1, s98_4, s98_7, s98_10, s98_13, s98_14, s98_16, s98_19, s98_20, s98_21, s98_24, s98_25, s98_28, s98_31, s98_34, s98_35, s98_37, s98_40, s98_41, s98_42, s98_43, s98_44, s98_47, s98_50, s98_53, s98_54, s98_56, s98_59, s98_60, s98_61, s98_64, s98_65, s98_66, s98_67, s98_70, s98_73, s98_76, or_true, true_or, true_and, and_true, mm_o_some, mm_o_none, mm_bk_v, mm_bk_n, Nat.reduceAdd, kS1 H.1, kR1_3 H.1, kS140 H.1, H.2.2.2.2.2.2.2.2.1, if_neg c, c99x H hx, if_true, mm_bk_x, mm_s_ex, Nat.reduceLeDiff, show mm_hnd 97 5 32 = some 16 from rfl]
theorem w97w (H : zCl h W n P mk sp bL bR na A) (ha : na ≤ 6) (hj : j < na) (hx : ¬ (0 ≤ x2.toInt ∧ x2.toInt ≤ 1)) (v4 : Value) : mm_wp (d + 2) 97 0 [.ref 1, .int (nI j), .int x2, .ref 167, v4] [] h Q ↔ Q (.inl (some (.int 3))) (mm_nw h 30 6 6) := by
  have c : ¬ nI na = 0 := nI_ne0 (by omega) (by omega)
  simp only [s97_0, s97_0o, s97_0n, s97_1, s97_2, s97_2o, s97_2n, s97_3, s97_4, s97_5, s97_8, s97_9, s97_12, s97_12o, s97_12n, s97_14, s97_15, s97_16, s97_16o, s97_16n, s97_18, s97_19, s97_20, s97_20o, s97_20n, s97_22, s97_23, s97_24, s97_25, s98_0, s98_1, s98_4, s98_7, s98_10, s98_13, s98_14, s98_16, s98_19, s98_20, s98_21, s98_24, s98_25, s98_28, s98_31, s98_34, s98_35, s98_37, s98_40, s98_41, s98_42, s98_43, s98_44, s98_47, s98_50, s98_53, s98_54, s98_56, s98_59, s98_60, s98_61, s98_64, s98_65, s98_66, s98_67, s98_70, s98_73, s98_76, or_true, true_or, true_and, and_true, mm_o_some, mm_o_none, mm_bk_v, mm_bk_n, Nat.reduceAdd, kS1 H.1, kR1_3 H.1, kS140 H.1, H.2.2.2.2.2.2.2.2.1, if_neg c, c99t H hj ha, if_neg n10, c25, i32_0, i32_1, if_neg hx, if_true, mm_bk_x, mm_s_ex, Nat.reduceLeDiff, show mm_hnd 97 5 30 = some 20 from rfl]
theorem w97z (H : zCl h W n P mk sp bL bR na A) (hA : zAok na A) (hO : ∀ i, i < bL → zOk (bR i)) (hj : j < na) (hx : 0 ≤ x2.toInt ∧ x2.toInt ≤ 1) (v4 : Value) : mm_wp (d + 4) 97 0 [.ref 1, .int (nI j), .int x2, .ref 167, v4] [] h Q ↔ Q (.inl (some (.int 0))) (mm_pl h 167 0 (zLoad na A bL bR j x2.toInt)) := by
  have ha := hA.1
  have c : ¬ nI na = 0 := nI_ne0 (by omega) (by omega)
  have l100 : ∀ (Q : mm_Q) (v4 v5 v6 v7 v8 v9 : Value), mm_wp (d + 2) 100 0 [.ref 140, .int (nI j), .int x2, .ref 32, v4, v5, v6, v7, v8, v9] [] h Q ↔ Q (.inl (some (.long (zLoad na A bL bR j x2.toInt)))) h := by
    intro Q v4 v5 v6 v7 v8 v9
    have := c100z (d := d) (Q := Q) H hA hO hj (show x2.toInt = 0 ∨ x2.toInt = 1 by omega) v4 v5 v6 v7 v8 v9
    rw [zI_x] at this
    exact this
  simp only [s97_0, s97_0o, s97_0n, s97_1, s97_2, s97_2o, s97_2n, s97_3, s97_4, s97_5, s97_8, s97_9, s97_12, s97_12o, s97_12n, s97_14, s97_15, s97_16, s97_16o, s97_16n, s97_18, s97_19, s97_20, s97_20o, s97_20n, s97_22, s97_23, s97_24, s97_25, s98_0, s98_1, s98_4, s98_7, s98_10, s98_13, s98_14, s98_16, s98_19, s98_20, s98_21, s98_24, s98_25, s98_28, s98_31, s98_34, s98_35, s98_37, s98_40, s98_41, s98_42, s98_43, s98_44, s98_47, s98_50, s98_53, s98_54, s98_56, s98_59, s98_60, s98_61, s98_64, s98_65, s98_66, s98_67, s98_70, s98_73, s98_76, or_true, true_or, true_and, and_true, mm_o_some, mm_o_none, mm_bk_v, mm_bk_n, Nat.reduceAdd, kS1 H.1, kR1_2 H.1, kR1_3 H.1, kS140 H.1, kS21 H.1, kR21_3 H.1, H.2.2.2.2.2.2.2.2.1, if_neg c, c99t H hj ha, if_neg n10, c25, i32_0, i32_1, if_pos hx, l100, kS167 H.1, show mm_in 0 1 = true from rfl, show (0 : Int32).toNatClampNeg = 0 from rfl]
end
