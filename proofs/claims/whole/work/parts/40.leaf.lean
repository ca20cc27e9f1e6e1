/-! CONTRACTS OF LEAVES -/
theorem mm_b0 : ((0 : Int32) = 0 ∨ (0 : Int32) = 1) = True := by decide
theorem mm_b1 : ((1 : Int32) = 0 ∨ (1 : Int32) = 1) = True := by decide
/-- a number of a cell, as a whole number -/
def fI (h : mm_H) (a k : Nat) : Int := (mm_i h a k).toInt
section
variable {d : Nat} {h : mm_H} {Q : mm_Q} {a b c : Nat} {x x2 x3 : Int32}

theorem c3  : mm_wp d 3 0 [.int x, .int x2] [] h Q ↔ Q (.inl (some (.int (if x2 < x then x2 else x)))) h := by
  simp only [s3_0, s3_1, s3_2, s3_5, s3_6, s3_9, s3_10, or_true, true_or, true_and, and_true, mm_o_some, mm_o_none, mm_bk_v, mm_bk_n, Nat.reduceAdd]
  (repeat' split) <;> rfl

theorem c4  : mm_wp d 4 0 [.int x, .int x2] [] h Q ↔ Q (.inl (some (.int (if x < x2 then x2 else x)))) h := by
  simp only [s4_0, s4_1, s4_2, s4_5, s4_6, s4_9, s4_10, or_true, true_or, true_and, and_true, mm_o_some, mm_o_none, mm_bk_v, mm_bk_n, Nat.reduceAdd]
  (repeat' split) <;> rfl

theorem c25  : mm_wp d 25 0 [.int x, .int x2, .int x3] [] h Q ↔ Q (.inl (some (.int (if x2.toInt ≤ x.toInt ∧ x.toInt ≤ x3.toInt then 1 else 0)))) h := by
  by_cases hC : x2.toInt ≤ x.toInt ∧ x.toInt ≤ x3.toInt
  · rw [if_pos hC]
    (try simp only [fI] at hC)
    simp only [s25_0, s25_1, s25_2, s25_5, s25_6, s25_7, s25_10, s25_11, s25_14, s25_15, or_true, true_or, true_and, and_true, mm_o_some, mm_o_none, mm_bk_v, mm_bk_n, Nat.reduceAdd, Int32.lt_iff_toInt_lt, Int32.le_iff_toInt_le]
    (repeat' split) <;> first | rfl | (exfalso; omega)
  · rw [if_neg hC]
    (try simp only [fI] at hC)
    simp only [s25_0, s25_1, s25_2, s25_5, s25_6, s25_7, s25_10, s25_11, s25_14, s25_15, or_true, true_or, true_and, and_true, mm_o_some, mm_o_none, mm_bk_v, mm_bk_n, Nat.reduceAdd, Int32.lt_iff_toInt_lt, Int32.le_iff_toInt_le]
    (repeat' split) <;> first | rfl | (exfalso; omega)

theorem c74 (ha : (mm_s h a).1 = 6) (hb : (mm_s h b).1 = 6) : mm_wp d 74 0 [.ref a, .ref b] [] h Q ↔ Q (.inl (some (.int (if (fI h a 3 < fI h b 6 ∧ fI h b 3 < fI h a 6) ∧ (fI h a 5 < fI h b 8 ∧ fI h b 5 < fI h a 8) ∧ fI h a 4 < fI h b 7 ∧ fI h b 4 < fI h a 7 then 1 else 0)))) h := by
  by_cases hC : (fI h a 3 < fI h b 6 ∧ fI h b 3 < fI h a 6) ∧ (fI h a 5 < fI h b 8 ∧ fI h b 5 < fI h a 8) ∧ fI h a 4 < fI h b 7 ∧ fI h b 4 < fI h a 7
  · rw [if_pos hC]
    (try simp only [fI] at hC)
    simp only [s74_0, s74_1, s74_4, s74_4o, s74_4n, s74_5, s74_8, s74_11, s74_11o, s74_11n, s74_12, s74_15, s74_16, s74_19, s74_22, s74_23, s74_26, s74_26o, s74_26n, s74_27, s74_30, s74_33, s74_33o, s74_33n, s74_34, s74_37, s74_38, s74_41, s74_44, s74_45, s74_48, s74_48o, s74_48n, s74_49, s74_52, s74_55, s74_55o, s74_55n, s74_56, s74_59, s74_60, s74_63, s74_66, s74_67, s74_70, s74_71, or_true, true_or, true_and, and_true, mm_o_some, mm_o_none, mm_bk_v, mm_bk_n, Nat.reduceAdd, ha, hb, Int32.lt_iff_toInt_lt, Int32.le_iff_toInt_le]
    (repeat' split) <;> first | rfl | (exfalso; omega)
  · rw [if_neg hC]
    (try simp only [fI] at hC)
    simp only [s74_0, s74_1, s74_4, s74_4o, s74_4n, s74_5, s74_8, s74_11, s74_11o, s74_11n, s74_12, s74_15, s74_16, s74_19, s74_22, s74_23, s74_26, s74_26o, s74_26n, s74_27, s74_30, s74_33, s74_33o, s74_33n, s74_34, s74_37, s74_38, s74_41, s74_44, s74_45, s74_48, s74_48o, s74_48n, s74_49, s74_52, s74_55, s74_55o, s74_55n, s74_56, s74_59, s74_60, s74_63, s74_66, s74_67, s74_70, s74_71, or_true, true_or, true_and, and_true, mm_o_some, mm_o_none, mm_bk_v, mm_bk_n, Nat.reduceAdd, ha, hb, Int32.lt_iff_toInt_lt, Int32.le_iff_toInt_le]
    (repeat' split) <;> first | rfl | (exfalso; omega)

theorem c76 (ha : (mm_s h a).1 = 6) (hb : (mm_s h b).1 = 6) : mm_wp d 76 0 [.ref a, .ref b] [] h Q ↔ Q (.inl (some (.int (if fI h b 7 ≤ fI h a 4 ∧ (fI h a 3 < fI h b 6 ∧ fI h b 3 < fI h a 6) ∧ fI h a 5 < fI h b 8 ∧ fI h b 5 < fI h a 8 then 1 else 0)))) h := by
  by_cases hC : fI h b 7 ≤ fI h a 4 ∧ (fI h a 3 < fI h b 6 ∧ fI h b 3 < fI h a 6) ∧ fI h a 5 < fI h b 8 ∧ fI h b 5 < fI h a 8
  · rw [if_pos hC]
    (try simp only [fI] at hC)
    simp only [s76_0, s76_1, s76_4, s76_4o, s76_4n, s76_5, s76_8, s76_11, s76_12, s76_15, s76_15o, s76_15n, s76_16, s76_19, s76_22, s76_22o, s76_22n, s76_23, s76_26, s76_27, s76_30, s76_33, s76_34, s76_37, s76_37o, s76_37n, s76_38, s76_41, s76_44, s76_44o, s76_44n, s76_45, s76_48, s76_49, s76_52, s76_55, s76_56, s76_59, s76_60, or_true, true_or, true_and, and_true, mm_o_some, mm_o_none, mm_bk_v, mm_bk_n, Nat.reduceAdd, ha, hb, Int32.lt_iff_toInt_lt, Int32.le_iff_toInt_le]
    (repeat' split) <;> first | rfl | (exfalso; omega)
  · rw [if_neg hC]
    (try simp only [fI] at hC)
    simp only [s76_0, s76_1, s76_4, s76_4o, s76_4n, s76_5, s76_8, s76_11, s76_12, s76_15, s76_15o, s76_15n, s76_16, s76_19, s76_22, s76_22o, s76_22n, s76_23, s76_26, s76_27, s76_30, s76_33, s76_34, s76_37, s76_37o, s76_37n, s76_38, s76_41, s76_44, s76_44o, s76_44n, s76_45, s76_48, s76_49, s76_52, s76_55, s76_56, s76_59, s76_60, or_true, true_or, true_and, and_true, mm_o_some, mm_o_none, mm_bk_v, mm_bk_n, Nat.reduceAdd, ha, hb, Int32.lt_iff_toInt_lt, Int32.le_iff_toInt_le]
    (repeat' split) <;> first | rfl | (exfalso; omega)

theorem c78 (ha : (mm_s h a).1 = 6) (hb : (mm_s h b).1 = 6) : mm_wp d 78 0 [.ref a, .ref b] [] h Q ↔ Q (.inl (some (.int (if fI h b 13 < fI h a 13 ∧ fI h b 8 ≤ fI h a 5 ∧ (fI h a 3 < fI h b 6 ∧ fI h b 3 < fI h a 6) ∧ fI h a 4 < fI h b 7 ∧ fI h b 4 < fI h a 7 then 1 else 0)))) h := by
  by_cases hC : fI h b 13 < fI h a 13 ∧ fI h b 8 ≤ fI h a 5 ∧ (fI h a 3 < fI h b 6 ∧ fI h b 3 < fI h a 6) ∧ fI h a 4 < fI h b 7 ∧ fI h b 4 < fI h a 7
  · rw [if_pos hC]
    (try simp only [fI] at hC)
    simp only [s78_0, s78_1, s78_4, s78_4o, s78_4n, s78_5, s78_8, s78_11, s78_12, s78_15, s78_15o, s78_15n, s78_16, s78_19, s78_22, s78_23, s78_26, s78_26o, s78_26n, s78_27, s78_30, s78_33, s78_33o, s78_33n, s78_34, s78_37, s78_38, s78_41, s78_44, s78_45, s78_48, s78_48o, s78_48n, s78_49, s78_52, s78_55, s78_55o, s78_55n, s78_56, s78_59, s78_60, s78_63, s78_66, s78_67, s78_70, s78_71, or_true, true_or, true_and, and_true, mm_o_some, mm_o_none, mm_bk_v, mm_bk_n, Nat.reduceAdd, ha, hb, Int32.lt_iff_toInt_lt, Int32.le_iff_toInt_le]
    (repeat' split) <;> first | rfl | (exfalso; omega)
  · rw [if_neg hC]
    (try simp only [fI] at hC)
    simp only [s78_0, s78_1, s78_4, s78_4o, s78_4n, s78_5, s78_8, s78_11, s78_12, s78_15, s78_15o, s78_15n, s78_16, s78_19, s78_22, s78_23, s78_26, s78_26o, s78_26n, s78_27, s78_30, s78_33, s78_33o, s78_33n, s78_34, s78_37, s78_38, s78_41, s78_44, s78_45, s78_48, s78_48o, s78_48n, s78_49, s78_52, s78_55, s78_55o, s78_55n, s78_56, s78_59, s78_60, s78_63, s78_66, s78_67, s78_70, s78_71, or_true, true_or, true_and, and_true, mm_o_some, mm_o_none, mm_bk_v, mm_bk_n, Nat.reduceAdd, ha, hb, Int32.lt_iff_toInt_lt, Int32.le_iff_toInt_le]
    (repeat' split) <;> first | rfl | (exfalso; omega)

end
