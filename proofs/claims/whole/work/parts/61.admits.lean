/-! MAY A NEXT PIECE COME -/
theorem zI_n (n : Nat) : nI n = zI n := by
  simp only [nI, zI]
  rfl
theorem nI_m1 {n : Nat} (h : 0 < n) : nI n - 1 = nI (n - 1) := by
  rw [zI_n, zI_n, zI_1, zI_sub, show ((n : Int) - 1) = ((n - 1 : Nat) : Int) by omega]
theorem zLn_b {a b c e m : Int} (h : b - a ≤ m) : zLn a b c e ≤ m := by simp only [zLn]; omega
theorem zRe_b {A C : Nat → Int} (oA : zOk A) : 0 ≤ zRe A C ∧ zRe A C ≤ 40000 := by
  simp only [zRe]
  split
  · rename_i H
    have h1 : zLn (A 3) (A 6) (C 3) (C 6) ≤ 200 := zLn_b (by simp only [zOk] at oA; omega)
    have h2 : zLn (A 5) (A 8) (C 5) (C 8) ≤ 200 := zLn_b (by simp only [zOk] at oA; omega)
    have := Int.mul_le_mul h1 h2 (by omega) (by omega)
    have := Int.mul_pos H.2.1 H.2.2
    omega
  · omega
theorem zSum_b {f : Nat → Int} {m : Int} (n : Nat) (h : ∀ i, i < n → 0 ≤ f i ∧ f i ≤ m) : 0 ≤ zSum f n ∧ zSum f n ≤ n * m := by
  have h1 := zSum_le (f := fun _ => 0) (g := f) n (fun i hi => (h i hi).1)
  have h2 := zSum_le (f := f) (g := fun _ => m) n (fun i hi => (h i hi).2)
  rw [zSum_zero] at h1
  rw [zSum_one] at h2
  exact ⟨h1, h2⟩
theorem zMul_b {a b m n : Int} (ha : 0 ≤ a) (ham : a ≤ m) (hb : 0 ≤ b) (hbn : b ≤ n) : 0 ≤ a * b ∧ a * b ≤ m * n := ⟨Int.mul_nonneg ha hb, Int.mul_le_mul ham hbn hb (by omega)⟩
section
variable {d : Nat} {h : mm_H} {Q : mm_Q} {a b c r L : Nat} {x x2 x3 : Int32} {A C : Nat → Int} {R : zR}
theorem c70z (hA : zRec h a A) (oA : zOk A) (hC : zRec h c C) (oC : zOk C) : mm_wp d 70 0 [.ref a, .ref c] [] h Q ↔ Q (.inl (some (.int (bI (zPast A C))))) h := by
  have iA := hA.2
  have iC := hC.2
  have e1 := zI_eq (oA.r 4 (by decide) (by decide)) (oC.r 4 (by decide) (by decide))
  have e2 := zI_eq (oA.r 5 (by decide) (by decide)) (oC.r 5 (by decide) (by decide))
  have e3 := zI_le (oA.r 4 (by decide) (by decide)) (oC.r 4 (by decide) (by decide))
  have e4 := zI_le (oA.r 5 (by decide) (by decide)) (oC.r 5 (by decide) (by decide))
  have e5 := zI_le (oA.r 3 (by decide) (by decide)) (oC.r 3 (by decide) (by decide))
  simp only [s70_0, s70_1, s70_4, s70_4o, s70_4n, s70_5, s70_8, s70_11, s70_12, s70_15, s70_15o, s70_15n, s70_16, s70_19, s70_22, s70_23, s70_26, s70_27, s70_28, s70_29, s70_32, s70_32o, s70_32n, s70_33, s70_36, s70_39, s70_40, s70_43, s70_43o, s70_43n, s70_44, s70_47, s70_50, s70_51, s70_54, s70_55, s70_58, s70_59, s70_62, s70_62o, s70_62n, s70_63, s70_66, s70_69, s70_70, s70_73, s70_74, or_true, true_or, true_and, and_true, mm_o_some, mm_o_none, mm_bk_v, mm_bk_n, Nat.reduceAdd, hA.1, hC.1, iA, iC, Nat.reduceLeDiff, Nat.le_refl, e1, e2, e3, e4, e5]
  simp only [zPast, bI, decide_eq_true_eq]
  by_cases hP : C 4 < A 4 ∨ A 4 = C 4 ∧ (C 5 < A 5 ∨ A 5 = C 5 ∧ C 3 < A 3)
  · rw [if_pos hP]
    (repeat' split) <;> first | rfl | (exfalso; omega)
  · rw [if_neg hP]
    (repeat' split) <;> first | rfl | (exfalso; omega)

theorem c69z (hR : zRw h r L R) (hO : ∀ i, i < L → zOk (R i)) (hC : zRec h c C) (oC : zOk C) : mm_wp (d + 1) 69 0 [.ref r, .ref c] [] h Q ↔ Q (.inl (some (.int (bI (decide (L = 0) || zPast C (R (L - 1))))))) h := by
  obtain ⟨⟨h1, h2, h3, h4⟩, h6, h5, h7⟩ := hR
  by_cases hL : L = 0
  · have e : nI L = 0 := by rw [hL]; rfl
    simp only [s69_0, s69_1, s69_4, s69_7, s69_7o, s69_7n, s69_8, s69_9, s69_12, s69_13, s69_16, s69_17, s69_18, s69_19, s69_22, s69_25, s69_26, s69_29, s69_30, or_true, true_or, true_and, and_true, mm_o_some, mm_o_none, mm_bk_v, mm_bk_n, Nat.reduceAdd, h1, h5, if_pos e]
    simp [hL, bI]
  · have e : ¬ nI L = 0 := nI_ne0 (by omega) (by omega)
    have hin : mm_in (nI (L - 1)) 8 = true := mm_inN (by omega) (by omega)
    have hcl : (nI (L - 1)).toNatClampNeg = L - 1 := nI_clamp (by omega)
    obtain ⟨p1, p2⟩ := h4 (L - 1) (by omega)
    have hA := h7 (L - 1) (by omega)
    have oA := hO (L - 1) (by omega)
    simp only [s69_0, s69_1, s69_4, s69_7, s69_7o, s69_7n, s69_8, s69_9, s69_12, s69_13, s69_16, s69_17, s69_18, s69_19, s69_22, s69_25, s69_26, s69_29, s69_30, or_true, true_or, true_and, and_true, mm_o_some, mm_o_none, mm_bk_v, mm_bk_n, Nat.reduceAdd, h1, h2, h3, h5, if_neg e, nI_m1 (show 0 < L by omega), hin, hcl, p1, p2, hC.1, Nat.reduceLeDiff, c70z hC oC hA oA, bI_0]
    cases zPast C (R (L - 1)) <;> simp [hL, bI]

theorem c71_loop (hR : zRw h r L R) (hO : ∀ i, i < L → zOk (R i)) (hC : zRec h c C) (oC : zOk C) : ∀ n i s, i + n = L → (mm_wp (d + 2) 71 13 [.ref r, .ref c, .int (zI s), .int (nI i)] [] h Q ↔ Q (.inl (some (.int (if zI (zSumF (fun i => zRe C (R i)) i n s) = zI (C 9 * C 11) then 1 else 0)))) h) := by
  obtain ⟨⟨h1, h2, h3, h4⟩, h6, h5, h7⟩ := hR
  have i9 := hC.2 9 (by decide) (by decide)
  have i11 := hC.2 11 (by decide) (by decide)
  intro n
  induction n with
  | zero =>
    intro i s hi
    have e : nI L ≤ nI i := by rw [show i = L by omega]; exact Int32.le_refl _
    rw [s71_13]
    simp only [s71_0, s71_0o, s71_0n, s71_1, s71_4, s71_7, s71_8, s71_9, s71_10, s71_11, s71_12, s71_14, s71_15, s71_18, s71_21, s71_22, s71_22o, s71_22n, s71_23, s71_24, s71_27, s71_28, s71_29, s71_32, s71_33, s71_34, s71_37, s71_40, s71_41, s71_41o, s71_41n, s71_42, s71_45, s71_45o, s71_45n, s71_46, s71_49, s71_50, s71_53, s71_54, s71_57, s71_58, or_true, true_or, true_and, and_true, mm_o_some, mm_o_none, mm_bk_v, mm_bk_n, Nat.reduceAdd, h1, h5, if_pos e, zSumF, hC.1, i9, i11, zI_mul]
    by_cases q : zI s = zI (C 9 * C 11) <;> simp [q]
  | succ n ih =>
    intro i s hi
    have e : ¬ nI L ≤ nI i := nI_ge (by omega) (by omega)
    have hin : mm_in (nI i) 8 = true := mm_inN (by omega) (by omega)
    have hcl : (nI i).toNatClampNeg = i := nI_clamp (by omega)
    obtain ⟨p1, p2⟩ := h4 i (by omega)
    have hA := h7 i (by omega)
    have oA := hO i (by omega)
    rw [s71_13]
    simp only [s71_0, s71_0o, s71_0n, s71_1, s71_4, s71_7, s71_8, s71_9, s71_10, s71_11, s71_12, s71_14, s71_15, s71_18, s71_21, s71_22, s71_22o, s71_22n, s71_23, s71_24, s71_27, s71_28, s71_29, s71_32, s71_33, s71_34, s71_37, s71_40, s71_41, s71_41o, s71_41n, s71_42, s71_45, s71_45o, s71_45n, s71_46, s71_49, s71_50, s71_53, s71_54, s71_57, s71_58, or_true, true_or, true_and, and_true, mm_o_some, mm_o_none, mm_bk_v, mm_bk_n, Nat.reduceAdd, h1, h2, h3, h5, if_neg e, hin, hcl, p1, p2, hC.1, Nat.reduceLeDiff, nI_1, c72z hC oC hA oA, zI_add, ih (i + 1) _ (by omega), zSumF]
    exact Iff.rfl
theorem c71z (hR : zRw h r L R) (hO : ∀ i, i < L → zOk (R i)) (hC : zRec h c C) (oC : zOk C) (j2 j3 : Value) : mm_wp (d + 2) 71 0 [.ref r, .ref c, j2, j3] [] h Q ↔ Q (.inl (some (.int (bI (decide (C 4 = 0 ∨ zSum (fun i => zRe C (R i)) L = C 9 * C 11)))))) h := by
  have i4 := hC.2 4 (by decide) (by decide)
  have hL := hR.2.1
  have e4 : zI (C 4) = 0 ↔ C 4 = 0 := zI_eq (oC.r 4 (by decide) (by decide)) (b := 0) (by simp only [zr]; omega)
  have lp := fun Q => c71_loop (d := d) (Q := Q) hR hO hC oC L 0 0 (by omega)
  simp only [nI_0, ← zI_0] at lp
  have hs := zSum_b (f := fun i => zRe C (R i)) (m := 40000) L (fun i hi => zRe_b oC)
  have hm := zMul_b (a := C 9) (b := C 11) (m := 200) (n := 200) (by simp only [zOk] at oC; omega) (by simp only [zOk] at oC; omega) (by simp only [zOk] at oC; omega) (by simp only [zOk] at oC; omega)
  have e := zI_eq (a := zSum (fun i => zRe C (R i)) L) (b := C 9 * C 11) (by simp only [zr]; omega) (by simp only [zr]; omega)
  rw [zSumF_sum] at lp
  simp only [s71_0, s71_0o, s71_0n, s71_1, s71_4, s71_7, s71_8, s71_9, s71_10, s71_11, s71_12, s71_14, s71_15, s71_18, s71_21, s71_22, s71_22o, s71_22n, s71_23, s71_24, s71_27, s71_28, s71_29, s71_32, s71_33, s71_34, s71_37, s71_40, s71_41, s71_41o, s71_41n, s71_42, s71_45, s71_45o, s71_45n, s71_46, s71_49, s71_50, s71_53, s71_54, s71_57, s71_58, or_true, true_or, true_and, and_true, mm_o_some, mm_o_none, mm_bk_v, mm_bk_n, Nat.reduceAdd, hC.1, i4, e4, lp, e]
  by_cases q : C 4 = 0
  · rw [if_pos q]; simp [q, bI]
  · rw [if_neg q]; simp [q, bI]

theorem c73z (hR : zRw h r L R) (hO : ∀ i, i < L → zOk (R i)) (hC : zRec h c C) (oC : zOk C) (j2 : Value) : mm_wp (d + 1) 73 0 [.ref r, .ref c, j2] [] h Q ↔ Q (.inl (some (.int (bI (zAll (fun i => !zSh C (R i)) L))))) h := by
  have lp := fun Q => c73_loop (d := d) (Q := Q) hR hO hC oC L 0 (by omega)
  simp only [nI_0] at lp
  rw [s73_0, s73_1, lp, zAllF_all]

theorem c77z (hR : zRw h r L R) (hO : ∀ i, i < L → zOk (R i)) (hC : zRec h c C) (oC : zOk C) (j2 : Value) : mm_wp (d + 1) 77 0 [.ref r, .ref c, j2] [] h Q ↔ Q (.inl (some (.int (bI (zAll (fun i => !(zSt C (R i) || zSt (R i) C)) L))))) h := by
  have lp := fun Q => c77_loop (d := d) (Q := Q) hR hO hC oC L 0 (by omega)
  simp only [nI_0] at lp
  rw [s77_0, s77_1, lp, zAllF_all]

theorem c75z (hR : zRw h r L R) (hO : ∀ i, i < L → zOk (R i)) (hC : zRec h c C) (oC : zOk C) (j2 j3 : Value) : mm_wp (d + 1) 75 0 [.ref r, .ref c, j2, j3] [] h Q ↔ Q (.inl (some (.int (bI (zAll (fun i => !(decide (R i 14 < R i 15 + C 12) && zOv C (R i))) L))))) h := by
  have lp := fun Q => c75_loop (d := d) (Q := Q) hR hO hC oC L 0 j3 (by omega)
  simp only [nI_0] at lp
  rw [s75_0, s75_1, lp, zAllF_all]

theorem c68z (hR : zRw h r L R) (hO : ∀ i, i < L → zOk (R i)) (hC : zRec h c C) (oC : zOk C) : mm_wp (d + 3) 68 0 [.ref r, .ref c] [] h Q ↔ Q (.inl (some (.int (bI (zAdm L R C))))) h := by
  have h1 := hR.1.1
  simp only [s68_0, s68_1, s68_1o, s68_1n, s68_2, s68_5, s68_8, s68_9, s68_9o, s68_9n, s68_10, s68_13, s68_16, s68_17, s68_17o, s68_17n, s68_18, s68_21, s68_24, s68_25, s68_25o, s68_25n, s68_26, s68_29, s68_32, s68_33, s68_33o, s68_33n, s68_34, s68_37, s68_40, s68_41, s68_44, s68_45, or_true, true_or, true_and, and_true, mm_o_some, mm_o_none, mm_bk_v, mm_bk_n, Nat.reduceAdd, h1, c69z hR hO hC oC, c71z hR hO hC oC, c73z hR hO hC oC, c75z hR hO hC oC, c77z hR hO hC oC, bI_0]
  simp only [zAdm]
  cases (decide (L = 0) || zPast C (R (L - 1))) <;> cases decide (C 4 = 0 ∨ zSum (fun i => zRe C (R i)) L = C 9 * C 11) <;> cases zAll (fun i => !zSh C (R i)) L <;> cases zAll (fun i => !(decide (R i 14 < R i 15 + C 12) && zOv C (R i))) L <;> cases zAll (fun i => !(zSt C (R i) || zSt (R i) C)) L <;> simp [bI]

end
