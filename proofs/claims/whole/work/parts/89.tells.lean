/-! THE CLASS: WHAT IT TELLS -/
section
variable {d : Nat} {h h' : mm_H} {Q : mm_Q} {L n a b q t u i r e j na bL told : Nat} {W p A : Nat → Int} {m mk : Int} {R bR : zR} {P : Nat → Nat → Int} {sp : Bool} {T : Nat → Prop} {x x2 x3 x4 : Int32} {l : List Int}
theorem c14z (H : zCl h W n P mk sp bL bR na A) (hm : zr mk) : mm_wp d 14 0 [.ref 1] [] h Q ↔ Q (.inl (some (.int (bI (decide (¬ mk = -1) && !sp))))) h := by
  have rm : zr (-1) := by simp only [zr]; omega
  simp only [s14_0, s14_1, s14_4, s14_7, s14_8, s14_11, s14_12, s14_15, s14_18, s14_21, s14_22, s14_25, s14_26, or_true, true_or, true_and, and_true, mm_o_some, mm_o_none, mm_bk_v, mm_bk_n, Nat.reduceAdd, kS1 H.1, kR1_2 H.1, kS21 H.1, H.2.2.2.2.2.2.1, H.2.2.2.2.2.2.2.1, show (-1 : Int32) = zI (-1) from rfl, zI_eq hm rm]
  by_cases g : mk = -1
  · simp only [if_pos g, g, not_true_eq_false, decide_false, Bool.false_and, bI_f, if_true]
  · cases sp
    · simp only [if_neg g, bI_f, if_true, g, not_false_eq_true, decide_true, Bool.true_and, Bool.not_false, bI_t, if_false]
    · rw [if_neg g, if_neg (show ¬ bI true = 0 by decide)]
      simp only [Bool.not_true, Bool.and_false, bI_f]
theorem c15z (H : zCl h W n P mk sp bL bR na A) : mm_wp d 15 0 [.ref 1] [] h Q ↔ Q (.inl (some (.int (zI mk)))) h := by
  simp only [s15_0, s15_1, s15_4, s15_7, or_true, true_or, true_and, and_true, mm_o_some, mm_o_none, mm_bk_v, mm_bk_n, Nat.reduceAdd, kS1 H.1, kR1_2 H.1, kS21 H.1, H.2.2.2.2.2.2.1]
theorem c20z (H : zCl h W n P mk sp bL bR na A) : mm_wp d 20 0 [.ref 1] [] h Q ↔ Q (.inl (some (.long (zL (zMom bL bR))))) h := by
  simp only [s20_0, s20_1, s20_4, s20_7, s20_10, or_true, true_or, true_and, and_true, mm_o_some, mm_o_none, mm_bk_v, mm_bk_n, Nat.reduceAdd, kS1 H.1, kR1_2 H.1, kS21 H.1, kR21_3 H.1, kS32 H.1, H.2.2.2.1.2.2]
/-- the volume of the pieces that fit -/
def zFv (W : Nat → Int) (P : Nat → Nat → Int) (n : Nat) : Int := zSum (fun p => if 0 < zFits W (P p) then P p 3 * P p 4 * P p 5 else 0) n
theorem zFits_r : 0 ≤ zFits W p ∧ zFits W p ≤ 6 := by
  have key : ∀ m, 0 ≤ zSum (fun t => if zGd W p t = true then (1 : Int) else 0) m ∧ zSum (fun t => if zGd W p t = true then (1 : Int) else 0) m ≤ m := by
    intro m
    induction m with
    | zero => exact ⟨Int.le_refl _, Int.le_refl _⟩
    | succ m ih =>
      simp only [zSum]
      split <;> omega
  exact key 6
theorem c18_loop (H : zCl h W n P mk sp bL bR na A) (hn : n ≤ 8) : ∀ m i, i + m = n → (mm_wp (d + 1) 18 4 [.ref 3, .int (zI (zFv W P i)), .int (nI i)] [] h Q ↔ Q (.inl (some (.int (zI (zFv W P n))))) h) := by
  intro m
  induction m with
  | zero =>
    intro i hi
    have e : i = n := by omega
    subst e
    rw [s18_4]
    simp only [s18_5, s18_6, s18_9, s18_12, s18_13, s18_16, s18_17, s18_18, s18_21, s18_24, s18_25, s18_26, s18_29, s18_30, s18_31, s18_34, s18_35, s18_36, s18_39, s18_42, s18_43, or_true, true_or, true_and, and_true, mm_o_some, mm_o_none, mm_bk_v, mm_bk_n, Nat.reduceAdd, kS3 H.1, H.2.1.2.1, if_pos (Int32.le_refl (nI i))]
  | succ m ih =>
    intro i hi
    have c : ¬ nI n ≤ nI i := nI_ge (by omega) (by omega)
    have hin : mm_in (nI i) 8 = true := mm_inN (by omega) (by omega)
    have hcl : (nI i).toNatClampNeg = i := nI_clamp (by omega)
    have hp := H.2.1.2.2.1 i (by omega)
    have fr := zFits_r (W := W) (p := P i)
    have r1 : zr (zFits W (P i)) := by simp only [zr]; omega
    have r0 : zr 0 := by simp only [zr]; omega
    have s5 := kS_piece H.1 (show i < 8 by omega)
    rw [s18_4]
    simp only [s18_5, s18_6, s18_9, s18_12, s18_13, s18_16, s18_17, s18_18, s18_21, s18_24, s18_25, s18_26, s18_29, s18_30, s18_31, s18_34, s18_35, s18_36, s18_39, s18_42, s18_43, s19_0, s19_1, s19_4, s19_5, s19_8, s19_9, s19_10, s19_13, s19_14, or_true, true_or, true_and, and_true, mm_o_some, mm_o_none, mm_bk_v, mm_bk_n, Nat.reduceAdd, kS3 H.1, H.2.1.2.1, if_neg c, kR3_0 H.1, kS4 H.1, hin, hcl, kR_pieces H.1 (show i < 8 by omega), s5, H.2.2.1 i (by omega), Nat.reduceLeDiff, hp.2 3 (by decide) (by decide), hp.2 4 (by decide) (by decide), hp.2 5 (by decide) (by decide), zI_mul, zI_add, nI_1, show (0 : Int32) = zI 0 from rfl, zI_le r1 r0]
    have ih' := ih (i + 1) (by omega)
    by_cases g : zFits W (P i) ≤ 0
    · rw [if_pos g]
      have e : zFv W P (i + 1) = zFv W P i := by simp only [zFv, zSum]; rw [if_neg (show ¬ 0 < zFits W (P i) by omega)]; omega
      rw [e] at ih'
      exact ih'
    · rw [if_neg g]
      have e : zFv W P (i + 1) = zFv W P i + P i 3 * P i 4 * P i 5 := by simp only [zFv, zSum]; rw [if_pos (show 0 < zFits W (P i) by omega)]
      rw [e] at ih'
      exact ih'
theorem zFv_r (hPk : ∀ p, p < n → zPok (P p)) (hn : n ≤ 8) : 0 ≤ zFv W P n ∧ zFv W P n ≤ 64000000 := by
  have key : ∀ m, m ≤ n → 0 ≤ zFv W P m ∧ zFv W P m ≤ (m : Int) * 8000000 := by
    intro m
    induction m with
    | zero => intro _; exact ⟨Int.le_refl _, Int.le_refl _⟩
    | succ m ih =>
      intro hm
      have i1 := ih (by omega)
      have k := hPk m (by omega)
      simp only [zPok] at k
      have m1 : 0 ≤ P m 3 * P m 4 ∧ P m 3 * P m 4 ≤ 200 * 200 := ⟨Int.mul_nonneg (by omega) (by omega), Int.mul_le_mul (by omega) (by omega) (by omega) (by omega)⟩
      have m2 : 0 ≤ P m 3 * P m 4 * P m 5 ∧ P m 3 * P m 4 * P m 5 ≤ 200 * 200 * 200 := ⟨Int.mul_nonneg (by omega) (by omega), Int.mul_le_mul (by omega) (by omega) (by omega) (by omega)⟩
      simp only [zFv, zSum] at *
      split <;> omega
  have := key n (Nat.le_refl n)
  omega
theorem zWv_r (hW : zWok W) : 0 ≤ W 0 * W 1 * W 2 ∧ W 0 * W 1 * W 2 ≤ 8000000 := by
  simp only [zWok] at hW
  have m1 : 0 ≤ W 0 * W 1 ∧ W 0 * W 1 ≤ 200 * 200 := ⟨Int.mul_nonneg (by omega) (by omega), Int.mul_le_mul (by omega) (by omega) (by omega) (by omega)⟩
  have m2 : 0 ≤ W 0 * W 1 * W 2 ∧ W 0 * W 1 * W 2 ≤ 200 * 200 * 200 := ⟨Int.mul_nonneg (by omega) (by omega), Int.mul_le_mul (by omega) (by omega) (by omega) (by omega)⟩
  omega
theorem c16z (H : zCl h W n P mk sp bL bR na A) (hn : n ≤ 8) (hW : zWok W) (hPk : ∀ p, p < n → zPok (P p)) : mm_wp (d + 2) 16 0 [.ref 1] [] h Q ↔ Q (.inl (some (.int (zI (min (W 0 * W 1 * W 2) (zFv W P n)))))) h := by
  have f1 := zFv_r (W := W) hPk hn
  have f2 := zWv_r hW
  have r1 : zr (zFv W P n) := by simp only [zr]; omega
  have r2 : zr (W 0 * W 1 * W 2) := by simp only [zr]; omega
  have l0 := c18_loop (d := d) (h := h) (Q := mm_bk (d + 1 + 1) 16 11 [.ref 1] [.int (zI (W 0 * W 1 * W 2))] Q) H hn n 0 (by omega)
  rw [nI_lit0, show zI (zFv W P 0) = 0 from rfl] at l0
  simp only [s16_0, s16_1, s16_4, s16_7, s16_8, s16_11, s16_14, s16_17, s17_0, s17_1, s17_4, s17_5, s17_8, s17_9, s17_10, s17_13, s17_14, s18_0, s18_1, s18_2, s18_3, or_true, true_or, true_and, and_true, mm_o_some, mm_o_none, mm_bk_v, mm_bk_n, Nat.reduceAdd, kS1 H.1, kR1_0 H.1, kR1_1 H.1, kS2 H.1, kS3 H.1, H.2.1.1 0 (by decide), H.2.1.1 1 (by decide), H.2.1.1 2 (by decide), zI_mul, l0, c3, zI_min r2 r1]
/-- what is told of a place in the best row -/
def zTell (R : zR) (i : Nat) (w : Int) : Int := if w = 0 then R i 3 else if w = 1 then R i 4 else if w = 2 then R i 5 else if w = 3 then R i 2 else if w = 4 then (i : Int) else R i 15
theorem c89z (H : zCl h W n P mk sp bL bR na A) (hi : i < bL) (hb : bL ≤ 8) (hx : 0 ≤ x2.toInt ∧ x2.toInt ≤ 5) : mm_wp d 89 0 [.ref (34 + i), .int x2] [] h Q ↔ Q (.inl (some (.int (zI (zTell bR i x2.toInt))))) h := by
  have hr : zRec h (32 + 2 + i) (bR i) := H.2.2.2.1.1.2.2.2 i hi
  rw [show 32 + 2 + i = 34 + i by omega] at hr
  have e : x2 = zI x2.toInt := (zI_x x2).symm
  have : x2.toInt = 0 ∨ x2.toInt = 1 ∨ x2.toInt = 2 ∨ x2.toInt = 3 ∨ x2.toInt = 4 ∨ x2.toInt = 5 := by omega
  rcases this with g | g | g | g | g | g
  · rw [g] at e ⊢
    rw [e, show zI 0 = (0 : Int32) from rfl]
    simp only [s89_0, s89_1_0, s89_1_1, s89_1_2, s89_1_3, s89_1_4, s89_36, s89_37, s89_40, s89_41, s89_42, s89_45, s89_46, s89_47, s89_50, s89_51, s89_52, s89_55, s89_56, s89_57, s89_60, s89_61, s89_62, s89_65, or_true, true_or, true_and, and_true, mm_o_some, mm_o_none, mm_bk_v, mm_bk_n, Nat.reduceAdd, hr.1, hr.2 3 (by decide) (by decide), zTell, if_true]
  · rw [g] at e ⊢
    rw [e, show zI 1 = (1 : Int32) from rfl]
    simp only [s89_0, s89_1_0, s89_1_1, s89_1_2, s89_1_3, s89_1_4, s89_36, s89_37, s89_40, s89_41, s89_42, s89_45, s89_46, s89_47, s89_50, s89_51, s89_52, s89_55, s89_56, s89_57, s89_60, s89_61, s89_62, s89_65, or_true, true_or, true_and, and_true, mm_o_some, mm_o_none, mm_bk_v, mm_bk_n, Nat.reduceAdd, hr.1, hr.2 4 (by decide) (by decide), zTell, if_true, if_neg (show ¬ (1 : Int) = 0 by decide)]
  · rw [g] at e ⊢
    rw [e, show zI 2 = (2 : Int32) from rfl]
    simp only [s89_0, s89_1_0, s89_1_1, s89_1_2, s89_1_3, s89_1_4, s89_36, s89_37, s89_40, s89_41, s89_42, s89_45, s89_46, s89_47, s89_50, s89_51, s89_52, s89_55, s89_56, s89_57, s89_60, s89_61, s89_62, s89_65, or_true, true_or, true_and, and_true, mm_o_some, mm_o_none, mm_bk_v, mm_bk_n, Nat.reduceAdd, hr.1, hr.2 5 (by decide) (by decide), zTell, if_true, if_neg (show ¬ (2 : Int) = 0 by decide), if_neg (show ¬ (2 : Int) = 1 by decide)]
  · rw [g] at e ⊢
    rw [e, show zI 3 = (3 : Int32) from rfl]
    simp only [s89_0, s89_1_0, s89_1_1, s89_1_2, s89_1_3, s89_1_4, s89_36, s89_37, s89_40, s89_41, s89_42, s89_45, s89_46, s89_47, s89_50, s89_51, s89_52, s89_55, s89_56, s89_57, s89_60, s89_61, s89_62, s89_65, or_true, true_or, true_and, and_true, mm_o_some, mm_o_none, mm_bk_v, mm_bk_n, Nat.reduceAdd, hr.1, hr.2 2 (by decide) (by decide), zTell, if_true, if_neg (show ¬ (3 : Int) = 0 by decide), if_neg (show ¬ (3 : Int) = 1 by decide), if_neg (show ¬ (3 : Int) = 2 by decide)]
  · rw [g] at e ⊢
    rw [e, show zI 4 = (4 : Int32) from rfl]
    simp only [s89_0, s89_1_0, s89_1_1, s89_1_2, s89_1_3, s89_1_4, s89_36, s89_37, s89_40, s89_41, s89_42, s89_45, s89_46, s89_47, s89_50, s89_51, s89_52, s89_55, s89_56, s89_57, s89_60, s89_61, s89_62, s89_65, or_true, true_or, true_and, and_true, mm_o_some, mm_o_none, mm_bk_v, mm_bk_n, Nat.reduceAdd, hr.1, (H.2.2.2.2.2.1 i (by omega)).2, zI_n, zTell, if_true, if_neg (show ¬ (4 : Int) = 0 by decide), if_neg (show ¬ (4 : Int) = 1 by decide), if_neg (show ¬ (4 : Int) = 2 by decide), if_neg (show ¬ (4 : Int) = 3 by decide)]
  · rw [g] at e ⊢
    have hd : (zI 5).toInt < 0 ∨ 4 < (zI 5).toInt := by decide
    rw [e]
    simp only [s89_0, s89_1_0, s89_1_1, s89_1_2, s89_1_3, s89_1_4, s89_36, s89_37, s89_40, s89_41, s89_42, s89_45, s89_46, s89_47, s89_50, s89_51, s89_52, s89_55, s89_56, s89_57, s89_60, s89_61, s89_62, s89_65, s89_1d hd, or_true, true_or, true_and, and_true, mm_o_some, mm_o_none, mm_bk_v, mm_bk_n, Nat.reduceAdd, hr.1, hr.2 15 (by decide) (by decide), zTell, if_neg (show ¬ (5 : Int) = 0 by decide), if_neg (show ¬ (5 : Int) = 1 by decide), if_neg (show ¬ (5 : Int) = 2 by decide), if_neg (show ¬ (5 : Int) = 3 by decide), if_neg (show ¬ (5 : Int) = 4 by decide)]
theorem w87x (H : zCl h W n P mk sp bL bR na A) (hx : x < 0 ∨ (¬ x < 0 ∧ ¬ x < nI n)) (v4 : Value) : mm_wp (d + 3) 87 0 [.ref 1, .int x, .int x2, .ref 167, v4] [] h Q ↔ Q (.inl (some (.int 1))) (mm_nw h 32 6 6) := by
  simp only [s87_0, s87_0o, s87_0n, s87_1, s87_2, s87_2o, s87_2n, s87_3, s87_4, s87_5, s87_8, s87_9, s87_10, s87_13, s87_13o, s87_13n, s87_15, s87_16, s87_17, s87_17o, s87_17n, s87_19, s87_20, s87_21, s87_22, s88_0, s88_1, s88_4, s88_5, s88_8, s88_9, s88_10, s88_11, s88_14, s88_17, s88_20, s88_21, s88_23, s88_26, s88_27, s88_28, s88_31, s88_34, s88_35, s88_38, s88_38o, s88_38n, s88_39, s88_39o, s88_39n, s88_40, s88_40r, s88_40n, s88_43, s88_44, s88_47, s88_47o, s88_47n, s88_48, s88_49, s88_52, or_true, true_or, true_and, and_true, mm_o_some, mm_o_none, mm_bk_v, mm_bk_n, Nat.reduceAdd, kS1 H.1, kR1_1 H.1, kS3 H.1, c42x H hx, mm_bk_x, mm_s_ex, show mm_hnd 88 5 32 = none from rfl, show mm_ncv 88 5 = true from rfl, show mm_hnd 87 5 32 = some 13 from rfl]
theorem w87y (H : zCl h W n P mk sp bL bR na A) (hn : n ≤ 8) (hj : j < n) (hx : ¬ (0 ≤ x2.toInt ∧ x2.toInt ≤ 5)) (v4 : Value) : mm_wp (d + 3) 87 0 [.ref 1, .int (nI j), .int x2, .ref 167, v4] [] h Q ↔ Q (.inl (some (.int 2))) (mm_nw h 30 6 6) := by
  simp only [s87_0, s87_0o, s87_0n, s87_1, s87_2, s87_2o, s87_2n, s87_3, s87_4, s87_5, s87_8, s87_9, s87_10, s87_13, s87_13o, s87_13n, s87_15, s87_16, s87_17, s87_17o, s87_17n, s87_19, s87_20, s87_21, s87_22, s88_0, s88_1, s88_4, s88_5, s88_8, s88_9, s88_10, s88_11, s88_14, s88_17, s88_20, s88_21, s88_23, s88_26, s88_27, s88_28, s88_31, s88_34, s88_35, s88_38, s88_38o, s88_38n, s88_39, s88_39o, s88_39n, s88_40, s88_40r, s88_40n, s88_43, s88_44, s88_47, s88_47o, s88_47n, s88_48, s88_49, s88_52, or_true, true_or, true_and, and_true, mm_o_some, mm_o_none, mm_bk_v, mm_bk_n, Nat.reduceAdd, kS1 H.1, kR1_1 H.1, kS3 H.1, c42z H hn hj, c25, i32_0, i32_5, if_neg hx, if_true, mm_bk_x, mm_s_ex, Nat.reduceLeDiff, show mm_hnd 87 5 30 = some 17 from rfl]
/-- where a piece is, told -/
def zAt (L : Nat) (R : zR) (j : Nat) (w : Int) : Int := match zFd L R j with | none => -1 | some i => zTell R i w
theorem zFdF_lt : ∀ m i k, zFdF R j i m = some k → i ≤ k ∧ k < i + m ∧ R k 1 = (j : Int) := by
  intro m
  induction m with
  | zero => intro i k H; simp [zFdF] at H
  | succ m ih =>
    intro i k H
    simp only [zFdF] at H
    split at H
    · rename_i g
      have : i = k := by simpa using H
      subst this
      exact ⟨Nat.le_refl _, by omega, g⟩
    · have := ih (i + 1) k H
      exact ⟨by omega, by omega, this.2.2⟩
theorem zFd_lt {k : Nat} (H : zFd L R j = some k) : k < L ∧ R k 1 = (j : Int) := by
  have := zFdF_lt L 0 k H
  exact ⟨by omega, this.2.2⟩
theorem w87z (H : zCl h W n P mk sp bL bR na A) (hn : n ≤ 8) (hj : j < n) (hO : ∀ i, i < bL → zOk (bR i)) (hx : 0 ≤ x2.toInt ∧ x2.toInt ≤ 5) (v4 : Value) : mm_wp (d + 3) 87 0 [.ref 1, .int (nI j), .int x2, .ref 167, v4] [] h Q ↔ Q (.inl (some (.int 0))) (mm_pl h 167 0 (zI (zAt bL bR j x2.toInt)).toInt64) := by
  have hb := H.2.2.2.1.1.2.1
  have c59 := c59z (d := d + 1) (h := h) (Q := mm_bk (d + 1 + 1) 88 35 [.ref 1, .int (nI j), .int x2, mm_j] [] (mm_bk (d + 1 + 1 + 1) 87 5 [.ref 1, .int (nI j), .int x2, .ref 167, v4] [.int 0, .ref 167] Q)) H.2.2.2.1.1 hO (show j < 8 by omega) mm_j
  have i0 : mm_in 0 1 = true := rfl
  have c0 : (0 : Int32).toNatClampNeg = 0 := rfl
  simp only [zAt]
  cases g : zFd bL bR j with
  | none =>
    rw [g] at c59
    simp only [Option.map_none, mm_o_none] at c59
    simp only [s87_0, s87_0o, s87_0n, s87_1, s87_2, s87_2o, s87_2n, s87_3, s87_4, s87_5, s87_8, s87_9, s87_10, s87_13, s87_13o, s87_13n, s87_15, s87_16, s87_17, s87_17o, s87_17n, s87_19, s87_20, s87_21, s87_22, s88_0, s88_1, s88_4, s88_5, s88_8, s88_9, s88_10, s88_11, s88_14, s88_17, s88_20, s88_21, s88_23, s88_26, s88_27, s88_28, s88_31, s88_34, s88_35, s88_38, s88_38o, s88_38n, s88_39, s88_39o, s88_39n, s88_40, s88_40r, s88_40n, s88_43, s88_44, s88_47, s88_47o, s88_47n, s88_48, s88_49, s88_52, or_true, true_or, true_and, and_true, mm_o_some, mm_o_none, mm_bk_v, mm_bk_n, Nat.reduceAdd, kS1 H.1, kR1_1 H.1, kR1_2 H.1, kS3 H.1, kS21 H.1, kR21_3 H.1, kS32 H.1, c42z H hn hj, c25, i32_0, i32_5, if_pos hx, if_neg n10, c59, kS167 H.1, i0, c0]
    exact Iff.rfl
  | some k =>
    have kl := zFd_lt g
    rw [g] at c59
    simp only [Option.map_some, mm_o_some] at c59
    have ek : 32 + 2 + k = 34 + k := by omega
    rw [ek] at c59
    simp only [s87_0, s87_0o, s87_0n, s87_1, s87_2, s87_2o, s87_2n, s87_3, s87_4, s87_5, s87_8, s87_9, s87_10, s87_13, s87_13o, s87_13n, s87_15, s87_16, s87_17, s87_17o, s87_17n, s87_19, s87_20, s87_21, s87_22, s88_0, s88_1, s88_4, s88_5, s88_8, s88_9, s88_10, s88_11, s88_14, s88_17, s88_20, s88_21, s88_23, s88_26, s88_27, s88_28, s88_31, s88_34, s88_35, s88_38, s88_38o, s88_38n, s88_39, s88_39o, s88_39n, s88_40, s88_40r, s88_40n, s88_43, s88_44, s88_47, s88_47o, s88_47n, s88_48, s88_49, s88_52, or_true, true_or, true_and, and_true, mm_o_some, mm_o_none, mm_bk_v, mm_bk_n, Nat.reduceAdd, kS1 H.1, kR1_1 H.1, kR1_2 H.1, kS3 H.1, kS21 H.1, kR21_3 H.1, kS32 H.1, c42z H hn hj, c25, i32_0, i32_5, if_pos hx, if_neg n10, c59, kS_bslot H.1 (show k < 8 by omega), c89z H kl.1 hb hx, kS167 H.1, i0, c0]
end
