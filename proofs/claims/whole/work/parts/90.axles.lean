/-! THE CLASS: TOUCHING; AXLES -/
section
variable {d : Nat} {h h' : mm_H} {Q : mm_Q} {L n a b q t u i r e j na bL told : Nat} {W p A : Nat → Int} {m mk : Int} {R bR : zR} {P : Nat → Nat → Int} {sp : Bool} {T : Nat → Prop} {x x2 x3 x4 : Int32} {l : List Int}
theorem w90x (H : zCl h W n P mk sp bL bR na A) (hx : x < 0 ∨ (¬ x < 0 ∧ ¬ x < nI n)) (v4 : Value) : mm_wp (d + 3) 90 0 [.ref 1, .int x, .int x2, .ref 167, v4] [] h Q ↔ Q (.inl (some (.int 1))) (mm_nw h 32 6 6) := by
  simp only [s90_0, s90_0o, s90_0n, s90_1, s90_2, s90_2o, s90_2n, s90_3, s90_4, s90_5, s90_8, s90_9, s90_10, s90_13, s90_13o, s90_13n, s90_15, s90_16, s90_17, s90_18, s91_0, s91_1, s91_4, s91_5, s91_8, s91_9, s91_12, s91_13, s91_16, s91_17, s91_20, s91_23, s91_24, s91_27, s91_27o, s91_27n, s91_28, s91_29, s91_32, s91_35, s91_36, s91_39, s91_39o, s91_39n, s91_41, s91_41o, s91_41n, s91_42, s91_42r, s91_42n, s91_45, s91_45o, s91_45n, s91_47, s91_47r, s91_47n, s91_50, s91_51, s91_54, s91_54o, s91_54n, s91_56, s91_56o, s91_56n, s91_57, s91_60, or_true, true_or, true_and, and_true, mm_o_some, mm_o_none, mm_bk_v, mm_bk_n, Nat.reduceAdd, kS1 H.1, kR1_1 H.1, kS3 H.1, c42x H hx, mm_bk_x, mm_s_ex, show mm_hnd 91 5 32 = none from rfl, show mm_ncv 91 5 = true from rfl, show mm_hnd 90 5 32 = some 13 from rfl]
theorem w90y (H : zCl h W n P mk sp bL bR na A) (hn : n ≤ 8) (hj : j < n) (hx : x2 < 0 ∨ (¬ x2 < 0 ∧ ¬ x2 < nI n)) (v4 : Value) : mm_wp (d + 3) 90 0 [.ref 1, .int (nI j), .int x2, .ref 167, v4] [] h Q ↔ Q (.inl (some (.int 1))) (mm_nw h 32 6 6) := by
  simp only [s90_0, s90_0o, s90_0n, s90_1, s90_2, s90_2o, s90_2n, s90_3, s90_4, s90_5, s90_8, s90_9, s90_10, s90_13, s90_13o, s90_13n, s90_15, s90_16, s90_17, s90_18, s91_0, s91_1, s91_4, s91_5, s91_8, s91_9, s91_12, s91_13, s91_16, s91_17, s91_20, s91_23, s91_24, s91_27, s91_27o, s91_27n, s91_28, s91_29, s91_32, s91_35, s91_36, s91_39, s91_39o, s91_39n, s91_41, s91_41o, s91_41n, s91_42, s91_42r, s91_42n, s91_45, s91_45o, s91_45n, s91_47, s91_47r, s91_47n, s91_50, s91_51, s91_54, s91_54o, s91_54n, s91_56, s91_56o, s91_56n, s91_57, s91_60, or_true, true_or, true_and, and_true, mm_o_some, mm_o_none, mm_bk_v, mm_bk_n, Nat.reduceAdd, kS1 H.1, kR1_1 H.1, kS3 H.1, c42z H hn hj, c42x H hx, mm_bk_x, mm_s_ex, show mm_hnd 91 13 32 = none from rfl, show mm_ncv 91 13 = true from rfl, show mm_hnd 90 5 32 = some 13 from rfl]
/-- how much one lies on the other -/
def zTo (L : Nat) (R : zR) (i j : Nat) : Int := match zFd L R i, zFd L R j with | some a, some b => zRe (R b) (R a) | _, _ => 0
theorem w90z (H : zCl h W n P mk sp bL bR na A) (hn : n ≤ 8) (hi : i < n) (hj : j < n) (hO : ∀ i, i < bL → zOk (bR i)) (v4 : Value) : mm_wp (d + 4) 90 0 [.ref 1, .int (nI i), .int (nI j), .ref 167, v4] [] h Q ↔ Q (.inl (some (.int 0))) (mm_pl h 167 0 (zI (zTo bL bR i j)).toInt64) := by
  have hb := H.2.2.2.1.1.2.1
  have hR := H.2.2.2.1.1
  have i0 : mm_in 0 1 = true := rfl
  have c0 : (0 : Int32).toNatClampNeg = 0 := rfl
  simp only [zTo]
  cases g : zFd bL bR i with
  | none =>
    cases g' : zFd bL bR j with
    | none =>
      simp only [s90_0, s90_0o, s90_0n, s90_1, s90_2, s90_2o, s90_2n, s90_3, s90_4, s90_5, s90_8, s90_9, s90_10, s90_13, s90_13o, s90_13n, s90_15, s90_16, s90_17, s90_18, s91_0, s91_1, s91_4, s91_5, s91_8, s91_9, s91_12, s91_13, s91_16, s91_17, s91_20, s91_23, s91_24, s91_27, s91_27o, s91_27n, s91_28, s91_29, s91_32, s91_35, s91_36, s91_39, s91_39o, s91_39n, s91_41, s91_41o, s91_41n, s91_42, s91_42r, s91_42n, s91_45, s91_45o, s91_45n, s91_47, s91_47r, s91_47n, s91_50, s91_51, s91_54, s91_54o, s91_54n, s91_56, s91_56o, s91_56n, s91_57, s91_60, or_true, true_or, true_and, and_true, mm_o_some, mm_o_none, mm_bk_v, mm_bk_n, Nat.reduceAdd, kS1 H.1, kR1_1 H.1, kR1_2 H.1, kS3 H.1, kS21 H.1, kR21_3 H.1, kS32 H.1, c42z H hn hi, c42z H hn hj, c59z hR hO (show i < 8 by omega), c59z hR hO (show j < 8 by omega), g, g', Option.map_none, kS167 H.1, i0, c0]
      exact Iff.rfl
    | some b =>
      simp only [s90_0, s90_0o, s90_0n, s90_1, s90_2, s90_2o, s90_2n, s90_3, s90_4, s90_5, s90_8, s90_9, s90_10, s90_13, s90_13o, s90_13n, s90_15, s90_16, s90_17, s90_18, s91_0, s91_1, s91_4, s91_5, s91_8, s91_9, s91_12, s91_13, s91_16, s91_17, s91_20, s91_23, s91_24, s91_27, s91_27o, s91_27n, s91_28, s91_29, s91_32, s91_35, s91_36, s91_39, s91_39o, s91_39n, s91_41, s91_41o, s91_41n, s91_42, s91_42r, s91_42n, s91_45, s91_45o, s91_45n, s91_47, s91_47r, s91_47n, s91_50, s91_51, s91_54, s91_54o, s91_54n, s91_56, s91_56o, s91_56n, s91_57, s91_60, or_true, true_or, true_and, and_true, mm_o_some, mm_o_none, mm_bk_v, mm_bk_n, Nat.reduceAdd, kS1 H.1, kR1_1 H.1, kR1_2 H.1, kS3 H.1, kS21 H.1, kR21_3 H.1, kS32 H.1, c42z H hn hi, c42z H hn hj, c59z hR hO (show i < 8 by omega), c59z hR hO (show j < 8 by omega), g, g', Option.map_none, Option.map_some, kS167 H.1, i0, c0]
      exact Iff.rfl
  | some a =>
    have al := zFd_lt g
    cases g' : zFd bL bR j with
    | none =>
      simp only [s90_0, s90_0o, s90_0n, s90_1, s90_2, s90_2o, s90_2n, s90_3, s90_4, s90_5, s90_8, s90_9, s90_10, s90_13, s90_13o, s90_13n, s90_15, s90_16, s90_17, s90_18, s91_0, s91_1, s91_4, s91_5, s91_8, s91_9, s91_12, s91_13, s91_16, s91_17, s91_20, s91_23, s91_24, s91_27, s91_27o, s91_27n, s91_28, s91_29, s91_32, s91_35, s91_36, s91_39, s91_39o, s91_39n, s91_41, s91_41o, s91_41n, s91_42, s91_42r, s91_42n, s91_45, s91_45o, s91_45n, s91_47, s91_47r, s91_47n, s91_50, s91_51, s91_54, s91_54o, s91_54n, s91_56, s91_56o, s91_56n, s91_57, s91_60, or_true, true_or, true_and, and_true, mm_o_some, mm_o_none, mm_bk_v, mm_bk_n, Nat.reduceAdd, kS1 H.1, kR1_1 H.1, kR1_2 H.1, kS3 H.1, kS21 H.1, kR21_3 H.1, kS32 H.1, c42z H hn hi, c42z H hn hj, c59z hR hO (show i < 8 by omega), c59z hR hO (show j < 8 by omega), g, g', Option.map_none, Option.map_some, kS167 H.1, i0, c0]
      exact Iff.rfl
    | some b =>
      have bl := zFd_lt g'
      have ra : zRec h (32 + 2 + a) (bR a) := hR.2.2.2 a al.1
      have rb : zRec h (32 + 2 + b) (bR b) := hR.2.2.2 b bl.1
      rw [show 32 + 2 + a = 34 + a by omega] at ra
      rw [show 32 + 2 + b = 34 + b by omega] at rb
      have ea : ∀ a : Nat, 32 + 2 + a = 34 + a := fun a => by omega
      simp only [s90_0, s90_0o, s90_0n, s90_1, s90_2, s90_2o, s90_2n, s90_3, s90_4, s90_5, s90_8, s90_9, s90_10, s90_13, s90_13o, s90_13n, s90_15, s90_16, s90_17, s90_18, s91_0, s91_1, s91_4, s91_5, s91_8, s91_9, s91_12, s91_13, s91_16, s91_17, s91_20, s91_23, s91_24, s91_27, s91_27o, s91_27n, s91_28, s91_29, s91_32, s91_35, s91_36, s91_39, s91_39o, s91_39n, s91_41, s91_41o, s91_41n, s91_42, s91_42r, s91_42n, s91_45, s91_45o, s91_45n, s91_47, s91_47r, s91_47n, s91_50, s91_51, s91_54, s91_54o, s91_54n, s91_56, s91_56o, s91_56n, s91_57, s91_60, or_true, true_or, true_and, and_true, mm_o_some, mm_o_none, mm_bk_v, mm_bk_n, Nat.reduceAdd, kS1 H.1, kR1_1 H.1, kR1_2 H.1, kS3 H.1, kS21 H.1, kR21_3 H.1, kS32 H.1, c42z H hn hi, c42z H hn hj, c59z hR hO (show i < 8 by omega), c59z hR hO (show j < 8 by omega), g, g', Option.map_some, kS_bslot H.1 (show b < 8 by omega), c72z rb (hO b bl.1) ra (hO a al.1), kS167 H.1, i0, c0]
/-- the last axle's place -/
def zLp (na : Nat) (A : Nat → Int) : Int := if na = 0 then -1 else A (na - 1)
theorem c94z (H : zCl h W n P mk sp bL bR na A) (ha : na ≤ 6) : mm_wp d 94 0 [.ref 140] [] h Q ↔ Q (.inl (some (.int (zI (zLp na A))))) h := by
  have e1 := H.2.2.2.2.2.2.2.2.1
  have e2 := H.2.2.2.2.2.2.2.2.2
  by_cases g : na = 0
  · have c : nI na ≤ 0 := by rw [g]; decide
    simp only [s94_0, s94_1, s94_4, s94_7, s94_8, s94_11, s94_12, s94_15, s94_16, s94_17, s94_18, s94_21, s94_22, or_true, true_or, true_and, and_true, mm_o_some, mm_o_none, mm_bk_v, mm_bk_n, Nat.reduceAdd, kS140 H.1, e1, if_pos c, zLp, if_pos g]
    exact Iff.rfl
  · have c : ¬ nI na ≤ 0 := nI_nle (by omega) (by omega)
    have hin : mm_in (nI (na - 1)) 6 = true := mm_inN (by omega) (by omega)
    have hcl : (nI (na - 1)).toNatClampNeg = na - 1 := nI_clamp (by omega)
    simp only [s94_0, s94_1, s94_4, s94_7, s94_8, s94_11, s94_12, s94_15, s94_16, s94_17, s94_18, s94_21, s94_22, or_true, true_or, true_and, and_true, mm_o_some, mm_o_none, mm_bk_v, mm_bk_n, Nat.reduceAdd, kS140 H.1, kR140_0 H.1, kS141 H.1, e1, if_neg c, zLp, if_neg g, nI_m1 (show 0 < na by omega), hin, hcl, e2 (na - 1) (by omega)]
theorem c95z (H : zCl h W n P mk sp bL bR na A) (ha : na ≤ 6) : mm_wp d 95 0 [.ref 140] [] h Q ↔ Q (.inl (some (.int (if na = 6 then 1 else 0)))) h := by
  have e1 := H.2.2.2.2.2.2.2.2.1
  by_cases g : na = 6
  · have c : ¬ nI na < (6 : Int32) := nI_nlt (b := 6) (by omega) (by omega)
    simp only [s95_0, s95_1, s95_4, s95_6, s95_9, s95_10, s95_13, s95_14, or_true, true_or, true_and, and_true, mm_o_some, mm_o_none, mm_bk_v, mm_bk_n, Nat.reduceAdd, kS140 H.1, e1, if_neg c, if_pos g]
  · have c : nI na < (6 : Int32) := nI_lt (b := 6) (by omega) (by omega)
    simp only [s95_0, s95_1, s95_4, s95_6, s95_9, s95_10, s95_13, s95_14, or_true, true_or, true_and, and_true, mm_o_some, mm_o_none, mm_bk_v, mm_bk_n, Nat.reduceAdd, kS140 H.1, e1, if_pos c, if_neg g]
/-- an axle may come -/
def zAx (na : Nat) (A : Nat → Int) (x : Int32) : Prop := (0 ≤ x.toInt ∧ x.toInt ≤ 1000) ∧ zLp na A < x.toInt
theorem zLp_r (hA : ∀ i, i < na → 0 ≤ A i ∧ A i ≤ 1000) : zr (zLp na A) := by
  simp only [zLp, zr]
  split
  · omega
  · have := hA (na - 1) (by omega)
    omega
theorem w92x (H : zCl h W n P mk sp bL bR na A) (ha : na ≤ 6) (hA : ∀ i, i < na → 0 ≤ A i ∧ A i ≤ 1000) (hx : ¬ zAx na A x) (v3 : Value) : mm_wp (d + 2) 92 0 [.ref 1, .int x, .ref 167, v3] [] h Q ↔ Q (.inl (some (.int 1))) (mm_nw h 30 6 6) := by
  have rl := zLp_r hA
  simp only [zAx] at hx
  by_cases g : 0 ≤ x.toInt ∧ x.toInt ≤ 1000
  · have c : ¬ zI (zLp na A) < x := by
      rw [← zI_x x, zI_lt rl (zr_x x)]
      omega
    simp only [s92_0, s92_0o, s92_0n, s92_1, s92_2, s92_2o, s92_2n, s92_3, s92_4, s92_7, s92_8, s92_9, s92_12, s92_12o, s92_12n, s92_13, s92_14, s92_15, s92_15o, s92_15n, s92_16, s92_17, s92_18, s92_19, s93_0, s93_1, s93_2, s93_5, s93_8, s93_11, s93_14, s93_15, s93_17, s93_20, s93_21, s93_22, s93_23, s93_26, s93_29, s93_32, s93_35, s93_36, s93_38, s93_41, s93_42, s93_43, s93_46, s93_49, s93_52, s93_55, s93_56, s93_58, s93_61, s93_62, s93_63, s93_66, s93_67, s93_70, or_true, true_or, true_and, and_true, mm_o_some, mm_o_none, mm_bk_v, mm_bk_n, Nat.reduceAdd, kS1 H.1, c25, i32_0, i32_1000, if_pos g, if_neg n10, kR1_3 H.1, kS140 H.1, c94z H ha, if_neg c, mm_s_ex, Nat.reduceLeDiff, mm_bk_x, show mm_hnd 92 4 30 = some 12 from rfl]
  · simp only [s92_0, s92_0o, s92_0n, s92_1, s92_2, s92_2o, s92_2n, s92_3, s92_4, s92_7, s92_8, s92_9, s92_12, s92_12o, s92_12n, s92_13, s92_14, s92_15, s92_15o, s92_15n, s92_16, s92_17, s92_18, s92_19, s93_0, s93_1, s93_2, s93_5, s93_8, s93_11, s93_14, s93_15, s93_17, s93_20, s93_21, s93_22, s93_23, s93_26, s93_29, s93_32, s93_35, s93_36, s93_38, s93_41, s93_42, s93_43, s93_46, s93_49, s93_52, s93_55, s93_56, s93_58, s93_61, s93_62, s93_63, s93_66, s93_67, s93_70, or_true, true_or, true_and, and_true, mm_o_some, mm_o_none, mm_bk_v, mm_bk_n, Nat.reduceAdd, kS1 H.1, c25, i32_0, i32_1000, if_neg g, if_true, mm_s_ex, Nat.reduceLeDiff, mm_bk_x, show mm_hnd 92 4 30 = some 12 from rfl]
theorem w92y (H : zCl h W n P mk sp bL bR na A) (ha : na = 6) (hA : ∀ i, i < na → 0 ≤ A i ∧ A i ≤ 1000) (hx : zAx na A x) (v3 : Value) : mm_wp (d + 2) 92 0 [.ref 1, .int x, .ref 167, v3] [] h Q ↔ Q (.inl (some (.int 2))) (mm_nw h 31 6 6) := by
  have rl := zLp_r hA
  have c : zI (zLp na A) < x := by
    rw [← zI_x x, zI_lt rl (zr_x x)]
    exact hx.2
  simp only [s92_0, s92_0o, s92_0n, s92_1, s92_2, s92_2o, s92_2n, s92_3, s92_4, s92_7, s92_8, s92_9, s92_12, s92_12o, s92_12n, s92_13, s92_14, s92_15, s92_15o, s92_15n, s92_16, s92_17, s92_18, s92_19, s93_0, s93_1, s93_2, s93_5, s93_8, s93_11, s93_14, s93_15, s93_17, s93_20, s93_21, s93_22, s93_23, s93_26, s93_29, s93_32, s93_35, s93_36, s93_38, s93_41, s93_42, s93_43, s93_46, s93_49, s93_52, s93_55, s93_56, s93_58, s93_61, s93_62, s93_63, s93_66, s93_67, s93_70, or_true, true_or, true_and, and_true, mm_o_some, mm_o_none, mm_bk_v, mm_bk_n, Nat.reduceAdd, kS1 H.1, c25, i32_0, i32_1000, if_pos hx.1, if_neg n10, kR1_3 H.1, kS140 H.1, c94z H (show na ≤ 6 by omega), if_pos c, c95z H (show na ≤ 6 by omega), if_pos ha, mm_s_ex, Nat.reduceLeDiff, mm_bk_x, show mm_hnd 92 4 31 = some 15 from rfl]
theorem w92z (H : zCl h W n P mk sp bL bR na A) (hn : n ≤ 8) (ha : na < 6) (hA : ∀ i, i < na → 0 ≤ A i ∧ A i ≤ 1000) (hx : zAx na A x) (v3 : Value) (K : ∀ h', zFr (fun x => (1 ≤ x ∧ x < 142) ∨ x = 167) h h' → zCl h' W n P mk sp bL bR (na + 1) (zUp1 A na x.toInt) → mm_l h' 167 0 = (nI na).toInt64 → Q (.inl (some (.int 0))) h') : mm_wp (d + 3) 92 0 [.ref 1, .int x, .ref 167, v3] [] h Q := by
  have rl := zLp_r hA
  have c : zI (zLp na A) < x := by
    rw [← zI_x x, zI_lt rl (zr_x x)]
    exact hx.2
  have H0 := H
  obtain ⟨g1, g2, g3, g4, g5, g6, g7, g8, g9, g10⟩ := H
  have hin : mm_in (nI na) 6 = true := mm_inN (by omega) (by omega)
  have hcl : (nI na).toNatClampNeg = na := nI_clamp (by omega)
  have e1 : mm_i (mm_pi h 141 na x) 140 1 = nI na := by rw [mm_i_pi, if_neg (by omega)]; exact g9
  have e2 : mm_i (mm_pi (mm_pi h 141 na x) 140 1 (nI (na + 1))) 140 1 = nI (na + 1) := by rw [mm_i_pi, if_pos ⟨rfl, rfl⟩]
  simp only [s92_0, s92_0o, s92_0n, s92_1, s92_2, s92_2o, s92_2n, s92_3, s92_4, s92_7, s92_8, s92_9, s92_12, s92_12o, s92_12n, s92_13, s92_14, s92_15, s92_15o, s92_15n, s92_16, s92_17, s92_18, s92_19, s93_0, s93_1, s93_2, s93_5, s93_8, s93_11, s93_14, s93_15, s93_17, s93_20, s93_21, s93_22, s93_23, s93_26, s93_29, s93_32, s93_35, s93_36, s93_38, s93_41, s93_42, s93_43, s93_46, s93_49, s93_52, s93_55, s93_56, s93_58, s93_61, s93_62, s93_63, s93_66, s93_67, s93_70, s96_0, s96_1, s96_4, s96_7, s96_8, s96_9, s96_10, s96_13, s96_14, s96_17, s96_18, s96_19, s96_20, s96_21, s96_24, s96_25, s96_26, s96_29, s96_30, s96_33, s96_34, s96_35, or_true, true_or, true_and, and_true, mm_o_some, mm_o_none, mm_bk_v, mm_bk_n, Nat.reduceAdd, kS1 g1, c25, i32_0, i32_1000, if_pos hx.1, if_neg n10, kR1_3 g1, kS140 g1, c94z H0 (show na ≤ 6 by omega), if_pos c, c95z H0 (show na ≤ 6 by omega), if_neg (show ¬ na = 6 by omega), if_true, kR140_0 g1, g9, kS141 g1, hin, hcl, mm_s_pi, e1, nI_1, e2, nI_pred, kS167 g1, show mm_in 0 1 = true from rfl, show (0 : Int32).toNatClampNeg = 0 from rfl, Nat.reduceEqDiff, not_false_eq_true]
  have F1 : zFr (fun x => x = 140 ∨ x = 141) h (mm_pi (mm_pi h 141 na x) 140 1 (nI (na + 1))) := zFr.trans (T := fun x => x = 140 ∨ x = 141) (zFr.pi (Or.inr rfl)) (zFr.pi (Or.inl rfl))
  have ea : ∀ i, i < na + 1 → mm_i (mm_pi (mm_pi h 141 na x) 140 1 (nI (na + 1))) 141 i = zI (zUp1 A na x.toInt i) := by
    intro i hi
    rw [mm_i_pi, if_neg (by omega), mm_i_pi, zUp1]
    by_cases e : i = na
    · rw [if_pos ⟨rfl, e⟩, if_pos e, zI_x]
    · rw [if_neg (fun z => e z.2), if_neg e]; exact g10 i (by omega)
  generalize mm_pi (mm_pi h 141 na x) 140 1 (nI (na + 1)) = f1 at *
  have S1 : zCl f1 W n P mk sp bL bR (na + 1) (zUp1 A na x.toInt) := ⟨zFr.sk g1 F1, g2.fr F1 (fun x hx => by omega) hn, fun p hp => by rw [F1.i (by omega)]; exact g3 p hp, g4.fr F1 (fun x x1 x2 => by omega), g5.fr F1 (fun x x1 x2 => by omega), g6.fr F1 (fun x x1 x2 => by omega), by rw [F1.i (by omega)]; exact g7, by rw [F1.i (by omega)]; exact g8, e2, ea⟩
  have F3 : zFr (fun x => x = 167) f1 (mm_pl f1 167 0 (nI na).toInt64) := zFr.pl rfl
  refine K _ ((F1.mono (fun a ha => by omega)).trans (F3.mono (fun a ha => Or.inr ha))) (S1.fr F3 hn (fun x hx => by omega)) ?_
  rw [mm_l_pl, if_pos ⟨rfl, rfl⟩]
end
