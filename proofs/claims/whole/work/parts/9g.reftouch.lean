/-! THE REFERENCE: TOUCHING, AXLES, LOADS -/
section
variable {d : Nat} {h h' : mm_H} {Q : mm_Q} {L n a b q t u i r e j k na bL told p : Nat} {W A : Nat → Int} {m mk : Int} {pt : Int} {R bR : zR} {P : Nat → Nat → Int} {sp : Bool} {T : Nat → Prop} {x2 x3 x4 : Int32} {l : List Int} {c : Nat} {h'' : mm_H} {s : zS} {x : Int32} {y z v w : Int} {C : Nat → Int}
theorem c144z {a b c e : Int} (ra : 0 ≤ a ∧ a ≤ 400) (rb : 1 ≤ b ∧ b ≤ 200) (rc : 0 ≤ c ∧ c ≤ 400) (re : 1 ≤ e ∧ e ≤ 200) (v4 v5 : Value) : mm_wp d 144 0 [.int (zI a), .int (zI b), .int (zI c), .int (zI e), v4, v5] [] h Q ↔ Q (.inl (some (.int (zI (zCo c (c + e) a (a + b)))))) h := by
  have z1 : zr a := by simp only [zr]; omega
  have z2 : zr c := by simp only [zr]; omega
  have z3 : zr (a + b) := by simp only [zr]; omega
  have z4 : zr (c + e) := by simp only [zr]; omega
  simp only [s144_0, s144_1, s144_2, s144_5, s144_6, s144_9, s144_10, s144_12, s144_13, s144_14, s144_15, s144_16, s144_17, s144_18, s144_21, s144_22, s144_23, s144_24, s144_27, s144_28, s144_29, s144_30, s144_32, s144_34, s144_36, s144_39, s144_41, s144_43, s144_44, s144_47, s144_48, or_true, true_or, true_and, and_true, mm_o_some, mm_o_none, mm_bk_v, mm_bk_n, Nat.reduceAdd, zI_le z1 z2, zI_add, zI_le z4 z3, zCo, zLn]
  by_cases g1 : a ≤ c
  · simp only [if_pos g1]
    by_cases g2 : c + e ≤ a + b
    · simp only [if_pos g2, zI_le z4 z2, if_neg (show ¬ c + e ≤ c by omega), zI_sub]
      rw [show max 0 (min (c + e) (a + b) - max c a) = c + e - c by omega]
    · simp only [if_neg g2, zI_le z3 z2]
      by_cases g3 : a + b ≤ c
      · simp only [if_pos g3]
        rw [show max 0 (min (c + e) (a + b) - max c a) = 0 by omega]
        exact Iff.rfl
      · simp only [if_neg g3, zI_sub]
        rw [show max 0 (min (c + e) (a + b) - max c a) = a + b - c by omega]
  · simp only [if_neg g1]
    by_cases g2 : c + e ≤ a + b
    · simp only [if_pos g2, zI_le z4 z1]
      by_cases g3 : c + e ≤ a
      · simp only [if_pos g3]
        rw [show max 0 (min (c + e) (a + b) - max c a) = 0 by omega]
        exact Iff.rfl
      · simp only [if_neg g3, zI_sub]
        rw [show max 0 (min (c + e) (a + b) - max c a) = c + e - a by omega]
    · simp only [if_neg g2, zI_le z3 z1, if_neg (show ¬ a + b ≤ a by omega), zI_sub]
      rw [show max 0 (min (c + e) (a + b) - max c a) = a + b - a by omega]
theorem c143x (H : zMo h W n P mk sp bL bR na A) (hn : n ≤ 8) (hx : (x < 0 ∨ (¬ x < 0 ∧ ¬ x < nI n)) ∨ ∃ j, (j < n ∧ x = nI j) ∧ (x2 < 0 ∨ (¬ x2 < 0 ∧ ¬ x2 < nI n))) (v3 v4 v5 : Value) : mm_wp (d + 2) 143 0 [.ref 142, .int x, .int x2, v3, v4, v5] [] h Q ↔ Q (.inl (some (.int 0))) (mm_pi h 142 0 1) := by
  have H0 := H.th (v := 1)
  have t0 := th0 (h := h) (v := 1)
  have c01 : (0 : Int32) < 1 := by decide
  rcases hx with g | ⟨j, ⟨hj, rfl⟩, g⟩
  · simp only [s143_0, s143_1, s143_2, s143_3, s143_6, s143_9, s143_10, s143_11, s143_14, s143_17, s143_18, s143_21, s143_22, or_true, true_or, true_and, and_true, mm_o_some, mm_o_none, mm_bk_v, mm_bk_n, Nat.reduceAdd, kS142 H.1, c115x H hn g, if_true]
    generalize mm_pi h 142 0 1 = h0 at *
    simp only [s143_25, s143_26, s143_27, s143_30, s143_31, s143_32, s143_33, s143_36, s143_38, s143_39, s143_42, s143_89, s143_90, or_true, true_or, true_and, and_true, mm_o_some, mm_o_none, mm_bk_v, mm_bk_n, Nat.reduceAdd, kS142 H0.1, c141z H0, t0, if_pos c01]
  · simp only [s143_0, s143_1, s143_2, s143_3, s143_6, s143_9, s143_10, s143_11, s143_14, s143_17, s143_18, s143_21, s143_22, or_true, true_or, true_and, and_true, mm_o_some, mm_o_none, mm_bk_v, mm_bk_n, Nat.reduceAdd, kS142 H.1, c115z H hn hj, if_neg n10, c115x H hn g, if_true]
    generalize mm_pi h 142 0 1 = h0 at *
    simp only [s143_25, s143_26, s143_27, s143_30, s143_31, s143_32, s143_33, s143_36, s143_38, s143_39, s143_42, s143_89, s143_90, or_true, true_or, true_and, and_true, mm_o_some, mm_o_none, mm_bk_v, mm_bk_n, Nat.reduceAdd, kS142 H0.1, c141z H0, t0, if_pos c01]
theorem zCo_comm {a b c e : Int} : zCo a b c e = zCo c e a b := by simp only [zCo, zLn]; omega
theorem c143z (H : zMo h W n P mk sp bL bR na A) (hn : n ≤ 8) (hi : i < n) (hj : j < n) (hO : ∀ i, i < bL → zOk (bR i)) (v3 v4 v5 : Value) : mm_wp (d + 2) 143 0 [.ref 142, .int (nI i), .int (nI j), v3, v4, v5] [] h Q ↔ Q (.inl (some (.int (zI (zTo bL bR i j))))) (mm_pi h 142 0 0) := by
  have H0 := H.th (v := 0)
  have t0 := th0 (h := h) (v := 0)
  have hb := H.2.2.1.2.1
  have c00 : ¬ (0 : Int32) < 0 := by decide
  have cm : (-1 : Int32) < 0 := by decide
  have pi := zPlF_fd hO (show i < 8 by omega) bL 0 (by omega)
  have pj := zPlF_fd hO (show j < 8 by omega) bL 0 (by omega)
  simp only [s143_0, s143_1, s143_2, s143_3, s143_6, s143_9, s143_10, s143_11, s143_14, s143_17, s143_18, s143_21, s143_22, or_true, true_or, true_and, and_true, mm_o_some, mm_o_none, mm_bk_v, mm_bk_n, Nat.reduceAdd, kS142 H.1, c115z H hn hi, c115z H hn hj, if_neg n10]
  generalize mm_pi h 142 0 0 = h0 at *
  simp only [s143_25, s143_26, s143_27, s143_30, s143_31, s143_32, s143_33, s143_36, s143_38, s143_39, s143_42, s143_45, s143_46, s143_49, s143_51, s143_89, s143_90, or_true, true_or, true_and, and_true, mm_o_some, mm_o_none, mm_bk_v, mm_bk_n, Nat.reduceAdd, kS142 H0.1, c141z H0, t0, if_neg c00]
  simp only [zTo, zFd]
  cases gi : zFdF bR i 0 bL with
  | none =>
    rw [gi] at pi
    simp only [pi, if_pos cm]
    exact Iff.rfl
  | some a =>
    rw [gi] at pi
    have al := zFdF_lt bL 0 a gi
    have ap : ¬ nI a < 0 := nI_pos (by omega)
    cases gj : zFdF bR j 0 bL with
    | none =>
      rw [gj] at pj
      simp only [pi, pj, if_neg ap, if_pos cm]
      exact Iff.rfl
    | some b =>
      rw [gj] at pj
      have bl := zFdF_lt bL 0 b gj
      have bp : ¬ nI b < 0 := nI_pos (by omega)
      obtain ⟨a1, a2, a3, a4⟩ := H0.2.2.1.2.2.2.2 a (by omega)
      obtain ⟨b1, b2, b3, b4⟩ := H0.2.2.1.2.2.2.2 b (by omega)
      have oa := hO a (by omega)
      have ob := hO b (by omega)
      have sa0 : mm_i h0 162 (3 * a) = zI (bR a 9) := (a3 0 (by decide)).1
      have sa1 : mm_i h0 162 (3 * a + 1) = zI (bR a 10) := (a3 1 (by decide)).1
      have sa2 : mm_i h0 162 (3 * a + 2) = zI (bR a 11) := (a3 2 (by decide)).1
      have pa0 : mm_i h0 163 (3 * a) = zI (bR a 3) := (a3 0 (by decide)).2
      have pa1 : mm_i h0 163 (3 * a + 1) = zI (bR a 4) := (a3 1 (by decide)).2
      have pa2 : mm_i h0 163 (3 * a + 2) = zI (bR a 5) := (a3 2 (by decide)).2
      have sb0 : mm_i h0 162 (3 * b) = zI (bR b 9) := (b3 0 (by decide)).1
      have sb2 : mm_i h0 162 (3 * b + 2) = zI (bR b 11) := (b3 2 (by decide)).1
      have pb0 : mm_i h0 163 (3 * b) = zI (bR b 3) := (b3 0 (by decide)).2
      have pb1 : mm_i h0 163 (3 * b + 1) = zI (bR b 4) := (b3 1 (by decide)).2
      have pb2 : mm_i h0 163 (3 * b + 2) = zI (bR b 5) := (b3 2 (by decide)).2
      have ia0 : mm_in (nI (3 * a)) 24 = true := mm_inN (by omega) (by omega)
      have ca0 : (nI (3 * a)).toNatClampNeg = 3 * a := nI_clamp (by omega)
      have ia1 : mm_in (nI (3 * a + 1)) 24 = true := mm_inN (by omega) (by omega)
      have ca1 : (nI (3 * a + 1)).toNatClampNeg = 3 * a + 1 := nI_clamp (by omega)
      have ia2 : mm_in (nI (3 * a + 2)) 24 = true := mm_inN (by omega) (by omega)
      have ca2 : (nI (3 * a + 2)).toNatClampNeg = 3 * a + 2 := nI_clamp (by omega)
      have ib0 : mm_in (nI (3 * b)) 24 = true := mm_inN (by omega) (by omega)
      have cb0 : (nI (3 * b)).toNatClampNeg = 3 * b := nI_clamp (by omega)
      have ib1 : mm_in (nI (3 * b + 1)) 24 = true := mm_inN (by omega) (by omega)
      have cb1 : (nI (3 * b + 1)).toNatClampNeg = 3 * b + 1 := nI_clamp (by omega)
      have ib2 : mm_in (nI (3 * b + 2)) 24 = true := mm_inN (by omega) (by omega)
      have cb2 : (nI (3 * b + 2)).toNatClampNeg = 3 * b + 2 := nI_clamp (by omega)
      have n2 : ∀ a : Nat, nI a + (2 : Int32) = nI (a + 2) := fun a => nI_add a 2
      have oa' := oa
      have ob' := ob
      simp only [zOk] at oa' ob'
      have e7 : bR a 4 + bR a 10 = bR a 7 := by omega
      have z1 : zr (bR a 7) := oa.r 7 (by decide) (by decide)
      have z2 : zr (bR b 4) := ob.r 4 (by decide) (by decide)
      have w0 : ∀ (Q : mm_Q) (v4 v5 : Value), mm_wp (d + 1) 144 0 [.int (zI (bR a 3)), .int (zI (bR a 9)), .int (zI (bR b 3)), .int (zI (bR b 9)), v4, v5] [] h0 Q ↔ Q (.inl (some (.int (zI (zCo (bR b 3) (bR b 6) (bR a 3) (bR a 6)))))) h0 := by
        intro Q v4 v5
        have := c144z (d := d + 1) (h := h0) (Q := Q) (a := bR a 3) (b := bR a 9) (c := bR b 3) (e := bR b 9) (by omega) (by omega) (by omega) (by omega) v4 v5
        rw [show bR b 3 + bR b 9 = bR b 6 by omega, show bR a 3 + bR a 9 = bR a 6 by omega] at this
        exact this
      have w2 : ∀ (Q : mm_Q) (v4 v5 : Value), mm_wp (d + 1) 144 0 [.int (zI (bR a 5)), .int (zI (bR a 11)), .int (zI (bR b 5)), .int (zI (bR b 11)), v4, v5] [] h0 Q ↔ Q (.inl (some (.int (zI (zCo (bR b 5) (bR b 8) (bR a 5) (bR a 8)))))) h0 := by
        intro Q v4 v5
        have := c144z (d := d + 1) (h := h0) (Q := Q) (a := bR a 5) (b := bR a 11) (c := bR b 5) (e := bR b 11) (by omega) (by omega) (by omega) (by omega) v4 v5
        rw [show bR b 5 + bR b 11 = bR b 8 by omega, show bR a 5 + bR a 11 = bR a 8 by omega] at this
        exact this
      have rr := zRe_co ob oa
      simp only [pi, pj, if_neg ap, if_neg bp]
      by_cases ge : bR b 4 = bR a 7
      · have c : zI (bR a 7) = zI (bR b 4) := by rw [ge]
        rw [rr, if_pos ge]
        simp only [s143_54, s143_55, s143_58, s143_59, s143_60, s143_61, s143_62, s143_63, s143_64, s143_65, s143_68, s143_69, s143_70, s143_71, s143_72, s143_73, s143_74, s143_75, s143_76, s143_79, s143_80, s143_82, s143_83, s143_84, s143_85, s143_86, s143_89, s143_90, s143_91, s143_92, s143_95, s143_96, s143_97, s143_98, s143_99, s143_100, s143_103, s143_104, s143_105, s143_106, s143_107, s143_108, s143_111, s143_112, s143_114, s143_115, s143_116, s143_117, s143_120, s143_121, s143_123, s143_124, s143_125, s143_128, s143_130, s143_132, s143_133, s143_136, s143_137, s143_138, s143_139, s143_140, s143_141, s143_142, s143_143, s143_146, s143_147, s143_148, s143_149, s143_150, s143_151, s143_152, s143_153, s143_156, s143_157, s143_159, s143_160, s143_161, s143_162, s143_163, s143_164, s143_167, s143_168, s143_170, s143_171, s143_172, s143_173, s143_174, s143_177, s143_178, or_true, true_or, true_and, and_true, mm_o_some, mm_o_none, mm_bk_v, mm_bk_n, Nat.reduceAdd, kS142 H0.1, kR142_29 H0.1, kR142_28 H0.1, kS163 H0.1, kS162 H0.1, nI_3, nI_1, n2, ia0, ca0, ia1, ca1, ia2, ca2, ib0, cb0, ib1, cb1, ib2, cb2, sa0, sa1, sa2, pa0, pa1, pa2, sb0, sb2, pb0, pb1, pb2, zI_add, e7, if_pos c, w0, w2, zI_mul]
      · have c : ¬ zI (bR a 7) = zI (bR b 4) := fun q => ge ((zI_eq z1 z2).mp q).symm
        rw [rr, if_neg ge]
        simp only [s143_54, s143_55, s143_58, s143_59, s143_60, s143_61, s143_62, s143_63, s143_64, s143_65, s143_68, s143_69, s143_70, s143_71, s143_72, s143_73, s143_74, s143_75, s143_76, s143_79, s143_80, s143_82, s143_83, s143_84, s143_85, s143_86, s143_89, s143_90, s143_91, s143_92, s143_95, s143_96, s143_97, s143_98, s143_99, s143_100, s143_103, s143_104, s143_105, s143_106, s143_107, s143_108, s143_111, s143_112, s143_114, s143_115, s143_116, s143_117, s143_120, s143_121, s143_123, s143_124, s143_125, s143_128, s143_130, s143_132, s143_133, s143_136, s143_137, s143_138, s143_139, s143_140, s143_141, s143_142, s143_143, s143_146, s143_147, s143_148, s143_149, s143_150, s143_151, s143_152, s143_153, s143_156, s143_157, s143_159, s143_160, s143_161, s143_162, s143_163, s143_164, s143_167, s143_168, s143_170, s143_171, s143_172, s143_173, s143_174, s143_177, s143_178, or_true, true_or, true_and, and_true, mm_o_some, mm_o_none, mm_bk_v, mm_bk_n, Nat.reduceAdd, kS142 H0.1, kR142_29 H0.1, kR142_28 H0.1, kS163 H0.1, kS162 H0.1, nI_3, nI_1, ia1, ca1, ib1, cb1, sa1, pa1, pb1, zI_add, e7, if_neg c]
        exact Iff.rfl
theorem zLp_1 (g : ¬ na = 0) : zLp na A = A (na - 1) := by rw [zLp, if_neg g]
theorem c145g (H : zMo h W n P mk sp bL bR na A) (ha : na ≤ 6) (hA : ∀ i, i < na → 0 ≤ A i ∧ A i ≤ 1000) (v2 : Value) (X : Prop) (hX : ∀ g : Bool, (g = true ↔ zAx na A x) → (mm_wp (d + 1) 145 39 [.ref 142, .int x, .int (bI g)] [] h Q ↔ X)) : mm_wp (d + 1) 145 0 [.ref 142, .int x, v2] [] h Q ↔ X := by
  by_cases g1 : 0 ≤ x.toInt ∧ x.toInt ≤ 1000
  · by_cases g0 : na = 0
    · have c : nI na = 0 := by rw [g0]; rfl
      simp only [s145_0, s145_1, s145_2, s145_5, s145_8, s145_11, s145_12, s145_15, s145_18, s145_19, s145_20, s145_23, s145_24, s145_27, s145_28, s145_29, s145_30, s145_33, s145_34, s145_37, s145_38, or_true, true_or, true_and, and_true, mm_o_some, mm_o_none, mm_bk_v, mm_bk_n, Nat.reduceAdd, c112, i32_0, i32_1000, if_pos g1, if_neg n10, kS142 H.1, H.2.2.2.2.2.2.1, if_pos c]
      refine hX true ⟨fun _ => ⟨g1, ?_⟩, fun _ => rfl⟩
      rw [zLp, if_pos g0]; omega
    · have c : ¬ nI na = 0 := nI_ne0 (by omega) (by omega)
      have hin : mm_in (nI (na - 1)) 6 = true := mm_inN (by omega) (by omega)
      have hcl : (nI (na - 1)).toNatClampNeg = na - 1 := nI_clamp (by omega)
      have ev := H.2.2.2.2.2.2.2 (na - 1) (by omega)
      have ar := hA (na - 1) (by omega)
      have ra : zr (A (na - 1)) := by simp only [zr]; omega
      have il : x ≤ zI (A (na - 1)) ↔ x.toInt ≤ A (na - 1) := by
        have := zI_le (zr_x x) ra
        rw [zI_x] at this
        exact this
      by_cases g2 : x.toInt ≤ A (na - 1)
      · simp only [s145_0, s145_1, s145_2, s145_5, s145_8, s145_11, s145_12, s145_15, s145_18, s145_19, s145_20, s145_23, s145_24, s145_27, s145_28, s145_29, s145_30, s145_33, s145_34, s145_37, s145_38, or_true, true_or, true_and, and_true, mm_o_some, mm_o_none, mm_bk_v, mm_bk_n, Nat.reduceAdd, c112, i32_0, i32_1000, if_pos g1, if_neg n10, kS142 H.1, H.2.2.2.2.2.2.1, if_neg c, kR142_32 H.1, kS165 H.1, nI_m1 (show 0 < na by omega), hin, hcl, ev, il, if_pos g2]
        refine hX false ⟨fun q => absurd q (by decide), fun q => ?_⟩
        have := q.2
        rw [zLp_1 g0] at this
        omega
      · simp only [s145_0, s145_1, s145_2, s145_5, s145_8, s145_11, s145_12, s145_15, s145_18, s145_19, s145_20, s145_23, s145_24, s145_27, s145_28, s145_29, s145_30, s145_33, s145_34, s145_37, s145_38, or_true, true_or, true_and, and_true, mm_o_some, mm_o_none, mm_bk_v, mm_bk_n, Nat.reduceAdd, c112, i32_0, i32_1000, if_pos g1, if_neg n10, kS142 H.1, H.2.2.2.2.2.2.1, if_neg c, kR142_32 H.1, kS165 H.1, nI_m1 (show 0 < na by omega), hin, hcl, ev, il, if_neg g2]
        refine hX true ⟨fun _ => ⟨g1, ?_⟩, fun _ => rfl⟩
        rw [zLp_1 g0]; omega
  · simp only [s145_0, s145_1, s145_2, s145_5, s145_8, s145_11, s145_12, s145_15, s145_18, s145_19, s145_20, s145_23, s145_24, s145_27, s145_28, s145_29, s145_30, s145_33, s145_34, s145_37, s145_38, or_true, true_or, true_and, and_true, mm_o_some, mm_o_none, mm_bk_v, mm_bk_n, Nat.reduceAdd, c112, i32_0, i32_1000, if_neg g1, if_true]
    exact hX false ⟨fun q => absurd q (by decide), fun q => absurd q.1 g1⟩
theorem c145x (H : zMo h W n P mk sp bL bR na A) (ha : na ≤ 6) (hA : ∀ i, i < na → 0 ≤ A i ∧ A i ≤ 1000) (hx : ¬ zAx na A x) (v2 : Value) : mm_wp (d + 1) 145 0 [.ref 142, .int x, v2] [] h Q ↔ Q (.inl (some (.int 0))) (mm_pi h 142 0 1) := by
  refine c145g H ha hA v2 _ (fun g hg => ?_)
  obtain rfl : g = false := by cases g; rfl; exact absurd (hg.mp rfl) hx
  simp only [s145_39, s145_40, s145_41, s145_44, s145_45, s145_48, s145_49, s145_52, s145_54, s145_57, s145_58, s145_61, s145_62, s145_65, s145_66, s145_69, s145_72, s145_73, or_true, true_or, true_and, and_true, mm_o_some, mm_o_none, mm_bk_v, mm_bk_n, Nat.reduceAdd, bI_f, if_true, kS142 H.1, mm_s_pi, th0, if_neg (show ¬ (1 : Int32) ≤ 0 by decide)]
theorem c145y (H : zMo h W n P mk sp bL bR na A) (ha : na = 6) (hA : ∀ i, i < na → 0 ≤ A i ∧ A i ≤ 1000) (hx : zAx na A x) (v2 : Value) : mm_wp (d + 1) 145 0 [.ref 142, .int x, v2] [] h Q ↔ Q (.inl (some (.int 0))) (mm_pi h 142 0 2) := by
  refine c145g H (by omega) hA v2 _ (fun g hg => ?_)
  obtain rfl : g = true := hg.mpr hx
  have c : nI na = (6 : Int32) := by rw [ha]; rfl
  simp only [s145_39, s145_40, s145_41, s145_44, s145_45, s145_48, s145_49, s145_52, s145_54, s145_57, s145_58, s145_61, s145_62, s145_65, s145_66, s145_69, s145_72, s145_73, or_true, true_or, true_and, and_true, mm_o_some, mm_o_none, mm_bk_v, mm_bk_n, Nat.reduceAdd, bI_t, if_neg n10, kS142 H.1, H.2.2.2.2.2.2.1, if_pos c, mm_s_pi, th0, if_neg (show ¬ (2 : Int32) ≤ 0 by decide)]
theorem c145z (H : zMo h W n P mk sp bL bR na A) (ha : na < 6) (hA : ∀ i, i < na → 0 ≤ A i ∧ A i ≤ 1000) (hx : zAx na A x) (v2 : Value) (K : ∀ h', zFr (fun x => 142 ≤ x ∧ x < 167) h h' → zMo h' W n P mk sp bL bR (na + 1) (zUp1 A na x.toInt) → mm_i h' 142 0 = 0 → Q (.inl (some (.int (nI na)))) h') : mm_wp (d + 1) 145 0 [.ref 142, .int x, v2] [] h Q := by
  refine (c145g H (by omega) hA v2 True (fun g hg => ⟨fun _ => trivial, fun _ => ?_⟩)).mpr trivial
  obtain rfl : g = true := hg.mpr hx
  have c : ¬ nI na = (6 : Int32) := by rw [show (6 : Int32) = nI 6 from rfl, nI_eq (by omega) (by omega)]; omega
  have H0 := H.th (v := 0)
  have t0 := th0 (h := h) (v := 0)
  have FT := zFr.th (h := h) (v := 0)
  simp only [s145_39, s145_40, s145_41, s145_44, s145_45, s145_48, s145_49, s145_52, s145_54, s145_57, s145_58, s145_61, s145_62, s145_65, s145_66, s145_69, s145_72, s145_73, or_true, true_or, true_and, and_true, mm_o_some, mm_o_none, mm_bk_v, mm_bk_n, Nat.reduceAdd, bI_t, if_neg n10, kS142 H.1, H.2.2.2.2.2.2.1, if_neg c, mm_s_pi, th0, if_pos (show (0 : Int32) ≤ 0 by decide)]
  generalize mm_pi h 142 0 0 = h0 at *
  obtain ⟨k0, mg, mb, e20, e21, e22, e31, ax⟩ := H0
  have hin : mm_in (nI na) 6 = true := mm_inN (by omega) (by omega)
  have hcl : (nI na).toNatClampNeg = na := nI_clamp (by omega)
  simp only [s145_74, s145_75, s145_78, s145_79, s145_82, s145_83, s145_84, s145_85, s145_86, s145_89, s145_90, s145_91, s145_94, s145_95, s145_98, s145_99, s145_100, or_true, true_or, true_and, and_true, mm_o_some, mm_o_none, mm_bk_v, mm_bk_n, Nat.reduceAdd, kS142 k0, kR142_32 k0, kS165 k0, e31, hin, hcl, mm_s_pi, mm_i_pi, Nat.reduceEqDiff, not_false_eq_true, false_and, if_false, nI_1, and_self, if_true, nI_pred]
  have F1 : zFm (fun k => k = 31) (fun x => x = 165) h0 (mm_pi (mm_pi h0 165 na x) 142 31 (nI (na + 1))) := ⟨zFr.trans (T := fun x => x = 142 ∨ x = 165) (zFr.pi (Or.inr rfl)) (zFr.pi (Or.inl rfl)), fun k hk => ⟨by rw [mm_i_pi, if_neg (fun q => hk q.2), mm_i_pi, if_neg (by omega)], rfl⟩⟩
  have i31 : mm_i (mm_pi (mm_pi h0 165 na x) 142 31 (nI (na + 1))) 142 31 = nI (na + 1) := by rw [mm_i_pi, if_pos ⟨rfl, rfl⟩]
  have i165 : ∀ i, mm_i (mm_pi (mm_pi h0 165 na x) 142 31 (nI (na + 1))) 165 i = if i = na then x else mm_i h0 165 i := fun i => by simp only [mm_i_pi, Nat.reduceEqDiff, false_and, if_false, true_and]
  generalize mm_pi (mm_pi h0 165 na x) 142 31 (nI (na + 1)) = h1 at *
  have nf : ∀ k, ¬ k = 31 → mm_i h1 142 k = mm_i h0 142 k := fun k hk => (F1.2 k hk).1
  refine K h1 (FT.trans (F1.1.mono (fun a ha => by omega))) ⟨F1.sk k0, mg.fm F1 (by decide) (fun x x1 x2 => by omega), mb.fm F1 ⟨by decide, by decide, by decide⟩ (fun x x1 x2 => by omega), by rw [nf 20 (by decide)]; exact e20, by rw [nf 21 (by decide)]; exact e21, fun e => by rw [nf 22 (by decide)]; exact e22 e, i31, fun i hi => ?_⟩ (by rw [nf 0 (by decide)]; exact t0)
  rw [i165, zUp1]
  by_cases e : i = na
  · rw [if_pos e, if_pos e, zI_x]
  · rw [if_neg e, if_neg e]; exact ax i (by omega)
end
