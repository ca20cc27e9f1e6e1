/-! THE REFERENCE: A PLACE LOOKED AT -/
section
variable {d : Nat} {h h' : mm_H} {Q : mm_Q} {L n a b q t u i r e j k na bL told p : Nat} {W A : Nat → Int} {m mk : Int} {R bR : zR} {P : Nat → Nat → Int} {sp : Bool} {T : Nat → Prop} {x2 x3 x4 : Int32} {l : List Int} {x y z v w : Int} {C : Nat → Int}
theorem nI_mul (a b : Nat) : nI a * nI b = nI (a * b) := by rw [zI_n, zI_n, zI_n, zI_mul, Int.natCast_mul]
theorem nI_div (ha : a < 2 ^ 31) (h0 : 0 < b) (hb : b < 2 ^ 31) : nI a / nI b = nI (a / b) := by
  have h1 : Int32.minValue.toInt = -2147483648 := rfl
  have h2 : Int32.maxValue.toInt = 2147483647 := rfl
  have := Int32.ofInt_tdiv (a := (a : Int)) (b := (b : Int)) (by rw [h1]; omega) (by rw [h2]; omega) (by rw [h1]; omega) (by rw [h2]; omega)
  rw [zI_n, zI_n, zI_n]
  simp only [zI]
  rw [← this, ← Int.ofNat_tdiv]
theorem nI_sub (h : b ≤ a) : nI a - nI b = nI (a - b) := by rw [zI_n, zI_n, zI_n, zI_sub, show ((a - b : Nat) : Int) = (a : Int) - (b : Int) by omega]
theorem nI_rem (ha : a < 2 ^ 31) (h0 : 0 < b) (hb : b < 2 ^ 31) : nI a - nI a / nI b * nI b = nI (a % b) := by
  have h1 := Nat.div_mul_le_self a b
  have h2 := Nat.div_add_mod a b
  rw [nI_div ha h0 hb, nI_mul, nI_sub h1]
  congr 1
  rw [Nat.mul_comm] at h1 ⊢
  omega
/-- the row as the reference keeps it -/
def zMr (h : mm_H) (L : Nat) (R : zR) : Prop := mm_i h 142 8 = nI L ∧ L ≤ 8 ∧ ∀ k, k < L → mm_i h 149 k = zI (R k 1) ∧ mm_i h 150 k = zI (R k 2) ∧ (∀ a, a < 3 → mm_i h 151 (3 * k + a) = zI (R k (9 + a)) ∧ mm_i h 152 (3 * k + a) = zI (R k (3 + a))) ∧ mm_i h 153 k = zI (R k 15)
/-- the ends of a level, as the reference keeps them -/
def zMe (h : mm_H) (R : zR) (j : Nat) : Prop := ∀ a, a < 3 → mm_i h 159 (3 * j + a) = nI (zEnds R (6 + a) j).length ∧ ∀ i, i < (zEnds R (6 + a) j).length → mm_i h 158 (27 * j + 9 * a + i) = zI ((zEnds R (6 + a) j).getD i 0)
/-- the pieces of a row are pieces -/
def zRP (P : Nat → Nat → Int) (n L : Nat) (R : zR) : Prop := ∀ k, k < L → ∃ q t : Nat, q < n ∧ t < 6 ∧ R k 1 = (q : Int) ∧ R k 2 = (t : Int) ∧ R k 9 = zW (P q) t ∧ R k 10 = zH (P q) t ∧ R k 11 = zD (P q) t ∧ R k 12 = P q 6 ∧ R k 13 = P q 8 ∧ R k 14 = P q 9
/-- how much two stretches share -/
def zCo (a b c e : Int) : Int := max 0 (zLn a b c e)
theorem c134z (hK : zSK h) (hR : zMr h L R) (hk : k < L) (ha : a < 3) (oR : zOk (R k)) (rx : 0 ≤ x ∧ x ≤ 200) (rw' : 1 ≤ w ∧ w ≤ 200) (v5 v6 v7 v8 : Value) : mm_wp d 134 0 [.ref 142, .int (nI k), .int (nI a), .int (zI x), .int (zI w), v5, v6, v7, v8] [] h Q ↔ Q (.inl (some (.int (zI (zCo x (x + w) (R k (3 + a)) (R k (6 + a))))))) h := by
  obtain ⟨h1, h2, h3⟩ := hR
  obtain ⟨g1, g2, g3, g4⟩ := h3 k hk
  obtain ⟨p1, p2⟩ := g3 a ha
  have hin : mm_in (nI (3 * k + a)) 24 = true := mm_inN (by omega) (by omega)
  have hcl : (nI (3 * k + a)).toNatClampNeg = 3 * k + a := nI_clamp (by omega)
  have e6 : R k (6 + a) = R k (3 + a) + R k (9 + a) ∧ (0 ≤ R k (3 + a) ∧ R k (3 + a) ≤ 400) ∧ 1 ≤ R k (9 + a) ∧ R k (9 + a) ≤ 200 := by
    simp only [zOk] at oR
    have : a = 0 ∨ a = 1 ∨ a = 2 := by omega
    rcases this with rfl | rfl | rfl
    · exact ⟨by show R k 6 = R k 3 + R k 9; omega, by show 0 ≤ R k 3 ∧ R k 3 ≤ 400; omega, by show 1 ≤ R k 9; omega, by show R k 9 ≤ 200; omega⟩
    · exact ⟨by show R k 7 = R k 4 + R k 10; omega, by show 0 ≤ R k 4 ∧ R k 4 ≤ 400; omega, by show 1 ≤ R k 10; omega, by show R k 10 ≤ 200; omega⟩
    · exact ⟨by show R k 8 = R k 5 + R k 11; omega, by show 0 ≤ R k 5 ∧ R k 5 ≤ 400; omega, by show 1 ≤ R k 11; omega, by show R k 11 ≤ 200; omega⟩
  obtain ⟨e6, r3, r9⟩ := e6
  have z1 : zr (R k (3 + a)) := by simp only [zr]; omega
  have z2 : zr x := by simp only [zr]; omega
  have z3 : zr (R k (3 + a) + R k (9 + a)) := by simp only [zr]; omega
  have z4 : zr (x + w) := by simp only [zr]; omega
  simp only [s134_0, s134_1, s134_4, s134_5, s134_6, s134_7, s134_8, s134_9, s134_10, s134_11, s134_14, s134_15, s134_18, s134_19, s134_20, s134_21, s134_22, s134_23, s134_24, s134_27, s134_28, s134_30, s134_31, s134_34, s134_35, s134_36, s134_37, s134_38, s134_39, s134_40, s134_41, s134_44, s134_45, s134_46, s134_47, s134_48, s134_49, s134_50, s134_51, s134_53, s134_54, s134_56, s134_57, s134_59, s134_61, s134_63, s134_66, s134_68, s134_71, s134_73, s134_75, s134_77, s134_79, s134_82, s134_84, s134_86, s134_87, s134_90, s134_91, or_true, true_or, true_and, and_true, mm_o_some, mm_o_none, mm_bk_v, mm_bk_n, Nat.reduceAdd, kS142 hK, kR142_11 hK, kR142_12 hK, kS151 hK, kS152 hK, nI_3, nI_add, hin, hcl, p1, p2, zI_add, zI_le z1 z2, zI_le z4 z3, e6, zCo, zLn]
  by_cases g1 : R k (3 + a) ≤ x
  · simp only [if_pos g1]
    by_cases g2 : x + w ≤ R k (3 + a) + R k (9 + a)
    · simp only [if_pos g2, zI_le z4 z2]
      by_cases g3 : x + w ≤ x
      · omega
      · simp only [if_neg g3, zI_sub]
        rw [show max 0 (min (x + w) (R k (3 + a) + R k (9 + a)) - max x (R k (3 + a))) = x + w - x by omega]
    · simp only [if_neg g2, zI_le z3 z2]
      by_cases g3 : R k (3 + a) + R k (9 + a) ≤ x
      · simp only [if_pos g3]
        rw [show max 0 (min (x + w) (R k (3 + a) + R k (9 + a)) - max x (R k (3 + a))) = 0 by omega]
        exact Iff.rfl
      · simp only [if_neg g3, zI_sub]
        rw [show max 0 (min (x + w) (R k (3 + a) + R k (9 + a)) - max x (R k (3 + a))) = R k (3 + a) + R k (9 + a) - x by omega]
  · simp only [if_neg g1]
    by_cases g2 : x + w ≤ R k (3 + a) + R k (9 + a)
    · simp only [if_pos g2, zI_le z4 z1]
      by_cases g3 : x + w ≤ R k (3 + a)
      · simp only [if_pos g3]
        rw [show max 0 (min (x + w) (R k (3 + a) + R k (9 + a)) - max x (R k (3 + a))) = 0 by omega]
        exact Iff.rfl
      · simp only [if_neg g3, zI_sub]
        rw [show max 0 (min (x + w) (R k (3 + a) + R k (9 + a)) - max x (R k (3 + a))) = x + w - R k (3 + a) by omega]
    · simp only [if_neg g2, zI_le z3 z1]
      by_cases g3 : R k (3 + a) + R k (9 + a) ≤ R k (3 + a)
      · omega
      · simp only [if_neg g3, zI_sub]
        rw [show max 0 (min (x + w) (R k (3 + a) + R k (9 + a)) - max x (R k (3 + a))) = R k (3 + a) + R k (9 + a) - R k (3 + a) by omega]
theorem c133z (hK : zSK h) (hR : zMr h L R) (oR : ∀ i, i < L → zOk (R i)) (oC : zOk C) (v4 : Value) : mm_wp d 133 0 [.ref 142, .int (zI (C 3)), .int (zI (C 4)), .int (zI (C 5)), v4] [] h Q ↔ Q (.inl (some (.int (bI (decide (L = 0) || zPast C (R (L - 1))))))) h := by
  obtain ⟨h1, h2, h3⟩ := hR
  by_cases g0 : L = 0
  · subst g0
    simp only [s133_0, s133_1, s133_4, s133_7, s133_8, s133_9, s133_10, s133_11, s133_14, s133_15, s133_16, s133_17, s133_19, s133_20, s133_21, s133_24, s133_26, s133_27, s133_28, s133_29, s133_32, s133_33, s133_34, s133_37, s133_39, s133_40, s133_41, s133_42, s133_45, s133_46, s133_49, s133_50, s133_51, s133_52, s133_53, s133_56, s133_58, s133_59, s133_60, s133_61, s133_64, s133_65, s133_66, s133_69, s133_71, s133_72, s133_73, s133_74, s133_77, s133_78, s133_81, s133_82, s133_85, s133_86, s133_87, s133_90, s133_92, s133_93, s133_96, s133_97, s133_100, s133_101, or_true, true_or, true_and, and_true, mm_o_some, mm_o_none, mm_bk_v, mm_bk_n, Nat.reduceAdd, kS142 hK, h1, nI_lit0, if_true, decide_true, Bool.true_or, bI_t]
  · have c : ¬ nI L = 0 := nI_ne0 (by omega) (by omega)
    obtain ⟨g1, g2, g3, g4⟩ := h3 (L - 1) (by omega)
    have p0 := (g3 0 (by decide)).2
    have p1 := (g3 1 (by decide)).2
    have p2 := (g3 2 (by decide)).2
    have q0 : nI (3 * L) - (3 : Int32) = nI (3 * (L - 1)) := by
      rw [show (3 : Int32) = nI 3 from rfl, nI_sub (by omega), show 3 * L - 3 = 3 * (L - 1) by omega]
    have hin0 : mm_in (nI (3 * (L - 1))) 24 = true := mm_inN (by omega) (by omega)
    have hcl0 : (nI (3 * (L - 1))).toNatClampNeg = 3 * (L - 1) := nI_clamp (by omega)
    have hin1 : mm_in (nI (3 * (L - 1) + 1)) 24 = true := mm_inN (by omega) (by omega)
    have hcl1 : (nI (3 * (L - 1) + 1)).toNatClampNeg = 3 * (L - 1) + 1 := nI_clamp (by omega)
    have hin2 : mm_in (nI (3 * (L - 1) + 2)) 24 = true := mm_inN (by omega) (by omega)
    have hcl2 : (nI (3 * (L - 1) + 2)).toNatClampNeg = 3 * (L - 1) + 2 := nI_clamp (by omega)
    have o := oR (L - 1) (by omega)
    have r3 := o.r 3 (by decide) (by decide)
    have r4 := o.r 4 (by decide) (by decide)
    have r5 := o.r 5 (by decide) (by decide)
    have c3 := oC.r 3 (by decide) (by decide)
    have c4 := oC.r 4 (by decide) (by decide)
    have c5 := oC.r 5 (by decide) (by decide)
    rw [Nat.add_zero] at p0
    have n2 : ∀ a : Nat, nI a + (2 : Int32) = nI (a + 2) := fun a => nI_add a 2
    rw [show (3 + 0 : Nat) = 3 from rfl] at p0
    rw [show (3 + 1 : Nat) = 4 from rfl] at p1
    rw [show (3 + 2 : Nat) = 5 from rfl] at p2
    simp only [s133_0, s133_1, s133_4, s133_7, s133_8, s133_9, s133_10, s133_11, s133_14, s133_15, s133_16, s133_17, s133_19, s133_20, s133_21, s133_24, s133_26, s133_27, s133_28, s133_29, s133_32, s133_33, s133_34, s133_37, s133_39, s133_40, s133_41, s133_42, s133_45, s133_46, s133_49, s133_50, s133_51, s133_52, s133_53, s133_56, s133_58, s133_59, s133_60, s133_61, s133_64, s133_65, s133_66, s133_69, s133_71, s133_72, s133_73, s133_74, s133_77, s133_78, s133_81, s133_82, s133_85, s133_86, s133_87, s133_90, s133_92, s133_93, s133_96, s133_97, s133_100, s133_101, or_true, true_or, true_and, and_true, mm_o_some, mm_o_none, mm_bk_v, mm_bk_n, Nat.reduceAdd, kS142 hK, kR142_12 hK, kS152 hK, h1, if_neg c, nI_3, q0, nI_1, n2, hin0, hcl0, hin1, hcl1, hin2, hcl2, p0, p1, p2, zI_eq c4 r4, zI_le c4 r4, zI_eq c5 r5, zI_le c5 r5, zI_le c3 r3, g0, decide_false, Bool.false_or, zPast]
    generalize R (L - 1) = B
    by_cases e4 : C 4 = B 4
    · simp only [if_pos e4]
      by_cases e5 : C 5 = B 5
      · simp only [if_pos e5]
        by_cases e3 : C 3 ≤ B 3
        · simp only [if_pos e3]
          rw [show decide (B 4 < C 4 ∨ C 4 = B 4 ∧ (B 5 < C 5 ∨ C 5 = B 5 ∧ B 3 < C 3)) = false by simp; omega]
          exact Iff.rfl
        · simp only [if_neg e3]
          rw [show decide (B 4 < C 4 ∨ C 4 = B 4 ∧ (B 5 < C 5 ∨ C 5 = B 5 ∧ B 3 < C 3)) = true by simp; omega]
          exact Iff.rfl
      · simp only [if_neg e5]
        by_cases e3 : C 5 ≤ B 5
        · simp only [if_pos e3]
          rw [show decide (B 4 < C 4 ∨ C 4 = B 4 ∧ (B 5 < C 5 ∨ C 5 = B 5 ∧ B 3 < C 3)) = false by simp; omega]
          exact Iff.rfl
        · simp only [if_neg e3]
          rw [show decide (B 4 < C 4 ∨ C 4 = B 4 ∧ (B 5 < C 5 ∨ C 5 = B 5 ∧ B 3 < C 3)) = true by simp; omega]
          exact Iff.rfl
    · simp only [if_neg e4]
      by_cases e3 : C 4 ≤ B 4
      · simp only [if_pos e3]
        rw [show decide (B 4 < C 4 ∨ C 4 = B 4 ∧ (B 5 < C 5 ∨ C 5 = B 5 ∧ B 3 < C 3)) = false by simp; omega]
        exact Iff.rfl
      · simp only [if_neg e3]
        rw [show decide (B 4 < C 4 ∨ C 4 = B 4 ∧ (B 5 < C 5 ∨ C 5 = B 5 ∧ B 3 < C 3)) = true by simp; omega]
        exact Iff.rfl
/-- the corner with the number c, of a level -/
theorem c129z (hK : zSK h) (hL : mm_i h 142 8 = nI L) (h8 : L ≤ 8) (hE : zMe h R L) {c : Nat} (hc : c < 1000) : mm_wp d 129 0 [.ref 142, .int (nI c)] [] h Q ↔ Q (.inl (some (.int (zI ((zEnds R 6 L).getD (c % (zEnds R 6 L).length) 0))))) h := by
  have l6 := zEnds_len R 6 L
  obtain ⟨a1, a2⟩ := hE 0 (by decide)
  rw [Nat.add_zero, show (6 + 0 : Nat) = 6 from rfl] at a1
  have a3 := a2 (c % (zEnds R 6 L).length) (Nat.mod_lt _ (by show 0 < (zEnds R 6 L).length; omega))
  rw [show (27 * L + 9 * 0 : Nat) = 27 * L by omega, show (6 + 0 : Nat) = 6 from rfl] at a3
  have hm : c % (zEnds R 6 L).length < (zEnds R 6 L).length := Nat.mod_lt _ (by omega)
  have hin1 : mm_in (nI (3 * L)) 27 = true := mm_inN (by omega) (by omega)
  have hcl1 : (nI (3 * L)).toNatClampNeg = 3 * L := nI_clamp (by omega)
  have hin2 : mm_in (nI (27 * L + c % (zEnds R 6 L).length)) 243 = true := mm_inN (by omega) (by omega)
  have hcl2 : (nI (27 * L + c % (zEnds R 6 L).length)).toNatClampNeg = 27 * L + c % (zEnds R 6 L).length := nI_clamp (by omega)
  have ne : ¬ nI (zEnds R 6 L).length = 0 := nI_ne0 (by omega) (by omega)
  simp only [s129_0, s129_1, s129_4, s129_6, s129_7, s129_10, s129_11, s129_12, s129_13, s129_16, s129_17, s129_18, s129_21, s129_22, s129_23, s129_24, s129_25, s129_26, or_true, true_or, true_and, and_true, mm_o_some, mm_o_none, mm_bk_v, mm_bk_n, Nat.reduceAdd, kS142 hK, kR142_18 hK, kR142_19 hK, kS158 hK, kS159 hK, hL, nI_3, show (27 : Int32) = nI 27 from rfl, nI_mul, hin1, hcl1, a1, ne, not_false_eq_true, nI_rem (show c < 2 ^ 31 by omega) (show 0 < (zEnds R 6 L).length by omega) (by omega), nI_add, hin2, hcl2, a3]
theorem c130z (hK : zSK h) (hL : mm_i h 142 8 = nI L) (h8 : L ≤ 8) (hE : zMe h R L) {c : Nat} (hc : c < (zEnds R 6 L).length * (zEnds R 7 L).length * (zEnds R 8 L).length) (hc2 : c < 1000) : mm_wp d 130 0 [.ref 142, .int (nI c)] [] h Q ↔ Q (.inl (some (.int (zI ((zEnds R 7 L).getD (c / (zEnds R 6 L).length / (zEnds R 8 L).length) 0))))) h := by
  have l6 := zEnds_len R 6 L
  have l7 := zEnds_len R 7 L
  have l8 := zEnds_len R 8 L
  obtain ⟨a1, _⟩ := hE 0 (by decide)
  obtain ⟨b1, _⟩ := hE 2 (by decide)
  obtain ⟨_, a2⟩ := hE 1 (by decide)
  have lt : c / (zEnds R 6 L).length / (zEnds R 8 L).length < (zEnds R 7 L).length := by
    rw [Nat.div_div_eq_div_mul, Nat.div_lt_iff_lt_mul (Nat.mul_pos (by omega) (by omega))]
    rw [Nat.mul_assoc, Nat.mul_comm (zEnds R 7 L).length, ← Nat.mul_assoc, Nat.mul_comm] at hc
    exact hc
  have le1 := Nat.div_le_self c (zEnds R 6 L).length
  rw [Nat.add_zero, show (6 + 0 : Nat) = 6 from rfl] at a1
  rw [show (6 + 2 : Nat) = 8 from rfl] at b1
  have a3 := a2 (c / (zEnds R 6 L).length / (zEnds R 8 L).length) lt
  rw [show (27 * L + 9 * 1 : Nat) = 27 * L + 9 by omega, show (6 + 1 : Nat) = 7 from rfl] at a3
  have hin1 : mm_in (nI (3 * L)) 27 = true := mm_inN (by omega) (by omega)
  have hcl1 : (nI (3 * L)).toNatClampNeg = 3 * L := nI_clamp (by omega)
  have hin3 : mm_in (nI (3 * L + 2)) 27 = true := mm_inN (by omega) (by omega)
  have hcl3 : (nI (3 * L + 2)).toNatClampNeg = 3 * L + 2 := nI_clamp (by omega)
  have hin2 : mm_in (nI (27 * L + 9 + c / (zEnds R 6 L).length / (zEnds R 8 L).length)) 243 = true := mm_inN (by omega) (by omega)
  have hcl2 : (nI (27 * L + 9 + c / (zEnds R 6 L).length / (zEnds R 8 L).length)).toNatClampNeg = 27 * L + 9 + c / (zEnds R 6 L).length / (zEnds R 8 L).length := nI_clamp (by omega)
  have ne : ¬ nI (zEnds R 6 L).length = 0 := nI_ne0 (by omega) (by omega)
  have ne8 : ¬ nI (zEnds R 8 L).length = 0 := nI_ne0 (by omega) (by omega)
  have n2 : ∀ a : Nat, nI a + (2 : Int32) = nI (a + 2) := fun a => nI_add a 2
  have n9 : ∀ a : Nat, nI a + (9 : Int32) = nI (a + 9) := fun a => nI_add a 9
  simp only [s130_0, s130_1, s130_4, s130_6, s130_7, s130_10, s130_11, s130_13, s130_14, s130_15, s130_16, s130_19, s130_20, s130_21, s130_24, s130_25, s130_26, s130_27, s130_28, s130_31, s130_32, s130_33, s130_36, s130_37, s130_38, s130_39, s130_40, s130_41, s130_42, s130_43, or_true, true_or, true_and, and_true, mm_o_some, mm_o_none, mm_bk_v, mm_bk_n, Nat.reduceAdd, kS142 hK, kR142_18 hK, kR142_19 hK, kS158 hK, kS159 hK, hL, nI_3, show (27 : Int32) = nI 27 from rfl, nI_mul, n2, n9, hin1, hcl1, hin3, hcl3, a1, b1, ne, ne8, not_false_eq_true, nI_div (show c < 2 ^ 31 by omega) (show 0 < (zEnds R 6 L).length by omega) (by omega), nI_div (show c / (zEnds R 6 L).length < 2 ^ 31 by omega) (show 0 < (zEnds R 8 L).length by omega) (by omega), nI_add, hin2, hcl2, a3]
theorem c131z (hK : zSK h) (hL : mm_i h 142 8 = nI L) (h8 : L ≤ 8) (hE : zMe h R L) {c : Nat} (hc2 : c < 1000) : mm_wp d 131 0 [.ref 142, .int (nI c)] [] h Q ↔ Q (.inl (some (.int (zI ((zEnds R 8 L).getD (c / (zEnds R 6 L).length % (zEnds R 8 L).length) 0))))) h := by
  have l6 := zEnds_len R 6 L
  have l8 := zEnds_len R 8 L
  obtain ⟨a1, _⟩ := hE 0 (by decide)
  obtain ⟨b1, b2⟩ := hE 2 (by decide)
  have lt : c / (zEnds R 6 L).length % (zEnds R 8 L).length < (zEnds R 8 L).length := Nat.mod_lt _ (by omega)
  have le1 := Nat.div_le_self c (zEnds R 6 L).length
  rw [Nat.add_zero, show (6 + 0 : Nat) = 6 from rfl] at a1
  have a3 := b2 (c / (zEnds R 6 L).length % (zEnds R 8 L).length) lt
  rw [show (6 + 2 : Nat) = 8 from rfl] at b1
  rw [show (27 * L + 9 * 2 : Nat) = 27 * L + 18 by omega, show (6 + 2 : Nat) = 8 from rfl] at a3
  have hin1 : mm_in (nI (3 * L)) 27 = true := mm_inN (by omega) (by omega)
  have hcl1 : (nI (3 * L)).toNatClampNeg = 3 * L := nI_clamp (by omega)
  have hin3 : mm_in (nI (3 * L + 2)) 27 = true := mm_inN (by omega) (by omega)
  have hcl3 : (nI (3 * L + 2)).toNatClampNeg = 3 * L + 2 := nI_clamp (by omega)
  have hin2 : mm_in (nI (27 * L + 18 + c / (zEnds R 6 L).length % (zEnds R 8 L).length)) 243 = true := mm_inN (by omega) (by omega)
  have hcl2 : (nI (27 * L + 18 + c / (zEnds R 6 L).length % (zEnds R 8 L).length)).toNatClampNeg = 27 * L + 18 + c / (zEnds R 6 L).length % (zEnds R 8 L).length := nI_clamp (by omega)
  have ne : ¬ nI (zEnds R 6 L).length = 0 := nI_ne0 (by omega) (by omega)
  have ne8 : ¬ nI (zEnds R 8 L).length = 0 := nI_ne0 (by omega) (by omega)
  have n2 : ∀ a : Nat, nI a + (2 : Int32) = nI (a + 2) := fun a => nI_add a 2
  have n18 : ∀ a : Nat, nI a + (18 : Int32) = nI (a + 18) := fun a => nI_add a 18
  have rm := nI_rem (a := c / (zEnds R 6 L).length) (b := (zEnds R 8 L).length) (by omega) (by omega) (by omega)
  simp only [s131_0, s131_1, s131_4, s131_6, s131_7, s131_10, s131_11, s131_13, s131_14, s131_15, s131_16, s131_19, s131_20, s131_21, s131_24, s131_25, s131_26, s131_27, s131_28, s131_31, s131_32, s131_33, s131_36, s131_37, s131_38, s131_39, s131_40, s131_41, s131_42, s131_43, or_true, true_or, true_and, and_true, mm_o_some, mm_o_none, mm_bk_v, mm_bk_n, Nat.reduceAdd, kS142 hK, kR142_18 hK, kR142_19 hK, kS158 hK, kS159 hK, hL, nI_3, show (27 : Int32) = nI 27 from rfl, nI_mul, n2, n18, hin1, hcl1, hin3, hcl3, a1, b1, ne, ne8, not_false_eq_true, nI_div (show c < 2 ^ 31 by omega) (show 0 < (zEnds R 6 L).length by omega) (by omega)]
  rw [rm]
  simp only [s131_0, s131_1, s131_4, s131_6, s131_7, s131_10, s131_11, s131_13, s131_14, s131_15, s131_16, s131_19, s131_20, s131_21, s131_24, s131_25, s131_26, s131_27, s131_28, s131_31, s131_32, s131_33, s131_36, s131_37, s131_38, s131_39, s131_40, s131_41, s131_42, s131_43, or_true, true_or, true_and, and_true, mm_o_some, mm_o_none, mm_bk_v, mm_bk_n, Nat.reduceAdd, kS158 hK, nI_add, hin2, hcl2, a3]
end
