/-! THE REFERENCE: MORE OF ITS CALLS -/
section
variable {d : Nat} {h h' : mm_H} {Q : mm_Q} {L n a b q t u i r e j k na bL told p : Nat} {W A : Nat → Int} {m mk : Int} {R bR : zR} {P : Nat → Nat → Int} {sp : Bool} {T : Nat → Prop} {x2 x3 x4 : Int32} {l : List Int} {c : Nat} {h'' : mm_H} {s : zS} {x : Int32} {y z v w : Int} {C : Nat → Int}
theorem c111x (H : zMo h W n P mk sp bL bR na A) (hx : ¬ zGoodP x x2 x3 x4) (v5 : Value) : mm_wp (d + 1) 111 0 [.ref 142, .int x, .int x2, .int x3, .int x4, v5] [] h Q ↔ Q (.inl (some (.int 0))) (mm_pi h 142 0 1) := by
  simp only [zGoodP] at hx
  by_cases g1 : 1 ≤ x.toInt ∧ x.toInt ≤ 200
  · by_cases g2 : 1 ≤ x2.toInt ∧ x2.toInt ≤ 200
    · by_cases g3 : 1 ≤ x3.toInt ∧ x3.toInt ≤ 200
      · have g4 : ¬ (1 ≤ x4.toInt ∧ x4.toInt ≤ 10000) := by omega
        simp only [s111_0, s111_1, s111_2, s111_5, s111_8, s111_11, s111_12, s111_13, s111_16, s111_19, s111_22, s111_23, s111_24, s111_27, s111_30, s111_33, s111_35, s111_36, s111_39, s111_42, s111_45, s111_46, s111_49, s111_50, s111_52, s111_53, s111_55, s111_58, s111_59, s111_62, s111_63, s111_66, s111_68, s111_71, s111_72, s111_75, s111_76, s111_79, s111_80, s111_83, s111_86, s111_87, or_true, true_or, true_and, and_true, mm_o_some, mm_o_none, mm_bk_v, mm_bk_n, Nat.reduceAdd, c112, i32_1, i32_200, i32_10000, if_pos g1, if_pos g2, if_pos g3, if_neg n10, if_neg g4, if_true, kS142 H.1, mm_s_pi, th0, if_neg (show ¬ (1 : Int32) ≤ 0 by decide)]
      · simp only [s111_0, s111_1, s111_2, s111_5, s111_8, s111_11, s111_12, s111_13, s111_16, s111_19, s111_22, s111_23, s111_24, s111_27, s111_30, s111_33, s111_35, s111_36, s111_39, s111_42, s111_45, s111_46, s111_49, s111_50, s111_52, s111_53, s111_55, s111_58, s111_59, s111_62, s111_63, s111_66, s111_68, s111_71, s111_72, s111_75, s111_76, s111_79, s111_80, s111_83, s111_86, s111_87, or_true, true_or, true_and, and_true, mm_o_some, mm_o_none, mm_bk_v, mm_bk_n, Nat.reduceAdd, c112, i32_1, i32_200, if_pos g1, if_pos g2, if_neg g3, if_neg n10, if_true, kS142 H.1, mm_s_pi, th0, if_neg (show ¬ (1 : Int32) ≤ 0 by decide)]
    · simp only [s111_0, s111_1, s111_2, s111_5, s111_8, s111_11, s111_12, s111_13, s111_16, s111_19, s111_22, s111_23, s111_24, s111_27, s111_30, s111_33, s111_35, s111_36, s111_39, s111_42, s111_45, s111_46, s111_49, s111_50, s111_52, s111_53, s111_55, s111_58, s111_59, s111_62, s111_63, s111_66, s111_68, s111_71, s111_72, s111_75, s111_76, s111_79, s111_80, s111_83, s111_86, s111_87, or_true, true_or, true_and, and_true, mm_o_some, mm_o_none, mm_bk_v, mm_bk_n, Nat.reduceAdd, c112, i32_1, i32_200, if_pos g1, if_neg g2, if_neg n10, if_true, kS142 H.1, mm_s_pi, th0, if_neg (show ¬ (1 : Int32) ≤ 0 by decide)]
  · simp only [s111_0, s111_1, s111_2, s111_5, s111_8, s111_11, s111_12, s111_13, s111_16, s111_19, s111_22, s111_23, s111_24, s111_27, s111_30, s111_33, s111_35, s111_36, s111_39, s111_42, s111_45, s111_46, s111_49, s111_50, s111_52, s111_53, s111_55, s111_58, s111_59, s111_62, s111_63, s111_66, s111_68, s111_71, s111_72, s111_75, s111_76, s111_79, s111_80, s111_83, s111_86, s111_87, or_true, true_or, true_and, and_true, mm_o_some, mm_o_none, mm_bk_v, mm_bk_n, Nat.reduceAdd, c112, i32_1, i32_200, if_neg g1, if_true, kS142 H.1, mm_s_pi, th0, if_neg (show ¬ (1 : Int32) ≤ 0 by decide)]
theorem c111y (H : zMo h W n P mk sp bL bR na A) (hx : zGoodP x x2 x3 x4) (h8 : n = 8) (v5 : Value) : mm_wp (d + 1) 111 0 [.ref 142, .int x, .int x2, .int x3, .int x4, v5] [] h Q ↔ Q (.inl (some (.int 0))) (mm_pi h 142 0 2) := by
  obtain ⟨g1, g2, g3, g4⟩ := hx
  have c : nI n = (8 : Int32) := by rw [h8]; rfl
  simp only [s111_0, s111_1, s111_2, s111_5, s111_8, s111_11, s111_12, s111_13, s111_16, s111_19, s111_22, s111_23, s111_24, s111_27, s111_30, s111_33, s111_35, s111_36, s111_39, s111_42, s111_45, s111_46, s111_49, s111_50, s111_52, s111_53, s111_55, s111_58, s111_59, s111_62, s111_63, s111_66, s111_68, s111_71, s111_72, s111_75, s111_76, s111_79, s111_80, s111_83, s111_86, s111_87, or_true, true_or, true_and, and_true, mm_o_some, mm_o_none, mm_bk_v, mm_bk_n, Nat.reduceAdd, c112, i32_1, i32_200, i32_10000, if_pos g1, if_pos g2, if_pos g3, if_pos g4, if_neg n10, kS142 H.1, H.2.1.2.1, if_pos c, mm_s_pi, th0, if_neg (show ¬ (2 : Int32) ≤ 0 by decide)]
theorem c111z (H : zMo h W n P mk sp bL bR na A) (hx : zGoodP x x2 x3 x4) (hn : n < 8) (v5 : Value) (K : ∀ h', zFr (fun x => 142 ≤ x ∧ x < 167) h h' → zMo h' W (n + 1) (zSet P n (zNew x.toInt x2.toInt x3.toInt x4.toInt)) (-1) sp 0 zR0 na A → mm_i h' 142 0 = 0 → Q (.inl (some (.int (nI n)))) h') : mm_wp (d + 1) 111 0 [.ref 142, .int x, .int x2, .int x3, .int x4, v5] [] h Q := by
  obtain ⟨g1, g2, g3, g4⟩ := hx
  have H0 := H.th (v := 0)
  have c : ¬ nI n = (8 : Int32) := by rw [show (8 : Int32) = nI 8 from rfl, nI_eq (by omega) (by omega)]; omega
  have hin : mm_in (nI n) 8 = true := mm_inN (by omega) (by omega)
  have hcl : (nI n).toNatClampNeg = n := nI_clamp (by omega)
  have hin0 : mm_in (nI (3 * n)) 24 = true := mm_inN (by omega) (by omega)
  have hcl0 : (nI (3 * n)).toNatClampNeg = 3 * n := nI_clamp (by omega)
  have hin1 : mm_in (nI (3 * n + 1)) 24 = true := mm_inN (by omega) (by omega)
  have hcl1 : (nI (3 * n + 1)).toNatClampNeg = 3 * n + 1 := nI_clamp (by omega)
  have hin2 : mm_in (nI (3 * n + 2)) 24 = true := mm_inN (by omega) (by omega)
  have hcl2 : (nI (3 * n + 2)).toNatClampNeg = 3 * n + 2 := nI_clamp (by omega)
  have n2 : ∀ a : Nat, nI a + (2 : Int32) = nI (a + 2) := fun a => nI_add a 2
  simp only [s111_0, s111_1, s111_2, s111_5, s111_8, s111_11, s111_12, s111_13, s111_16, s111_19, s111_22, s111_23, s111_24, s111_27, s111_30, s111_33, s111_35, s111_36, s111_39, s111_42, s111_45, s111_46, s111_49, s111_50, s111_52, s111_53, s111_55, s111_58, s111_59, s111_62, s111_63, s111_66, s111_68, s111_71, s111_72, s111_75, s111_76, s111_79, s111_80, s111_83, s111_86, s111_87, or_true, true_or, true_and, and_true, mm_o_some, mm_o_none, mm_bk_v, mm_bk_n, Nat.reduceAdd, c112, i32_1, i32_200, i32_10000, if_pos g1, if_pos g2, if_pos g3, if_pos g4, if_neg n10, kS142 H.1, H.2.1.2.1, if_neg c, mm_s_pi, th0, if_pos (show (0 : Int32) ≤ 0 by decide)]
  have FT := zFr.th (h := h) (v := 0)
  have t0 := th0 (h := h) (v := 0)
  generalize mm_pi h 142 0 0 = h0 at *
  obtain ⟨k0, mg, mb, e20, e21, e22, e31, ax⟩ := H0
  simp only [s111_88, s111_89, s111_92, s111_93, s111_94, s111_97, s111_98, s111_99, s111_100, s111_101, s111_104, s111_105, s111_106, s111_109, s111_110, s111_111, s111_112, s111_113, s111_114, s111_115, s111_118, s111_119, s111_120, s111_123, s111_124, s111_125, s111_126, s111_127, s111_128, s111_129, s111_132, s111_133, s111_136, s111_138, s111_139, s111_140, s111_143, s111_144, s111_147, s111_148, s111_149, s111_150, s111_153, s111_154, s111_157, s111_158, s111_159, s111_160, s111_163, s111_164, s111_167, s111_169, s111_170, s111_171, s111_172, s111_175, s111_176, s111_177, s111_180, or_true, true_or, true_and, and_true, mm_o_some, mm_o_none, mm_bk_v, mm_bk_n, Nat.reduceAdd, kS142 k0, kR142_3 k0, kR142_4 k0, kR142_5 k0, kR142_6 k0, kR142_7 k0, kS144 k0, kS145 k0, kS146 k0, kS147 k0, kS148 k0, mm_s_pi, mm_r_pi, mm_i_pi, mg.2.1, nI_3, nI_1, n2, hin, hcl, hin0, hcl0, hin1, hcl1, hin2, hcl2, Nat.reduceEqDiff, not_false_eq_true, false_and, if_false]
  have F1 : zFm (fun k => k = 2) (fun x => 144 ≤ x ∧ x < 149) h0 (mm_pi (mm_pi (mm_pi (mm_pi (mm_pi (mm_pi (mm_pi (mm_pi h0 144 (3 * n) x) 144 (3 * n + 1) x2) 144 (3 * n + 2) x3) 145 n x4) 146 n 0) 147 n 0) 148 n 100000) 142 2 (nI (n + 1))) := by
    refine ⟨(((((((zFr.pi (by omega)).trans (zFr.pi (by omega))).trans (zFr.pi (by omega))).trans (zFr.pi (by omega))).trans (zFr.pi (by omega))).trans (zFr.pi (by omega))).trans (zFr.pi (by omega))).trans (zFr.pi (by omega)), fun k hk => ⟨?_, rfl⟩⟩
    rw [mm_i_pi, if_neg (fun q => hk q.2)]
    simp only [mm_i_pi, Nat.reduceEqDiff, false_and, if_false]
  have i2 : mm_i (mm_pi (mm_pi (mm_pi (mm_pi (mm_pi (mm_pi (mm_pi (mm_pi h0 144 (3 * n) x) 144 (3 * n + 1) x2) 144 (3 * n + 2) x3) 145 n x4) 146 n 0) 147 n 0) 148 n 100000) 142 2 (nI (n + 1))) 142 2 = nI (n + 1) := by rw [mm_i_pi, if_pos ⟨rfl, rfl⟩]
  have i144 : ∀ i, mm_i (mm_pi (mm_pi (mm_pi (mm_pi (mm_pi (mm_pi (mm_pi (mm_pi h0 144 (3 * n) x) 144 (3 * n + 1) x2) 144 (3 * n + 2) x3) 145 n x4) 146 n 0) 147 n 0) 148 n 100000) 142 2 (nI (n + 1))) 144 i = if i = 3 * n + 2 then x3 else if i = 3 * n + 1 then x2 else if i = 3 * n then x else mm_i h0 144 i := fun i => by simp only [mm_i_pi, Nat.reduceEqDiff, false_and, if_false, true_and]
  have i145 : ∀ i, mm_i (mm_pi (mm_pi (mm_pi (mm_pi (mm_pi (mm_pi (mm_pi (mm_pi h0 144 (3 * n) x) 144 (3 * n + 1) x2) 144 (3 * n + 2) x3) 145 n x4) 146 n 0) 147 n 0) 148 n 100000) 142 2 (nI (n + 1))) 145 i = if i = n then x4 else mm_i h0 145 i := fun i => by simp only [mm_i_pi, Nat.reduceEqDiff, false_and, if_false, true_and]
  have i146 : ∀ i, mm_i (mm_pi (mm_pi (mm_pi (mm_pi (mm_pi (mm_pi (mm_pi (mm_pi h0 144 (3 * n) x) 144 (3 * n + 1) x2) 144 (3 * n + 2) x3) 145 n x4) 146 n 0) 147 n 0) 148 n 100000) 142 2 (nI (n + 1))) 146 i = if i = n then 0 else mm_i h0 146 i := fun i => by simp only [mm_i_pi, Nat.reduceEqDiff, false_and, if_false, true_and]
  have i147 : ∀ i, mm_i (mm_pi (mm_pi (mm_pi (mm_pi (mm_pi (mm_pi (mm_pi (mm_pi h0 144 (3 * n) x) 144 (3 * n + 1) x2) 144 (3 * n + 2) x3) 145 n x4) 146 n 0) 147 n 0) 148 n 100000) 142 2 (nI (n + 1))) 147 i = if i = n then 0 else mm_i h0 147 i := fun i => by simp only [mm_i_pi, Nat.reduceEqDiff, false_and, if_false, true_and]
  have i148 : ∀ i, mm_i (mm_pi (mm_pi (mm_pi (mm_pi (mm_pi (mm_pi (mm_pi (mm_pi h0 144 (3 * n) x) 144 (3 * n + 1) x2) 144 (3 * n + 2) x3) 145 n x4) 146 n 0) 147 n 0) 148 n 100000) 142 2 (nI (n + 1))) 148 i = if i = n then 100000 else mm_i h0 148 i := fun i => by simp only [mm_i_pi, Nat.reduceEqDiff, false_and, if_false, true_and]
  generalize (mm_pi (mm_pi (mm_pi (mm_pi (mm_pi (mm_pi (mm_pi (mm_pi h0 144 (3 * n) x) 144 (3 * n + 1) x2) 144 (3 * n + 2) x3) 145 n x4) 146 n 0) 147 n 0) 148 n 100000) 142 2 (nI (n + 1))) = h1 at *
  have nf : ∀ k, ¬ k = 2 → mm_i h1 142 k = mm_i h0 142 k := fun k hk => (F1.2 k hk).1
  have H1 : zMo h1 W (n + 1) (zSet P n (zNew x.toInt x2.toInt x3.toInt x4.toInt)) mk sp bL bR na A := by
    refine ⟨F1.sk k0, ⟨fun k hk => by rw [F1.1.i (by omega)]; exact mg.1 k hk, i2, fun p hp => ?_⟩, mb.fm F1 ⟨by decide, by decide, by decide⟩ (fun x x1 x2 => by omega), by rw [nf 20 (by decide)]; exact e20, by rw [nf 21 (by decide)]; exact e21, fun e => by rw [nf 22 (by decide)]; exact e22 e, by rw [nf 31 (by decide)]; exact e31, fun i hi => by rw [F1.1.i (by omega)]; exact ax i hi⟩
    by_cases e : p = n
    · subst e
      have es : zSet P p (zNew x.toInt x2.toInt x3.toInt x4.toInt) p = zNew x.toInt x2.toInt x3.toInt x4.toInt := by rw [zSet, if_pos rfl]
      rw [es]
      refine ⟨fun a ha => ?_, ?_, ?_, ?_, ?_⟩
      · rw [i144]
        have : a = 0 ∨ a = 1 ∨ a = 2 := by omega
        rcases this with rfl | rfl | rfl
        · rw [if_neg (by omega), if_neg (by omega), if_pos (by omega)]; exact (zI_x x).symm
        · rw [if_neg (by omega), if_pos (by omega)]; exact (zI_x x2).symm
        · rw [if_pos (by omega)]; exact (zI_x x3).symm
      · rw [i145, if_pos rfl]; exact (zI_x x4).symm
      · rw [i146, if_pos rfl]; rfl
      · rw [i147, if_pos rfl]; rfl
      · rw [i148, if_pos rfl]; rfl
    · have es : zSet P n (zNew x.toInt x2.toInt x3.toInt x4.toInt) p = P p := by rw [zSet, if_neg e]
      rw [es]
      obtain ⟨d1, d2, d3, d4, d5⟩ := mg.2.2 p (by omega)
      exact ⟨fun a ha => by rw [i144, if_neg (by omega), if_neg (by omega), if_neg (by omega)]; exact d1 a ha, by rw [i145, if_neg e]; exact d2, by rw [i146, if_neg e]; exact d3, by rw [i147, if_neg e]; exact d4, by rw [i148, if_neg e]; exact d5⟩
  simp only [s111_180, s111_181, s111_184, s111_185, s111_188, s111_189, s111_190, or_true, true_or, true_and, and_true, mm_o_some, mm_o_none, mm_bk_v, mm_bk_n, Nat.reduceAdd, kS142 H1.1]
  refine c113z H1 (fun h2 F2 H2 => ?_)
  simp only [s111_180, s111_181, s111_184, s111_185, s111_188, s111_189, s111_190, or_true, true_or, true_and, and_true, mm_o_some, mm_o_none, mm_bk_v, mm_bk_n, Nat.reduceAdd, kS142 H2.1, H2.2.1.2.1, nI_pred]
  exact K h2 ((FT.trans (F1.1.mono (fun a ha => by omega))).trans (F2.1.mono (fun a ha => by rcases ha with q | q; omega; exact q.elim))) H2 (by rw [(F2.2 0 (by omega)).1, nf 0 (by decide)]; exact t0)
/-- where a piece lies in the best row, as the reference tells it -/
def zPlF (R : zR) (x : Int32) : Nat → Nat → Int32
  | _, 0 => -1
  | i, m + 1 => if zI (R i 1) = x then nI i else zPlF R x (i + 1) m
theorem c141_loop (H : zMo h W n P mk sp bL bR na A) : ∀ m i, i + m = bL → (mm_wp d 141 2 [.ref 142, .int x, .int (nI i)] [] h Q ↔ Q (.inl (some (.int (zPlF bR x i m)))) h) := by
  have hb := H.2.2.1.2.1
  intro m
  induction m with
  | zero =>
    intro i hi
    obtain rfl : i = bL := by omega
    rw [s141_2]
    simp only [s141_3, s141_4, s141_7, s141_10, s141_11, s141_14, s141_15, s141_16, s141_17, s141_20, s141_21, s141_22, s141_25, s141_28, s141_29, or_true, true_or, true_and, and_true, mm_o_some, mm_o_none, mm_bk_v, mm_bk_n, Nat.reduceAdd, kS142 H.1, H.2.2.1.1, if_pos (Int32.le_refl (nI i)), zPlF]
  | succ m ih =>
    intro i hi
    have c : ¬ nI bL ≤ nI i := nI_ge (by omega) (by omega)
    have hin : mm_in (nI i) 8 = true := mm_inN (by omega) (by omega)
    have hcl : (nI i).toNatClampNeg = i := nI_clamp (by omega)
    have e := (H.2.2.1.2.2.2.2 i (by omega)).1
    rw [s141_2]
    simp only [s141_3, s141_4, s141_7, s141_10, s141_11, s141_14, s141_15, s141_16, s141_17, s141_20, s141_21, s141_22, s141_25, s141_28, s141_29, or_true, true_or, true_and, and_true, mm_o_some, mm_o_none, mm_bk_v, mm_bk_n, Nat.reduceAdd, kS142 H.1, H.2.2.1.1, if_neg c, kR142_26 H.1, kS160 H.1, hin, hcl, e, nI_1, ih (i + 1) (by omega), zPlF]
    split <;> rfl
theorem c141z (H : zMo h W n P mk sp bL bR na A) (v2 : Value) : mm_wp d 141 0 [.ref 142, .int x, v2] [] h Q ↔ Q (.inl (some (.int (zPlF bR x 0 bL)))) h := by
  have := c141_loop (d := d) (Q := Q) (x := x) H bL 0 (by omega)
  rw [nI_lit0] at this
  simp only [s141_0, s141_1]
  exact this
theorem zPlF_fd (hO : ∀ i, i < bL → zOk (bR i)) (hj : j < 8) : ∀ m i, i + m = bL → zPlF bR (nI j) i m = match zFdF bR j i m with | none => -1 | some k => nI k := by
  intro m
  induction m with
  | zero => intro i _; rfl
  | succ m ih =>
    intro i hi
    have o := hO i (by omega)
    have rj : zr (j : Int) := by simp only [zr]; omega
    simp only [zPlF, zFdF, zI_n, zI_eq (o.r 1 (by decide) (by decide)) rj]
    split
    · rfl
    · rw [← zI_n]; exact ih (i + 1) (by omega)
theorem c140x (H : zMo h W n P mk sp bL bR na A) (hn : n ≤ 8) (hx : x < 0 ∨ (¬ x < 0 ∧ ¬ x < nI n)) (v3 : Value) : mm_wp (d + 2) 140 0 [.ref 142, .int x, .int x2, v3] [] h Q ↔ Q (.inl (some (.int 0))) (mm_pi h 142 0 1) := by
  simp only [s140_0, s140_1, s140_2, s140_3, s140_6, s140_9, s140_10, s140_13, s140_14, s140_15, s140_16, s140_19, s140_22, s140_23, s140_26, s140_27, s140_30, s140_31, s140_34, s140_37, s140_38, or_true, true_or, true_and, and_true, mm_o_some, mm_o_none, mm_bk_v, mm_bk_n, Nat.reduceAdd, kS142 H.1, c115x H hn hx, if_true, mm_s_pi, th0, if_neg (show ¬ (1 : Int32) ≤ 0 by decide)]
theorem c140y (H : zMo h W n P mk sp bL bR na A) (hn : n ≤ 8) (hj : j < n) (hx : ¬ (0 ≤ x2.toInt ∧ x2.toInt ≤ 5)) (v3 : Value) : mm_wp (d + 2) 140 0 [.ref 142, .int (nI j), .int x2, v3] [] h Q ↔ Q (.inl (some (.int 0))) (mm_pi h 142 0 2) := by
  simp only [s140_0, s140_1, s140_2, s140_3, s140_6, s140_9, s140_10, s140_13, s140_14, s140_15, s140_16, s140_19, s140_22, s140_23, s140_26, s140_27, s140_30, s140_31, s140_34, s140_37, s140_38, or_true, true_or, true_and, and_true, mm_o_some, mm_o_none, mm_bk_v, mm_bk_n, Nat.reduceAdd, kS142 H.1, c115z H hn hj, if_neg n10, c112, i32_0, i32_5, if_neg hx, if_true, mm_s_pi, th0, if_neg (show ¬ (2 : Int32) ≤ 0 by decide)]
theorem c140z (H : zMo h W n P mk sp bL bR na A) (hn : n ≤ 8) (hj : j < n) (hO : ∀ i, i < bL → zOk (bR i)) (hx : 0 ≤ x2.toInt ∧ x2.toInt ≤ 5) (v3 : Value) : mm_wp (d + 2) 140 0 [.ref 142, .int (nI j), .int x2, v3] [] h Q ↔ Q (.inl (some (.int (zI (zAt bL bR j x2.toInt))))) (mm_pi h 142 0 0) := by
  have H0 := H.th (v := 0)
  have hb := H.2.2.1.2.1
  have pf := zPlF_fd hO (show j < 8 by omega) bL 0 (by omega)
  have t0 := th0 (h := h) (v := 0)
  simp only [s140_0, s140_1, s140_2, s140_3, s140_6, s140_9, s140_10, s140_13, s140_14, s140_15, s140_16, s140_19, s140_22, s140_23, s140_26, s140_27, s140_30, s140_31, s140_34, s140_37, s140_38, or_true, true_or, true_and, and_true, mm_o_some, mm_o_none, mm_bk_v, mm_bk_n, Nat.reduceAdd, kS142 H.1, c115z H hn hj, if_neg n10, c112, i32_0, i32_5, if_pos hx, mm_s_pi, th0, if_pos (show (0 : Int32) ≤ 0 by decide)]
  generalize mm_pi h 142 0 0 = h0 at *
  simp only [s140_39, s140_40, s140_41, s140_44, s140_45, s140_46, s140_49, s140_50, or_true, true_or, true_and, and_true, mm_o_some, mm_o_none, mm_bk_v, mm_bk_n, Nat.reduceAdd, kS142 H0.1, c141z H0]
  rw [zAt, zFd]
  cases g : zFdF bR j 0 bL with
  | none =>
    rw [g] at pf
    simp only [pf, if_neg (show ¬ (0 : Int32) ≤ -1 by decide)]
    exact Iff.rfl
  | some k =>
    rw [g] at pf
    have kl := zFdF_lt bL 0 k g
    have kL : k < bL := by omega
    obtain ⟨b1, b2, b3, b4⟩ := H0.2.2.1.2.2.2.2 k kL
    have c0 : (0 : Int32) ≤ nI k := by rw [← nI_lit0]; exact nI_le (by omega) (by omega)
    have hin : mm_in (nI k) 8 = true := mm_inN (by omega) (by omega)
    have hcl : (nI k).toNatClampNeg = k := nI_clamp (by omega)
    simp only [pf, if_pos c0]
    have e : x2 = zI x2.toInt := (zI_x x2).symm
    have h6 : x2.toInt = 0 ∨ x2.toInt = 1 ∨ x2.toInt = 2 ∨ x2.toInt = 3 ∨ x2.toInt = 4 ∨ x2.toInt = 5 := by omega
    have low : ∀ a : Nat, a < 3 → x2.toInt = (a : Int) → zTell bR k x2.toInt = bR k (3 + a) → (mm_wp (d + 2) 140 51 [.ref 142, .int (nI j), .int x2, .int (nI k)] [] h0 Q ↔ Q (.inl (some (.int (zI (zTell bR k x2.toInt))))) h0) := by
      intro a ha ea et
      have ex : x2 = nI a := by rw [e, ea, zI_n]
      have c3 : ¬ (3 : Int32) ≤ nI a := nI_ge (b := 3) ha (by omega)
      have hin3 : mm_in (nI (3 * k + a)) 24 = true := mm_inN (by omega) (by omega)
      have hcl3 : (nI (3 * k + a)).toNatClampNeg = 3 * k + a := nI_clamp (by omega)
      rw [et, ex]
      simp only [s140_51, s140_52, s140_53, s140_56, s140_57, s140_60, s140_61, s140_62, s140_63, s140_64, s140_65, s140_66, s140_69, s140_70, s140_71, s140_74, s140_75, s140_78, s140_79, s140_80, s140_83, s140_84, s140_85, s140_88, s140_89, s140_92, s140_93, s140_96, s140_97, s140_98, or_true, true_or, true_and, and_true, mm_o_some, mm_o_none, mm_bk_v, mm_bk_n, Nat.reduceAdd, if_neg c3, kS142 H0.1, kR142_29 H0.1, kS163 H0.1, nI_3, nI_add, hin3, hcl3, (b3 a ha).2]
    rcases h6 with q | q | q | q | q | q
    · exact low 0 (by decide) (by rw [q]; rfl) (by rw [q]; rfl)
    · exact low 1 (by decide) (by rw [q]; rfl) (by rw [q]; rfl)
    · exact low 2 (by decide) (by rw [q]; rfl) (by rw [q]; rfl)
    · rw [q] at e ⊢
      rw [e, show zI 3 = (3 : Int32) from rfl]
      simp only [s140_51, s140_52, s140_53, s140_56, s140_57, s140_60, s140_61, s140_62, s140_63, s140_64, s140_65, s140_66, s140_69, s140_70, s140_71, s140_74, s140_75, s140_78, s140_79, s140_80, s140_83, s140_84, s140_85, s140_88, s140_89, s140_92, s140_93, s140_96, s140_97, s140_98, or_true, true_or, true_and, and_true, mm_o_some, mm_o_none, mm_bk_v, mm_bk_n, Nat.reduceAdd, if_pos (Int32.le_refl (3 : Int32)), if_true, kS142 H0.1, kR142_27 H0.1, kS161 H0.1, hin, hcl, b2]
      exact Iff.rfl
    · rw [q] at e ⊢
      rw [e, show zI 4 = (4 : Int32) from rfl]
      simp only [s140_51, s140_52, s140_53, s140_56, s140_57, s140_60, s140_61, s140_62, s140_63, s140_64, s140_65, s140_66, s140_69, s140_70, s140_71, s140_74, s140_75, s140_78, s140_79, s140_80, s140_83, s140_84, s140_85, s140_88, s140_89, s140_92, s140_93, s140_96, s140_97, s140_98, or_true, true_or, true_and, and_true, mm_o_some, mm_o_none, mm_bk_v, mm_bk_n, Nat.reduceAdd, if_pos (show (3 : Int32) ≤ 4 by decide), if_neg (show ¬ (4 : Int32) = 3 by decide), if_true, zI_n]
      exact Iff.rfl
    · rw [q] at e ⊢
      rw [e, show zI 5 = (5 : Int32) from rfl]
      simp only [s140_51, s140_52, s140_53, s140_56, s140_57, s140_60, s140_61, s140_62, s140_63, s140_64, s140_65, s140_66, s140_69, s140_70, s140_71, s140_74, s140_75, s140_78, s140_79, s140_80, s140_83, s140_84, s140_85, s140_88, s140_89, s140_92, s140_93, s140_96, s140_97, s140_98, or_true, true_or, true_and, and_true, mm_o_some, mm_o_none, mm_bk_v, mm_bk_n, Nat.reduceAdd, if_pos (show (3 : Int32) ≤ 5 by decide), if_neg (show ¬ (5 : Int32) = 3 by decide), if_neg (show ¬ (5 : Int32) = 4 by decide), kS142 H0.1, kR142_30 H0.1, kS164 H0.1, hin, hcl, b4]
      exact Iff.rfl
end
