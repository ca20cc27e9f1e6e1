/-! THE REFERENCE: MAY A PIECE COME -/
section
variable {d : Nat} {h h' : mm_H} {Q : mm_Q} {L n a b q t u i r e j k na bL told p : Nat} {W A : Nat → Int} {m mk : Int} {R bR : zR} {P : Nat → Nat → Int} {sp : Bool} {T : Nat → Prop} {x2 x3 x4 : Int32} {l : List Int} {x y z v w : Int} {C : Nat → Int}
theorem c134_0 (hK : zSK h) (hR : zMr h L R) (hk : k < L) (oR : zOk (R k)) (rx : 0 ≤ x ∧ x ≤ 200) (rw' : 1 ≤ w ∧ w ≤ 200) (v5 v6 v7 v8 : Value) : mm_wp d 134 0 [.ref 142, .int (nI k), .int 0, .int (zI x), .int (zI w), v5, v6, v7, v8] [] h Q ↔ Q (.inl (some (.int (zI (zCo x (x + w) (R k 3) (R k 6)))))) h := c134z (a := 0) hK hR hk (by omega) oR rx rw' v5 v6 v7 v8
theorem c134_1 (hK : zSK h) (hR : zMr h L R) (hk : k < L) (oR : zOk (R k)) (rx : 0 ≤ x ∧ x ≤ 200) (rw' : 1 ≤ w ∧ w ≤ 200) (v5 v6 v7 v8 : Value) : mm_wp d 134 0 [.ref 142, .int (nI k), .int 1, .int (zI x), .int (zI w), v5, v6, v7, v8] [] h Q ↔ Q (.inl (some (.int (zI (zCo x (x + w) (R k 4) (R k 7)))))) h := c134z (a := 1) hK hR hk (by omega) oR rx rw' v5 v6 v7 v8
theorem c134_2 (hK : zSK h) (hR : zMr h L R) (hk : k < L) (oR : zOk (R k)) (rx : 0 ≤ x ∧ x ≤ 200) (rw' : 1 ≤ w ∧ w ≤ 200) (v5 v6 v7 v8 : Value) : mm_wp d 134 0 [.ref 142, .int (nI k), .int 2, .int (zI x), .int (zI w), v5, v6, v7, v8] [] h Q ↔ Q (.inl (some (.int (zI (zCo x (x + w) (R k 5) (R k 8)))))) h := c134z (a := 2) hK hR hk (by omega) oR rx rw' v5 v6 v7 v8
theorem zCo_r {a b c e : Int} (ha : 0 ≤ a ∧ a ≤ 400) (hb : 0 ≤ b ∧ b ≤ 600) (hc : 0 ≤ c ∧ c ≤ 400) (he : 0 ≤ e ∧ e ≤ 600) : 0 ≤ zCo a b c e ∧ zCo a b c e ≤ 600 := by
  simp only [zCo, zLn]
  omega
theorem zCo_p {a b c e : Int} (h1 : a < b) (h2 : c < e) : zCo a b c e ≤ 0 ↔ ¬ (a < e ∧ c < b) := by
  simp only [zCo, zLn]
  omega
theorem in3_0 : mm_in 0 3 = true := rfl
theorem in3_1 : mm_in 1 3 = true := rfl
theorem in3_2 : mm_in 2 3 = true := rfl
theorem cl_0 : (0 : Int32).toNatClampNeg = 0 := rfl
theorem cl_1 : (1 : Int32).toNatClampNeg = 1 := rfl
theorem cl_2 : (2 : Int32).toNatClampNeg = 2 := rfl
theorem zTd_e (hT : zTd h (P p) t) : mm_i h 166 0 = zI (zW (P p) t) ∧ mm_i h 166 1 = zI (zH (P p) t) ∧ mm_i h 166 2 = zI (zD (P p) t) := ⟨hT 0 (by decide), hT 1 (by decide), hT 2 (by decide)⟩
theorem c132_a (hK : zSK h) (hG : zMg h W n P) (hR : zMr h L R) (hT : zTd h (P p) t) (hn : n ≤ 8) (hp : p < n) (t6 : t < 6) (hk : zPok (P p)) (wk : zWok W) (oR : ∀ i, i < L → zOk (R i)) (hRP : zRP P n L R) (rx : 0 ≤ x ∧ x ≤ 200) (ry : 0 ≤ y ∧ y ≤ 200) (rz : 0 ≤ z ∧ z ≤ 200) (hkL : k < L) (st v7 v8 v9 v10 v11 v12 v13 v14 : Value) : mm_wp (d + 1) 132 71 [.ref 142, .int (nI p), .int (zI x), .int (zI y), .int (zI z), st, .int (nI k), v7, v8, v9, v10, v11, v12, v13, v14] [] h Q ↔ if zSh (zC P p t x y z) (R k) = true then Q (.inl (some (.int 0))) h else mm_wp (d + 1) 132 155 [.ref 142, .int (nI p), .int (zI x), .int (zI y), .int (zI z), st, .int (nI k), .int (zI (R k 1)), .int (zI (zCo x (x + zW (P p) t) (R k 3) (R k 6))), .int (zI (zCo y (y + zH (P p) t) (R k 4) (R k 7))), .int (zI (zCo z (z + zD (P p) t) (R k 5) (R k 8))), v11, v12, v13, v14] [] h Q := by
  obtain ⟨q0, q1, q2⟩ := zTd_e hT
  have wr := zW_r (t := t) hk
  have o := oR k hkL
  have h1 := hR.1
  have h2 := hR.2.1
  obtain ⟨g1, g2, g3, g4⟩ := hR.2.2 k hkL
  have c : ¬ nI L ≤ nI k := nI_ge hkL (by omega)
  have hin : mm_in (nI k) 8 = true := mm_inN (by omega) (by omega)
  have hcl : (nI k).toNatClampNeg = k := nI_clamp (by omega)
  have o' := o
  simp only [zOk] at o'
  have b1 := zCo_r (a := x) (b := x + zW (P p) t) (c := R k 3) (e := R k 6) (by omega) (by omega) (by omega) (by omega)
  have b2 := zCo_r (a := y) (b := y + zH (P p) t) (c := R k 4) (e := R k 7) (by omega) (by omega) (by omega) (by omega)
  have b3 := zCo_r (a := z) (b := z + zD (P p) t) (c := R k 5) (e := R k 8) (by omega) (by omega) (by omega) (by omega)
  have p1 := zCo_p (a := x) (b := x + zW (P p) t) (c := R k 3) (e := R k 6) (by omega) (by omega)
  have p2 := zCo_p (a := y) (b := y + zH (P p) t) (c := R k 4) (e := R k 7) (by omega) (by omega)
  have p3 := zCo_p (a := z) (b := z + zD (P p) t) (c := R k 5) (e := R k 8) (by omega) (by omega)
  have r0 : zr 0 := by simp only [zr]; omega
  have r1 : zr (zCo x (x + zW (P p) t) (R k 3) (R k 6)) := by simp only [zr]; omega
  have r2 : zr (zCo y (y + zH (P p) t) (R k 4) (R k 7)) := by simp only [zr]; omega
  have r3 : zr (zCo z (z + zD (P p) t) (R k 5) (R k 8)) := by simp only [zr]; omega
  have i1 : (zI (zCo x (x + zW (P p) t) (R k 3) (R k 6))) ≤ (0 : Int32) ↔ zCo x (x + zW (P p) t) (R k 3) (R k 6) ≤ 0 := zI_le r1 r0
  have i2 : (zI (zCo y (y + zH (P p) t) (R k 4) (R k 7))) ≤ (0 : Int32) ↔ zCo y (y + zH (P p) t) (R k 4) (R k 7) ≤ 0 := zI_le r2 r0
  have i3 : (zI (zCo z (z + zD (P p) t) (R k 5) (R k 8))) ≤ (0 : Int32) ↔ zCo z (z + zD (P p) t) (R k 5) (R k 8) ≤ 0 := zI_le r3 r0
  have es : zSh (zC P p t x y z) (R k) = decide ((x < R k 6 ∧ R k 3 < x + zW (P p) t) ∧ (z < R k 8 ∧ R k 5 < z + zD (P p) t) ∧ y < R k 7 ∧ R k 4 < y + zH (P p) t) := rfl
  rw [es, s132_71]
  simp only [s132_73, s132_74, s132_77, s132_80, s132_81, s132_84, s132_86, s132_87, s132_89, s132_90, s132_92, s132_93, s132_94, s132_95, s132_98, s132_99, s132_100, s132_103, s132_105, s132_106, s132_108, s132_109, s132_110, s132_111, s132_114, s132_115, s132_116, s132_119, s132_121, s132_122, s132_124, s132_125, s132_127, s132_128, s132_131, s132_132, s132_133, s132_136, s132_138, s132_140, s132_143, s132_145, s132_148, s132_150, s132_153, s132_154, or_true, true_or, true_and, and_true, mm_o_some, mm_o_none, mm_bk_v, mm_bk_n, Nat.reduceAdd, kS142 hK, h1, if_neg c, kR142_9 hK, kS149 hK, hin, hcl, g1, kR142_33 hK, kS166 hK, in3_0, in3_1, in3_2, cl_0, cl_1, cl_2, q0, q1, q2, c134_0 hK hR hkL o rx wr.1, c134_1 hK hR hkL o ry wr.2.1, c134_2 hK hR hkL o rz wr.2.2, i1, i2, i3, p1, p2, p3, decide_eq_true_eq]
  by_cases a1 : x < R k 6 ∧ R k 3 < x + zW (P p) t
  · by_cases a2 : y < R k 7 ∧ R k 4 < y + zH (P p) t
    · by_cases a3 : z < R k 8 ∧ R k 5 < z + zD (P p) t
      · simp only [a1, a2, a3, and_self, not_true_eq_false, if_false, if_true]
      · simp only [a1, a2, a3, and_self, not_true_eq_false, not_false_eq_true, if_false, if_true, false_and, and_false]
    · simp only [a1, a2, and_self, not_true_eq_false, not_false_eq_true, if_false, if_true, false_and, and_false]
  · simp only [a1, not_false_eq_true, if_false, if_true, false_and]
theorem zRe_co {A B : Nat → Int} (hA : zOk A) (hB : zOk B) : zRe A B = if A 4 = B 7 then zCo (A 3) (A 6) (B 3) (B 6) * zCo (A 5) (A 8) (B 5) (B 8) else 0 := by
  simp only [zRe, zCo]
  by_cases h : A 4 = B 7
  · by_cases h1 : 0 < zLn (A 3) (A 6) (B 3) (B 6)
    · by_cases h2 : 0 < zLn (A 5) (A 8) (B 5) (B 8)
      · rw [if_pos ⟨h, h1, h2⟩, if_pos h, show max 0 (zLn (A 3) (A 6) (B 3) (B 6)) = zLn (A 3) (A 6) (B 3) (B 6) by omega, show max 0 (zLn (A 5) (A 8) (B 5) (B 8)) = zLn (A 5) (A 8) (B 5) (B 8) by omega]
      · rw [if_neg (fun q => h2 q.2.2), if_pos h, show max 0 (zLn (A 5) (A 8) (B 5) (B 8)) = 0 by omega, Int.mul_zero]
    · rw [if_neg (fun q => h1 q.2.1), if_pos h, show max 0 (zLn (A 3) (A 6) (B 3) (B 6)) = 0 by omega, Int.zero_mul]
  · rw [if_neg (fun q => h q.1), if_neg h]
theorem c132_b (hK : zSK h) (hG : zMg h W n P) (hR : zMr h L R) (hT : zTd h (P p) t) (hn : n ≤ 8) (hp : p < n) (t6 : t < 6) (hk : zPok (P p)) (wk : zWok W) (oR : ∀ i, i < L → zOk (R i)) (hRP : zRP P n L R) (rx : 0 ≤ x ∧ x ≤ 200) (ry : 0 ≤ y ∧ y ≤ 200) (rz : 0 ≤ z ∧ z ≤ 200) (hkL : k < L) (v7 v9 v11 v12 v13 v14 : Value) : mm_wp (d + 1) 132 155 [.ref 142, .int (nI p), .int (zI x), .int (zI y), .int (zI z), .int (zI m), .int (nI k), v7, .int (zI (zCo x (x + zW (P p) t) (R k 3) (R k 6))), v9, .int (zI (zCo z (z + zD (P p) t) (R k 5) (R k 8))), v11, v12, v13, v14] [] h Q ↔ mm_wp (d + 1) 132 200 [.ref 142, .int (nI p), .int (zI x), .int (zI y), .int (zI z), .int (zI (m + zRe (zC P p t x y z) (R k))), .int (nI k), v7, .int (zI (zCo x (x + zW (P p) t) (R k 3) (R k 6))), v9, .int (zI (zCo z (z + zD (P p) t) (R k 5) (R k 8))), .int (zI (R k 7)), v12, v13, v14] [] h Q := by
  have o := oR k hkL
  have h2 := hR.2.1
  obtain ⟨g1, g2, g3, g4⟩ := hR.2.2 k hkL
  have p1 := (g3 1 (by decide))
  have e1 : mm_i h 151 (3 * k + 1) = zI (R k 10) := p1.1
  have e2 : mm_i h 152 (3 * k + 1) = zI (R k 4) := p1.2
  have hin1 : mm_in (nI (3 * k + 1)) 24 = true := mm_inN (by omega) (by omega)
  have hcl1 : (nI (3 * k + 1)).toNatClampNeg = 3 * k + 1 := nI_clamp (by omega)
  have oC := zC_ok (P := P) hk (show p < 8 by omega) t6 rx ry rz
  have e7 : R k 4 + R k 10 = R k 7 := by simp only [zOk] at o; omega
  have rr := zRe_co oC o
  have rr' : zRe (zC P p t x y z) (R k) = if y = R k 7 then zCo x (x + zW (P p) t) (R k 3) (R k 6) * zCo z (z + zD (P p) t) (R k 5) (R k 8) else 0 := rr
  have z1 : zr (R k 7) := o.r 7 (by decide) (by decide)
  have z2 : zr y := by simp only [zr]; omega
  by_cases g : y = R k 7
  · have c : zI (R k 7) = zI y := by rw [g]
    rw [rr', if_pos g]
    simp only [s132_155, s132_156, s132_159, s132_160, s132_162, s132_163, s132_164, s132_165, s132_166, s132_167, s132_170, s132_171, s132_173, s132_174, s132_175, s132_176, s132_177, s132_178, s132_180, s132_182, s132_184, s132_185, s132_188, s132_190, s132_192, s132_193, s132_196, s132_197, s132_198, or_true, true_or, true_and, and_true, mm_o_some, mm_o_none, mm_bk_v, mm_bk_n, Nat.reduceAdd, kS142 hK, kR142_11 hK, kR142_12 hK, kS151 hK, kS152 hK, nI_3, nI_1, hin1, hcl1, e1, e2, zI_add, e7, if_pos c, zI_mul]
  · have c : ¬ zI (R k 7) = zI y := fun q => g ((zI_eq z1 z2).mp q).symm
    rw [rr', if_neg g]
    simp only [s132_155, s132_156, s132_159, s132_160, s132_162, s132_163, s132_164, s132_165, s132_166, s132_167, s132_170, s132_171, s132_173, s132_174, s132_175, s132_176, s132_177, s132_178, s132_180, s132_182, s132_184, s132_185, s132_188, s132_190, s132_192, s132_193, s132_196, s132_197, s132_198, or_true, true_or, true_and, and_true, mm_o_some, mm_o_none, mm_bk_v, mm_bk_n, Nat.reduceAdd, kS142 hK, kR142_11 hK, kR142_12 hK, kS151 hK, kS152 hK, nI_3, nI_1, hin1, hcl1, e1, e2, zI_add, e7, if_neg c, show (0 : Int32) = zI 0 from rfl]
theorem c132_c (hK : zSK h) (hG : zMg h W n P) (hR : zMr h L R) (hT : zTd h (P p) t) (hn : n ≤ 8) (hp : p < n) (t6 : t < 6) (hk : zPok (P p)) (wk : zWok W) (oR : ∀ i, i < L → zOk (R i)) (hRP : zRP P n L R) (rx : 0 ≤ x ∧ x ≤ 200) (ry : 0 ≤ y ∧ y ≤ 200) (rz : 0 ≤ z ∧ z ≤ 200) (hkL : k < L) (st v9 v12 v13 v14 : Value) : mm_wp (d + 1) 132 200 [.ref 142, .int (nI p), .int (zI x), .int (zI y), .int (zI z), st, .int (nI k), .int (zI (R k 1)), .int (zI (zCo x (x + zW (P p) t) (R k 3) (R k 6))), v9, .int (zI (zCo z (z + zD (P p) t) (R k 5) (R k 8))), .int (zI (R k 7)), v12, v13, v14] [] h Q ↔ if (decide (R k 14 < R k 15 + (zC P p t x y z) 12) && zOv (zC P p t x y z) (R k)) = true then Q (.inl (some (.int 0))) h else mm_wp (d + 1) 132 242 [.ref 142, .int (nI p), .int (zI x), .int (zI y), .int (zI z), st, .int (nI k), .int (zI (R k 1)), .int (zI (zCo x (x + zW (P p) t) (R k 3) (R k 6))), v9, .int (zI (zCo z (z + zD (P p) t) (R k 5) (R k 8))), .int (zI (R k 7)), v12, v13, v14] [] h Q := by
  have wr := zW_r (t := t) hk
  have o := oR k hkL
  have h2 := hR.2.1
  obtain ⟨g1, g2, g3, g4⟩ := hR.2.2 k hkL
  have hin : mm_in (nI k) 8 = true := mm_inN (by omega) (by omega)
  have hcl : (nI k).toNatClampNeg = k := nI_clamp (by omega)
  have hinp : mm_in (nI p) 8 = true := mm_inN (by omega) (by omega)
  have hclp : (nI p).toNatClampNeg = p := nI_clamp (by omega)
  obtain ⟨q, tq, qn, _, f1, _, _, _, _, _, f13, f14⟩ := hRP k hkL
  have hinq : mm_in (zI (R k 1)) 8 = true := by rw [f1, ← zI_n]; exact mm_inN (by omega) (by omega)
  have hclq : (zI (R k 1)).toNatClampNeg = q := by rw [f1, ← zI_n]; exact nI_clamp (by omega)
  have el : mm_i h 148 q = zI (R k 14) := by rw [f14]; exact (hG.2.2 q qn).2.2.2.2
  have ew : mm_i h 145 p = zI (P p 6) := (hG.2.2 p hp).2.1
  have o' := o
  simp only [zOk] at o'
  have kp := hk
  simp only [zPok] at kp
  have b1 := zCo_r (a := x) (b := x + zW (P p) t) (c := R k 3) (e := R k 6) (by omega) (by omega) (by omega) (by omega)
  have b3 := zCo_r (a := z) (b := z + zD (P p) t) (c := R k 5) (e := R k 8) (by omega) (by omega) (by omega) (by omega)
  have p1 := zCo_p (a := x) (b := x + zW (P p) t) (c := R k 3) (e := R k 6) (by omega) (by omega)
  have p3 := zCo_p (a := z) (b := z + zD (P p) t) (c := R k 5) (e := R k 8) (by omega) (by omega)
  have r0 : zr 0 := by simp only [zr]; omega
  have r1 : zr (zCo x (x + zW (P p) t) (R k 3) (R k 6)) := by simp only [zr]; omega
  have r3 : zr (zCo z (z + zD (P p) t) (R k 5) (R k 8)) := by simp only [zr]; omega
  have i1 : (zI (zCo x (x + zW (P p) t) (R k 3) (R k 6))) ≤ (0 : Int32) ↔ zCo x (x + zW (P p) t) (R k 3) (R k 6) ≤ 0 := zI_le r1 r0
  have i3 : (zI (zCo z (z + zD (P p) t) (R k 5) (R k 8))) ≤ (0 : Int32) ↔ zCo z (z + zD (P p) t) (R k 5) (R k 8) ≤ 0 := zI_le r3 r0
  have z1 : zr (R k 7) := o.r 7 (by decide) (by decide)
  have z2 : zr y := by simp only [zr]; omega
  have z3 : zr (R k 15 + P p 6) := by simp only [zr]; omega
  have z4 : zr (R k 14) := o.r 14 (by decide) (by decide)
  have ev : zOv (zC P p t x y z) (R k) = decide (R k 7 ≤ y ∧ (x < R k 6 ∧ R k 3 < x + zW (P p) t) ∧ z < R k 8 ∧ R k 5 < z + zD (P p) t) := rfl
  have e12 : (zC P p t x y z) 12 = P p 6 := rfl
  rw [ev, e12]
  simp only [s132_200, s132_201, s132_203, s132_206, s132_208, s132_211, s132_213, s132_216, s132_217, s132_220, s132_222, s132_223, s132_224, s132_227, s132_228, s132_229, s132_230, s132_231, s132_234, s132_236, s132_237, s132_240, s132_241, or_true, true_or, true_and, and_true, mm_o_some, mm_o_none, mm_bk_v, mm_bk_n, Nat.reduceAdd, zI_lt z2 z1, i1, i3, p1, p3, kS142 hK, kR142_13 hK, kR142_4 hK, kR142_7 hK, kS153 hK, kS145 hK, kS148 hK, hin, hcl, hinp, hclp, hinq, hclq, g4, ew, el, zI_add, zI_le z3 z4, Bool.and_eq_true, decide_eq_true_eq]
  by_cases a0 : y < R k 7
  · have : ¬ (R k 14 < R k 15 + P p 6 ∧ R k 7 ≤ y ∧ (x < R k 6 ∧ R k 3 < x + zW (P p) t) ∧ z < R k 8 ∧ R k 5 < z + zD (P p) t) := by omega
    simp only [if_pos a0, if_neg this]
  · by_cases a1 : x < R k 6 ∧ R k 3 < x + zW (P p) t
    · by_cases a3 : z < R k 8 ∧ R k 5 < z + zD (P p) t
      · by_cases a4 : R k 15 + P p 6 ≤ R k 14
        · have : ¬ (R k 14 < R k 15 + P p 6 ∧ R k 7 ≤ y ∧ (x < R k 6 ∧ R k 3 < x + zW (P p) t) ∧ z < R k 8 ∧ R k 5 < z + zD (P p) t) := by omega
          simp only [if_neg a0, a1, a3, and_self, not_true_eq_false, if_false, if_pos a4]
          rw [if_neg (fun q => by omega)]
        · have : (R k 14 < R k 15 + P p 6 ∧ R k 7 ≤ y ∧ (x < R k 6 ∧ R k 3 < x + zW (P p) t) ∧ z < R k 8 ∧ R k 5 < z + zD (P p) t) := by omega
          rw [if_pos this]
          simp only [if_neg a0, a1, a3, and_self, not_true_eq_false, if_false, if_neg a4]
      · simp only [if_neg a0, a1, a3, and_self, and_false, not_true_eq_false, not_false_eq_true, if_false, if_true]
    · simp only [if_neg a0, a1, false_and, and_false, not_false_eq_true, if_true, if_false]
theorem c132_d (hK : zSK h) (hG : zMg h W n P) (hR : zMr h L R) (hT : zTd h (P p) t) (hn : n ≤ 8) (hp : p < n) (t6 : t < 6) (hk : zPok (P p)) (wk : zWok W) (oR : ∀ i, i < L → zOk (R i)) (hRP : zRP P n L R) (rx : 0 ≤ x ∧ x ≤ 200) (ry : 0 ≤ y ∧ y ≤ 200) (rz : 0 ≤ z ∧ z ≤ 200) (hkL : k < L) (st v11 v12 v13 v14 : Value) (X : Prop) (HX : ∀ w12 w13 w14 : Value, mm_wp (d + 1) 132 71 [.ref 142, .int (nI p), .int (zI x), .int (zI y), .int (zI z), st, .int (nI (k + 1)), .int (zI (R k 1)), .int (zI (zCo x (x + zW (P p) t) (R k 3) (R k 6))), .int (zI (zCo y (y + zH (P p) t) (R k 4) (R k 7))), .int (zI (zCo z (z + zD (P p) t) (R k 5) (R k 8))), v11, w12, w13, w14] [] h Q ↔ X) : mm_wp (d + 1) 132 242 [.ref 142, .int (nI p), .int (zI x), .int (zI y), .int (zI z), st, .int (nI k), .int (zI (R k 1)), .int (zI (zCo x (x + zW (P p) t) (R k 3) (R k 6))), .int (zI (zCo y (y + zH (P p) t) (R k 4) (R k 7))), .int (zI (zCo z (z + zD (P p) t) (R k 5) (R k 8))), v11, v12, v13, v14] [] h Q ↔ if (zSt (zC P p t x y z) (R k) || zSt (R k) (zC P p t x y z)) = true then Q (.inl (some (.int 0))) h else X := by
  have wr := zW_r (t := t) hk
  have o := oR k hkL
  have h2 := hR.2.1
  obtain ⟨g1, g2, g3, g4⟩ := hR.2.2 k hkL
  have pp := (g3 2 (by decide))
  have e1 : mm_i h 151 (3 * k + 2) = zI (R k 11) := pp.1
  have e2 : mm_i h 152 (3 * k + 2) = zI (R k 5) := pp.2
  have hin2 : mm_in (nI (3 * k + 2)) 24 = true := mm_inN (by omega) (by omega)
  have hcl2 : (nI (3 * k + 2)).toNatClampNeg = 3 * k + 2 := nI_clamp (by omega)
  have hinp : mm_in (nI p) 8 = true := mm_inN (by omega) (by omega)
  have hclp : (nI p).toNatClampNeg = p := nI_clamp (by omega)
  obtain ⟨q, tq, qn, _, f1, _, _, _, _, _, f13, f14⟩ := hRP k hkL
  have hinq : mm_in (zI (R k 1)) 8 = true := by rw [f1, ← zI_n]; exact mm_inN (by omega) (by omega)
  have hclq : (zI (R k 1)).toNatClampNeg = q := by rw [f1, ← zI_n]; exact nI_clamp (by omega)
  have el : mm_i h 147 q = zI (R k 13) := by rw [f13]; exact (hG.2.2 q qn).2.2.2.1
  have ew : mm_i h 147 p = zI (P p 8) := (hG.2.2 p hp).2.2.2.1
  have q2 := (zTd_e hT).2.2
  have n2 : ∀ a : Nat, nI a + (2 : Int32) = nI (a + 2) := fun a => nI_add a 2
  have o' := o
  simp only [zOk] at o'
  have kp := hk
  simp only [zPok] at kp
  have b1 := zCo_r (a := x) (b := x + zW (P p) t) (c := R k 3) (e := R k 6) (by omega) (by omega) (by omega) (by omega)
  have b2 := zCo_r (a := y) (b := y + zH (P p) t) (c := R k 4) (e := R k 7) (by omega) (by omega) (by omega) (by omega)
  have p1 := zCo_p (a := x) (b := x + zW (P p) t) (c := R k 3) (e := R k 6) (by omega) (by omega)
  have p2 := zCo_p (a := y) (b := y + zH (P p) t) (c := R k 4) (e := R k 7) (by omega) (by omega)
  have r0 : zr 0 := by simp only [zr]; omega
  have r1 : zr (zCo x (x + zW (P p) t) (R k 3) (R k 6)) := by simp only [zr]; omega
  have r2 : zr (zCo y (y + zH (P p) t) (R k 4) (R k 7)) := by simp only [zr]; omega
  have i1 : (zI (zCo x (x + zW (P p) t) (R k 3) (R k 6))) ≤ (0 : Int32) ↔ zCo x (x + zW (P p) t) (R k 3) (R k 6) ≤ 0 := zI_le r1 r0
  have i2 : (zI (zCo y (y + zH (P p) t) (R k 4) (R k 7))) ≤ (0 : Int32) ↔ zCo y (y + zH (P p) t) (R k 4) (R k 7) ≤ 0 := zI_le r2 r0
  have z1 : zr z := by simp only [zr]; omega
  have z2 : zr (R k 5 + R k 11) := by simp only [zr]; omega
  have z3 : zr (R k 5) := o.r 5 (by decide) (by decide)
  have z4 : zr (z + zD (P p) t) := by simp only [zr]; omega
  have z5 : zr (R k 13) := o.r 13 (by decide) (by decide)
  have z6 : zr (P p 8) := by simp only [zr]; omega
  have ev : (zSt (zC P p t x y z) (R k) || zSt (R k) (zC P p t x y z)) = (decide (R k 13 < P p 8 ∧ R k 8 ≤ z ∧ (x < R k 6 ∧ R k 3 < x + zW (P p) t) ∧ y < R k 7 ∧ R k 4 < y + zH (P p) t) || decide (P p 8 < R k 13 ∧ z + zD (P p) t ≤ R k 5 ∧ (R k 3 < x + zW (P p) t ∧ x < R k 6) ∧ R k 4 < y + zH (P p) t ∧ y < R k 7)) := rfl
  rw [ev]
  simp only [Bool.or_eq_true, decide_eq_true_eq]
  have step : mm_wp (d + 1) 132 242 [.ref 142, .int (nI p), .int (zI x), .int (zI y), .int (zI z), st, .int (nI k), .int (zI (R k 1)), .int (zI (zCo x (x + zW (P p) t) (R k 3) (R k 6))), .int (zI (zCo y (y + zH (P p) t) (R k 4) (R k 7))), .int (zI (zCo z (z + zD (P p) t) (R k 5) (R k 8))), v11, v12, v13, v14] [] h Q ↔ (if x < R k 6 ∧ R k 3 < x + zW (P p) t then (if y < R k 7 ∧ R k 4 < y + zH (P p) t then mm_wp (d + 1) 132 257 [.ref 142, .int (nI p), .int (zI x), .int (zI y), .int (zI z), st, .int (nI k), .int (zI (R k 1)), .int (zI (zCo x (x + zW (P p) t) (R k 3) (R k 6))), .int (zI (zCo y (y + zH (P p) t) (R k 4) (R k 7))), .int (zI (zCo z (z + zD (P p) t) (R k 5) (R k 8))), v11, v12, v13, v14] [.int 1] h Q else mm_wp (d + 1) 132 257 [.ref 142, .int (nI p), .int (zI x), .int (zI y), .int (zI z), st, .int (nI k), .int (zI (R k 1)), .int (zI (zCo x (x + zW (P p) t) (R k 3) (R k 6))), .int (zI (zCo y (y + zH (P p) t) (R k 4) (R k 7))), .int (zI (zCo z (z + zD (P p) t) (R k 5) (R k 8))), v11, v12, v13, v14] [.int 0] h Q) else mm_wp (d + 1) 132 257 [.ref 142, .int (nI p), .int (zI x), .int (zI y), .int (zI z), st, .int (nI k), .int (zI (R k 1)), .int (zI (zCo x (x + zW (P p) t) (R k 3) (R k 6))), .int (zI (zCo y (y + zH (P p) t) (R k 4) (R k 7))), .int (zI (zCo z (z + zD (P p) t) (R k 5) (R k 8))), v11, v12, v13, v14] [.int 0] h Q) := by
    simp only [s132_242, s132_244, s132_247, s132_249, s132_252, s132_253, s132_256, i1, i2, p1, p2]
    by_cases a1 : x < R k 6 ∧ R k 3 < x + zW (P p) t
    · by_cases a2 : y < R k 7 ∧ R k 4 < y + zH (P p) t
      · simp only [a1, a2, and_self, not_true_eq_false, if_false, if_true]
      · simp only [a1, a2, and_self, not_true_eq_false, not_false_eq_true, if_false, if_true]
    · simp only [a1, not_false_eq_true, if_false, if_true]
  have B1 : ∀ v : Int32, mm_wp (d + 1) 132 257 [.ref 142, .int (nI p), .int (zI x), .int (zI y), .int (zI z), st, .int (nI k), .int (zI (R k 1)), .int (zI (zCo x (x + zW (P p) t) (R k 3) (R k 6))), .int (zI (zCo y (y + zH (P p) t) (R k 4) (R k 7))), .int (zI (zCo z (z + zD (P p) t) (R k 5) (R k 8))), v11, v12, v13, v14] [.int v] h Q ↔ mm_wp (d + 1) 132 324 [.ref 142, .int (nI p), .int (zI x), .int (zI y), .int (zI z), st, .int (nI k), .int (zI (R k 1)), .int (zI (zCo x (x + zW (P p) t) (R k 3) (R k 6))), .int (zI (zCo y (y + zH (P p) t) (R k 4) (R k 7))), .int (zI (zCo z (z + zD (P p) t) (R k 5) (R k 8))), v11, .int v, .int (if z < R k 5 + R k 11 then 0 else 1), .int (if R k 5 < z + zD (P p) t then 0 else 1)] [] h Q := by
    intro v
    by_cases a5 : z < R k 5 + R k 11
    · by_cases a6 : R k 5 < z + zD (P p) t
      · simp only [s132_257, s132_259, s132_261, s132_262, s132_265, s132_266, s132_268, s132_269, s132_270, s132_271, s132_272, s132_273, s132_276, s132_277, s132_279, s132_280, s132_281, s132_282, s132_283, s132_284, s132_287, s132_288, s132_291, s132_292, s132_294, s132_295, s132_298, s132_299, s132_301, s132_302, s132_303, s132_304, s132_305, s132_307, s132_308, s132_311, s132_312, s132_313, s132_314, s132_317, s132_318, s132_321, s132_322, or_true, true_or, true_and, and_true, mm_o_some, mm_o_none, mm_bk_v, mm_bk_n, Nat.reduceAdd, kS142 hK, kR142_11 hK, kR142_12 hK, kR142_33 hK, kS151 hK, kS152 hK, kS166 hK, in3_2, cl_2, q2, nI_3, n2, hin2, hcl2, e1, e2, zI_add, zI_lt z1 z2, zI_lt z3 z4, if_pos a5, if_pos a6]
      · simp only [s132_257, s132_259, s132_261, s132_262, s132_265, s132_266, s132_268, s132_269, s132_270, s132_271, s132_272, s132_273, s132_276, s132_277, s132_279, s132_280, s132_281, s132_282, s132_283, s132_284, s132_287, s132_288, s132_291, s132_292, s132_294, s132_295, s132_298, s132_299, s132_301, s132_302, s132_303, s132_304, s132_305, s132_307, s132_308, s132_311, s132_312, s132_313, s132_314, s132_317, s132_318, s132_321, s132_322, or_true, true_or, true_and, and_true, mm_o_some, mm_o_none, mm_bk_v, mm_bk_n, Nat.reduceAdd, kS142 hK, kR142_11 hK, kR142_12 hK, kR142_33 hK, kS151 hK, kS152 hK, kS166 hK, in3_2, cl_2, q2, nI_3, n2, hin2, hcl2, e1, e2, zI_add, zI_lt z1 z2, zI_lt z3 z4, if_pos a5, if_neg a6]
    · by_cases a6 : R k 5 < z + zD (P p) t
      · simp only [s132_257, s132_259, s132_261, s132_262, s132_265, s132_266, s132_268, s132_269, s132_270, s132_271, s132_272, s132_273, s132_276, s132_277, s132_279, s132_280, s132_281, s132_282, s132_283, s132_284, s132_287, s132_288, s132_291, s132_292, s132_294, s132_295, s132_298, s132_299, s132_301, s132_302, s132_303, s132_304, s132_305, s132_307, s132_308, s132_311, s132_312, s132_313, s132_314, s132_317, s132_318, s132_321, s132_322, or_true, true_or, true_and, and_true, mm_o_some, mm_o_none, mm_bk_v, mm_bk_n, Nat.reduceAdd, kS142 hK, kR142_11 hK, kR142_12 hK, kR142_33 hK, kS151 hK, kS152 hK, kS166 hK, in3_2, cl_2, q2, nI_3, n2, hin2, hcl2, e1, e2, zI_add, zI_lt z1 z2, zI_lt z3 z4, if_neg a5, if_pos a6]
      · simp only [s132_257, s132_259, s132_261, s132_262, s132_265, s132_266, s132_268, s132_269, s132_270, s132_271, s132_272, s132_273, s132_276, s132_277, s132_279, s132_280, s132_281, s132_282, s132_283, s132_284, s132_287, s132_288, s132_291, s132_292, s132_294, s132_295, s132_298, s132_299, s132_301, s132_302, s132_303, s132_304, s132_305, s132_307, s132_308, s132_311, s132_312, s132_313, s132_314, s132_317, s132_318, s132_321, s132_322, or_true, true_or, true_and, and_true, mm_o_some, mm_o_none, mm_bk_v, mm_bk_n, Nat.reduceAdd, kS142 hK, kR142_11 hK, kR142_12 hK, kR142_33 hK, kS151 hK, kS152 hK, kS166 hK, in3_2, cl_2, q2, nI_3, n2, hin2, hcl2, e1, e2, zI_add, zI_lt z1 z2, zI_lt z3 z4, if_neg a5, if_neg a6]
  have no : ∀ v : Int32, v = 0 → (mm_wp (d + 1) 132 257 [.ref 142, .int (nI p), .int (zI x), .int (zI y), .int (zI z), st, .int (nI k), .int (zI (R k 1)), .int (zI (zCo x (x + zW (P p) t) (R k 3) (R k 6))), .int (zI (zCo y (y + zH (P p) t) (R k 4) (R k 7))), .int (zI (zCo z (z + zD (P p) t) (R k 5) (R k 8))), v11, v12, v13, v14] [.int v] h Q ↔ X) := by
    intro v hv
    rw [B1 v]
    simp only [s132_324, s132_326, if_pos hv, s132_373, s132_376, nI_1]
    exact HX _ _ _
  rw [step]
  by_cases a1 : x < R k 6 ∧ R k 3 < x + zW (P p) t
  · by_cases a2 : y < R k 7 ∧ R k 4 < y + zH (P p) t
    · rw [if_pos a1, if_pos a2, B1 1]
      by_cases a5 : z < R k 5 + R k 11
      · by_cases a6 : R k 5 < z + zD (P p) t
        · rw [if_pos a5, if_pos a6, if_neg (by omega)]
          simp only [s132_324, s132_326, s132_329, s132_331, s132_334, s132_335, s132_338, s132_339, s132_340, s132_341, s132_344, s132_346, s132_347, s132_350, s132_352, s132_355, s132_356, s132_359, s132_361, s132_362, s132_363, s132_366, s132_367, s132_368, s132_371, s132_372, s132_373, s132_376, or_true, true_or, true_and, and_true, mm_o_some, mm_o_none, mm_bk_v, mm_bk_n, Nat.reduceAdd, if_neg n10, if_true, nI_1]
          exact HX _ _ _
        · rw [if_pos a5, if_neg a6]
          by_cases a7 : R k 13 ≤ P p 8
          · rw [if_neg (by omega)]
            simp only [s132_324, s132_326, s132_329, s132_331, s132_334, s132_335, s132_338, s132_339, s132_340, s132_341, s132_344, s132_346, s132_347, s132_350, s132_352, s132_355, s132_356, s132_359, s132_361, s132_362, s132_363, s132_366, s132_367, s132_368, s132_371, s132_372, s132_373, s132_376, or_true, true_or, true_and, and_true, mm_o_some, mm_o_none, mm_bk_v, mm_bk_n, Nat.reduceAdd, if_neg n10, if_true, kS142 hK, kR142_6 hK, kS147 hK, hinq, hclq, hinp, hclp, el, ew, zI_le z5 z6, if_pos a7, nI_1]
            exact HX _ _ _
          · rw [if_pos (by omega)]
            simp only [s132_324, s132_326, s132_329, s132_331, s132_334, s132_335, s132_338, s132_339, s132_340, s132_341, s132_344, s132_346, s132_347, s132_350, s132_352, s132_355, s132_356, s132_359, s132_361, s132_362, s132_363, s132_366, s132_367, s132_368, s132_371, s132_372, s132_373, s132_376, or_true, true_or, true_and, and_true, mm_o_some, mm_o_none, mm_bk_v, mm_bk_n, Nat.reduceAdd, if_neg n10, if_true, kS142 hK, kR142_6 hK, kS147 hK, hinq, hclq, hinp, hclp, el, ew, zI_le z5 z6, if_neg a7]
      · have a6 : R k 5 < z + zD (P p) t := by omega
        rw [if_neg a5, if_pos a6]
        by_cases a7 : R k 13 < P p 8
        · rw [if_pos (by omega)]
          simp only [s132_324, s132_326, s132_329, s132_331, s132_334, s132_335, s132_338, s132_339, s132_340, s132_341, s132_344, s132_346, s132_347, s132_350, s132_352, s132_355, s132_356, s132_359, s132_361, s132_362, s132_363, s132_366, s132_367, s132_368, s132_371, s132_372, s132_373, s132_376, or_true, true_or, true_and, and_true, mm_o_some, mm_o_none, mm_bk_v, mm_bk_n, Nat.reduceAdd, if_neg n10, kS142 hK, kR142_6 hK, kS147 hK, hinq, hclq, hinp, hclp, el, ew, zI_lt z5 z6, if_pos a7]
        · rw [if_neg (by omega)]
          simp only [s132_324, s132_326, s132_329, s132_331, s132_334, s132_335, s132_338, s132_339, s132_340, s132_341, s132_344, s132_346, s132_347, s132_350, s132_352, s132_355, s132_356, s132_359, s132_361, s132_362, s132_363, s132_366, s132_367, s132_368, s132_371, s132_372, s132_373, s132_376, or_true, true_or, true_and, and_true, mm_o_some, mm_o_none, mm_bk_v, mm_bk_n, Nat.reduceAdd, if_neg n10, if_true, kS142 hK, kR142_6 hK, kS147 hK, hinq, hclq, hinp, hclp, el, ew, zI_lt z5 z6, if_neg a7, nI_1]
          exact HX _ _ _
    · rw [if_pos a1, if_neg a2, no 0 rfl, if_neg (by omega)]
  · rw [if_neg a1, no 0 rfl, if_neg (by omega)]
/-- may a piece come: over the row -/
def zOkk (R : zR) (C : Nat → Int) (k : Nat) : Bool := !zSh C (R k) && (!(decide (R k 14 < R k 15 + C 12) && zOv C (R k)) && !(zSt C (R k) || zSt (R k) C))
theorem c132_loop (hK : zSK h) (hG : zMg h W n P) (hR : zMr h L R) (hT : zTd h (P p) t) (hn : n ≤ 8) (hp : p < n) (t6 : t < 6) (hk : zPok (P p)) (wk : zWok W) (oR : ∀ i, i < L → zOk (R i)) (hRP : zRP P n L R) (rx : 0 ≤ x ∧ x ≤ 200) (ry : 0 ≤ y ∧ y ≤ 200) (rz : 0 ≤ z ∧ z ≤ 200) : ∀ m k, k + m = L → ∀ v7 v8 v9 v10 v11 v12 v13 v14 : Value, (mm_wp (d + 1) 132 71 [.ref 142, .int (nI p), .int (zI x), .int (zI y), .int (zI z), .int (zI (zSum (fun i => zRe (zC P p t x y z) (R i)) k)), .int (nI k), v7, v8, v9, v10, v11, v12, v13, v14] [] h Q ↔ Q (.inl (some (.int (bI (zAllF (zOkk R (zC P p t x y z)) k m && decide (y = 0 ∨ zSum (fun i => zRe (zC P p t x y z) (R i)) L = zW (P p) t * zD (P p) t)))))) h) := by
  intro m
  induction m with
  | zero =>
    intro k hkL v7 v8 v9 v10 v11 v12 v13 v14
    obtain rfl : k = L := by omega
    obtain ⟨q0, q1, q2⟩ := zTd_e hT
    have wr := zW_r (t := t) hk
    have c : nI k ≤ nI k := Int32.le_refl _
    have z1 : zr y := by simp only [zr]; omega
    have z0 : zr 0 := by simp only [zr]; omega
    have i0 : zI y = (0 : Int32) ↔ y = 0 := zI_eq z1 z0
    have m1 := Int.mul_le_mul (a := zW (P p) t) (b := zD (P p) t) (c := 200) (d := 200) (by omega) (by omega) (by omega) (by omega)
    have m2 := Int.mul_nonneg (a := zW (P p) t) (b := zD (P p) t) (by omega) (by omega)
    have z3 : zr (zW (P p) t * zD (P p) t) := by simp only [zr]; omega
    have oC := zC_ok (P := P) hk (show p < 8 by omega) t6 rx ry rz
    have hs : 0 ≤ zSum (fun i => zRe (zC P p t x y z) (R i)) k ∧ zSum (fun i => zRe (zC P p t x y z) (R i)) k ≤ (k : Int) * 40000 := by
      have := zSum_a (f := fun i => zRe (zC P p t x y z) (R i)) (c := 40000) k (fun i hi => by
        have l1 := zRe_b (C := R i) oC
        omega)
      have h0 : ∀ n, n ≤ k → 0 ≤ zSum (fun i => zRe (zC P p t x y z) (R i)) n := by
        intro n
        induction n with
        | zero => intro _; exact Int.le_refl _
        | succ n ih =>
          intro hn
          have l1 := zRe_b (C := R n) oC
          have := ih (by omega)
          simp only [zSum]
          omega
      exact ⟨h0 k (Nat.le_refl k), this.2⟩
    have h2 := hR.2.1
    have z2 : zr (zSum (fun i => zRe (zC P p t x y z) (R i)) k) := by simp only [zr]; omega
    rw [s132_71]
    simp only [s132_73, s132_74, s132_77, s132_379, s132_380, s132_383, s132_385, s132_386, s132_389, s132_390, s132_391, s132_392, s132_395, s132_396, s132_397, s132_398, s132_401, s132_402, s132_405, s132_406, or_true, true_or, true_and, and_true, mm_o_some, mm_o_none, mm_bk_v, mm_bk_n, Nat.reduceAdd, kS142 hK, hR.1, if_pos c, i0, kR142_33 hK, kS166 hK, in3_0, in3_2, cl_0, cl_2, q0, q2, zI_mul, zI_eq z2 z3, zAllF, Bool.true_and]
    by_cases a1 : y = 0
    · rw [if_pos a1]
      simp only [a1, true_or, decide_true, bI_t]
    · by_cases a2 : zSum (fun i => zRe (zC P p t x y z) (R i)) k = zW (P p) t * zD (P p) t
      · rw [if_neg a1, if_pos a2]
        simp only [a2, or_true, decide_true, bI_t]
      · rw [if_neg a1, if_neg a2]
        simp only [a1, a2, or_self, decide_false, bI_f]
  | succ m ih =>
    intro k hkL v7 v8 v9 v10 v11 v12 v13 v14
    have hk' : k < L := by omega
    rw [c132_a hK hG hR hT hn hp t6 hk wk oR hRP rx ry rz hk', zAllF, zOkk]
    cases g1 : zSh (zC P p t x y z) (R k)
    · rw [if_neg (by decide), c132_b hK hG hR hT hn hp t6 hk wk oR hRP rx ry rz hk', c132_c hK hG hR hT hn hp t6 hk wk oR hRP rx ry rz hk']
      cases g2 : (decide (R k 14 < R k 15 + (zC P p t x y z) 12) && zOv (zC P p t x y z) (R k))
      · rw [if_neg (by decide), c132_d hK hG hR hT hn hp t6 hk wk oR hRP rx ry rz hk' (.int (zI (zSum (fun i => zRe (zC P p t x y z) (R i)) k + zRe (zC P p t x y z) (R k)))) (.int (zI (R k 7))) v12 v13 v14 _ (fun w12 w13 w14 => ih (k + 1) (by omega) _ _ _ _ _ w12 w13 w14)]
        cases g3 : (zSt (zC P p t x y z) (R k) || zSt (R k) (zC P p t x y z))
        · rw [if_neg (by decide)]
          simp only [Bool.not_false, Bool.and_self, Bool.true_and]
        · rw [if_pos rfl]
          simp only [Bool.not_true, Bool.and_false, Bool.false_and, bI_f]
      · rw [if_pos rfl]
        simp only [Bool.not_true, Bool.and_false, Bool.false_and, bI_f]
    · rw [if_pos rfl]
      simp only [Bool.not_true, Bool.false_and, bI_f]
end
