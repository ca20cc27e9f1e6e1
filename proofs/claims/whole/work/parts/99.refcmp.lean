/-! THE REFERENCE: COMPARING -/
section
variable {d : Nat} {h h' : mm_H} {Q : mm_Q} {L n a b q t u i r e j k na bL told p : Nat} {W A : Nat → Int} {m mk : Int} {R bR : zR} {P : Nat → Nat → Int} {sp : Bool} {s : zS} {S : Nat → Prop} {T : Nat → Prop} {x2 x3 x4 : Int32} {l : List Int} {x y z v w : Int} {C : Nat → Int}
/-- the best row as the reference keeps it -/
def zMb (h : mm_H) (bL : Nat) (bR : zR) : Prop := mm_i h 142 23 = nI bL ∧ bL ≤ 8 ∧ mm_l h 142 24 = zL (zVol bL bR) ∧ mm_l h 142 25 = zL (zMom bL bR) ∧ ∀ k, k < bL → mm_i h 160 k = zI (bR k 1) ∧ mm_i h 161 k = zI (bR k 2) ∧ (∀ a, a < 3 → mm_i h 162 (3 * k + a) = zI (bR k (9 + a)) ∧ mm_i h 163 (3 * k + a) = zI (bR k (3 + a))) ∧ mm_i h 164 k = zI (bR k 15)
theorem zMb.fm {K : Nat → Prop} (H : zMb h bL bR) (F : zFm K T h h') (hK : ¬ K 23 ∧ ¬ K 24 ∧ ¬ K 25) (hT : ∀ x, 160 ≤ x → x < 165 → ¬ T x) : zMb h' bL bR := by
  obtain ⟨h1, h2, h3, h4, h5⟩ := H
  have fi : ∀ x, 160 ≤ x → x < 165 → ∀ k, mm_i h' x k = mm_i h x k := fun x x1 x2 k => F.1.i (fun q => by rcases q with q | q; omega; exact hT x x1 x2 q) k
  refine ⟨by rw [(F.2 23 hK.1).1]; exact h1, h2, by rw [(F.2 24 hK.2.1).2]; exact h3, by rw [(F.2 25 hK.2.2).2]; exact h4, fun k hk => ?_⟩
  obtain ⟨g1, g2, g3, g4⟩ := h5 k hk
  exact ⟨by rw [fi _ (by omega) (by omega)]; exact g1, by rw [fi _ (by omega) (by omega)]; exact g2, fun a ha => ⟨by rw [fi _ (by omega) (by omega)]; exact (g3 a ha).1, by rw [fi _ (by omega) (by omega)]; exact (g3 a ha).2⟩, by rw [fi _ (by omega) (by omega)]; exact g4⟩
theorem lcmp_lt {w w2 : Int64} : ((if w2 < w then (1 : Int32) else if w = w2 then 0 else -1) < 0) ↔ w < w2 := by
  by_cases h1 : w2 < w
  · rw [if_pos h1]
    refine ⟨fun q => absurd q (by decide), fun q => ?_⟩
    rw [Int64.lt_iff_toInt_lt] at h1 q
    omega
  · rw [if_neg h1]
    by_cases h2 : w = w2
    · rw [if_pos h2]
      refine ⟨fun q => absurd q (by decide), fun q => ?_⟩
      rw [h2, Int64.lt_iff_toInt_lt] at q
      omega
    · rw [if_neg h2]
      refine ⟨fun _ => ?_, fun _ => by decide⟩
      rw [Int64.lt_iff_toInt_lt] at h1 ⊢
      have : ¬ w.toInt = w2.toInt := fun q => h2 (Int64.toInt_inj.mp q)
      omega
theorem lcmp_eq {w w2 : Int64} : ((if w2 < w then (1 : Int32) else if w = w2 then 0 else -1) = 0) ↔ w = w2 := by
  by_cases h1 : w2 < w
  · rw [if_pos h1]
    refine ⟨fun q => absurd q (by decide), fun q => ?_⟩
    rw [q, Int64.lt_iff_toInt_lt] at h1
    omega
  · rw [if_neg h1]
    by_cases h2 : w = w2
    · rw [if_pos h2]; exact ⟨fun _ => h2, fun _ => rfl⟩
    · rw [if_neg h2]; exact ⟨fun q => absurd q (by decide), fun q => absurd q h2⟩
theorem zWHD {p : Nat → Int} (t6 : t < 6) : zW p t * zH p t * zD p t = p 3 * p 4 * p 5 := by
  have h1 : t = 0 ∨ t = 1 ∨ t = 2 ∨ t = 3 ∨ t = 4 ∨ t = 5 := by omega
  rcases h1 with rfl | rfl | rfl | rfl | rfl | rfl
  · rfl
  · show p 5 * p 4 * p 3 = _
    rw [Int.mul_comm (p 5 * p 4), Int.mul_comm (p 5) (p 4), Int.mul_assoc]
  · show p 4 * p 3 * p 5 = _
    rw [Int.mul_comm (p 4)]
  · show p 5 * p 3 * p 4 = _
    rw [Int.mul_assoc, Int.mul_comm]
  · show p 3 * p 5 * p 4 = _
    rw [Int.mul_assoc, Int.mul_comm (p 5), Int.mul_assoc]
  · show p 4 * p 5 * p 3 = _
    rw [Int.mul_comm, Int.mul_assoc]
theorem c136_s (hK : zSK h) (hG : zMg h W n P) (hR : zMr h L R) (hn : n ≤ 8) (oR : ∀ i, i < L → zOk (R i)) (hRP : zRP P n L R) : ∀ m k, k + m = L → (mm_wp (d + 1) 136 7 [.ref 142, .long (zL (zVol k R)), mm_j, .long (zL (zMom k R)), mm_j, .int (nI k)] [] h Q ↔ mm_wp (d + 1) 136 80 [.ref 142, .long (zL (zVol L R)), mm_j, .long (zL (zMom L R)), mm_j, .int (nI L)] [] h Q) := by
  have h8 := hR.2.1
  intro m
  induction m with
  | zero =>
    intro k hk
    obtain rfl : k = L := by omega
    rw [s136_7]
    simp only [s136_9, s136_10, s136_13, s136_16, s136_17, s136_18, s136_19, s136_22, s136_24, s136_25, s136_28, s136_29, s136_30, s136_31, s136_32, s136_33, s136_36, s136_37, s136_40, s136_42, s136_43, s136_44, s136_45, s136_46, s136_47, s136_50, s136_51, s136_53, s136_54, s136_55, s136_56, s136_57, s136_58, s136_59, s136_62, s136_63, s136_65, s136_66, s136_67, s136_68, s136_69, s136_70, s136_71, s136_72, s136_73, s136_74, s136_77, or_true, true_or, true_and, and_true, mm_o_some, mm_o_none, mm_bk_v, mm_bk_n, Nat.reduceAdd, kS142 hK, hR.1, if_pos (Int32.le_refl (nI k))]
  | succ m ih =>
    intro k hk
    have hkL : k < L := by omega
    have c : ¬ nI L ≤ nI k := nI_ge hkL (by omega)
    obtain ⟨g1, g2, g3, g4⟩ := hR.2.2 k hkL
    have pp := g3 1 (by decide)
    have e1 : mm_i h 151 (3 * k + 1) = zI (R k 10) := pp.1
    have e2 : mm_i h 152 (3 * k + 1) = zI (R k 4) := pp.2
    have hin : mm_in (nI k) 8 = true := mm_inN (by omega) (by omega)
    have hcl : (nI k).toNatClampNeg = k := nI_clamp (by omega)
    have hin1 : mm_in (nI (3 * k + 1)) 24 = true := mm_inN (by omega) (by omega)
    have hcl1 : (nI (3 * k + 1)).toNatClampNeg = 3 * k + 1 := nI_clamp (by omega)
    obtain ⟨q, tq, qn, tq6, f1, f2, f9, f10, f11, f12, f13, f14⟩ := hRP k hkL
    have eq1 : zI (R k 1) = nI q := by rw [f1, zI_n]
    have hinq : mm_in (nI q) 8 = true := mm_inN (by omega) (by omega)
    have hclq : (nI q).toNatClampNeg = q := nI_clamp (by omega)
    have ew : mm_i h 145 q = zI (R k 12) := by rw [f12]; exact (hG.2.2 q qn).2.1
    have o := oR k hkL
    have ev : P q 3 * P q 4 * P q 5 = R k 9 * R k 10 * R k 11 := by rw [f9, f10, f11, zWHD tq6]
    have sm := zSmall o
    have r1 : zr (R k 9 * R k 10 * R k 11) := by simp only [zr]; omega
    have r2 : zr (R k 12) := o.r 12 (by decide) (by decide)
    have r3 : zr (2 * R k 4 + R k 10) := by simp only [zOk] at o; simp only [zr]; omega
    have ih' := ih (k + 1) (by omega)
    have es1 : zVol (k + 1) R = zVol k R + R k 9 * R k 10 * R k 11 := rfl
    have es2 : zMom (k + 1) R = zMom k R + R k 12 * (2 * R k 4 + R k 10) := rfl
    rw [es1, es2] at ih'
    rw [s136_7]
    simp only [s136_9, s136_10, s136_13, s136_16, s136_17, s136_18, s136_19, s136_22, s136_24, s136_25, s136_28, s136_29, s136_30, s136_31, s136_32, s136_33, s136_36, s136_37, s136_40, s136_42, s136_43, s136_44, s136_45, s136_46, s136_47, s136_50, s136_51, s136_53, s136_54, s136_55, s136_56, s136_57, s136_58, s136_59, s136_62, s136_63, s136_65, s136_66, s136_67, s136_68, s136_69, s136_70, s136_71, s136_72, s136_73, s136_74, s136_77, or_true, true_or, true_and, and_true, mm_o_some, mm_o_none, mm_bk_v, mm_bk_n, Nat.reduceAdd, kS142 hK, hR.1, if_neg c, kR142_9 hK, kS149 hK, hin, hcl, g1, eq1, c125z hK hG qn hn, ev, zI_l r1, zL_add, kR142_4 hK, kS145 hK, hinq, hclq, ew, zI_l r2, zI_2]
    simp only [s136_9, s136_10, s136_13, s136_16, s136_17, s136_18, s136_19, s136_22, s136_24, s136_25, s136_28, s136_29, s136_30, s136_31, s136_32, s136_33, s136_36, s136_37, s136_40, s136_42, s136_43, s136_44, s136_45, s136_46, s136_47, s136_50, s136_51, s136_53, s136_54, s136_55, s136_56, s136_57, s136_58, s136_59, s136_62, s136_63, s136_65, s136_66, s136_67, s136_68, s136_69, s136_70, s136_71, s136_72, s136_73, s136_74, s136_77, or_true, true_or, true_and, and_true, mm_o_some, mm_o_none, mm_bk_v, mm_bk_n, Nat.reduceAdd, kS142 hK, kR142_12 hK, kR142_11 hK, kS152 hK, kS151 hK, nI_3, nI_1, hin1, hcl1, e1, e2, zI_mul, zI_add, zI_l r3, zL_mul, zL_add]
    exact ih'
theorem c136_c1 (hL8 : L ≤ 8) (v1 v2 v3 v4 : Value) : ∀ m k h, k + m = L → zSK h → zMr h L R → (∀ i, i < k → mm_i h 160 i = zI (R i 1) ∧ mm_i h 161 i = zI (R i 2) ∧ mm_i h 164 i = zI (R i 15)) →
    (∀ h', zFr (fun x => x = 160 ∨ x = 161 ∨ x = 164) h h' → (∀ i, i < L → mm_i h' 160 i = zI (R i 1) ∧ mm_i h' 161 i = zI (R i 2) ∧ mm_i h' 164 i = zI (R i 15)) → ∀ v5 : Value, mm_wp d 136 186 [.ref 142, v1, v2, v3, v4, v5] [] h' Q) →
    mm_wp d 136 129 [.ref 142, v1, v2, v3, v4, .int (nI k)] [] h Q := by
  intro m
  induction m with
  | zero =>
    intro k h hk hK hR hi H
    obtain rfl : k = L := by omega
    rw [s136_129]
    simp only [s136_131, s136_132, s136_135, s136_138, s136_139, s136_142, s136_144, s136_145, s136_148, s136_150, s136_151, s136_152, s136_153, s136_156, s136_158, s136_159, s136_162, s136_164, s136_165, s136_166, s136_167, s136_170, s136_172, s136_173, s136_176, s136_178, s136_179, s136_180, s136_183, or_true, true_or, true_and, and_true, mm_o_some, mm_o_none, mm_bk_v, mm_bk_n, Nat.reduceAdd, kS142 hK, hR.1, if_pos (Int32.le_refl (nI k))]
    exact H h zFr.refl hi _
  | succ m ih =>
    intro k h hk hK hR hi H
    have hkL : k < L := by omega
    have c : ¬ nI L ≤ nI k := nI_ge hkL (by omega)
    obtain ⟨g1, g2, g3, g4⟩ := hR.2.2 k hkL
    have hin : mm_in (nI k) 8 = true := mm_inN (by omega) (by omega)
    have hcl : (nI k).toNatClampNeg = k := nI_clamp (by omega)
    have F1 : zFr (fun x => x = 160 ∨ x = 161 ∨ x = 164) h (mm_pi (mm_pi (mm_pi h 160 k (zI (R k 1))) 161 k (zI (R k 2))) 164 k (zI (R k 15))) := ((zFr.pi (by omega)).trans (zFr.pi (by omega))).trans (zFr.pi (by omega))
    rw [s136_129]
    simp only [s136_131, s136_132, s136_135, s136_138, s136_139, s136_142, s136_144, s136_145, s136_148, s136_150, s136_151, s136_152, s136_153, s136_156, s136_158, s136_159, s136_162, s136_164, s136_165, s136_166, s136_167, s136_170, s136_172, s136_173, s136_176, s136_178, s136_179, s136_180, s136_183, or_true, true_or, true_and, and_true, mm_o_some, mm_o_none, mm_bk_v, mm_bk_n, Nat.reduceAdd, kS142 hK, hR.1, if_neg c, kR142_26 hK, kR142_27 hK, kR142_30 hK, kR142_9 hK, kR142_10 hK, kR142_13 hK, kS149 hK, kS150 hK, kS153 hK, kS160 hK, kS161 hK, kS164 hK, mm_s_pi, mm_r_pi, mm_i_pi, hin, hcl, g1, g2, g4, Nat.reduceEqDiff, not_false_eq_true, false_and, if_false, nI_1]
    refine ih (k + 1) _ (by omega) (zFr.sk hK F1) (hR.fr F1 (fun x x1 x2 => by omega) (by rw [F1.i (by omega)])) (fun i hi' => ?_) (fun h' F' a1 => H h' (F1.trans F') a1)
    simp only [mm_i_pi, Nat.reduceEqDiff, false_and, if_false, true_and]
    by_cases e : i = k
    · rw [if_pos e, if_pos e, if_pos e, e]; exact ⟨rfl, rfl, rfl⟩
    · rw [if_neg e, if_neg e, if_neg e]; exact hi i (by omega)
theorem c136_c2 (hL8 : L ≤ 8) (v1 v2 v3 v4 : Value) : ∀ m k h, k + m = 3 * L → zSK h → zMr h L R → (∀ i, i < k → mm_i h 162 i = mm_i h 151 i ∧ mm_i h 163 i = mm_i h 152 i) →
    (∀ h', zFr (fun x => x = 162 ∨ x = 163) h h' → (∀ i, i < 3 * L → mm_i h' 162 i = mm_i h 151 i ∧ mm_i h' 163 i = mm_i h 152 i) → Q (.inl none) h') →
    mm_wp d 136 189 [.ref 142, v1, v2, v3, v4, .int (nI k)] [] h Q := by
  intro m
  induction m with
  | zero =>
    intro k h hk hK hR hi H
    have e : k = 3 * L := by omega
    subst e
    rw [s136_189]
    simp only [s136_191, s136_192, s136_193, s136_196, s136_197, s136_200, s136_201, s136_204, s136_206, s136_207, s136_210, s136_212, s136_213, s136_214, s136_215, s136_218, s136_220, s136_221, s136_224, s136_226, s136_227, s136_228, s136_231, s136_234, or_true, true_or, true_and, and_true, mm_o_some, mm_o_none, mm_bk_v, mm_bk_n, Nat.reduceAdd, kS142 hK, hR.1, nI_3, if_pos (Int32.le_refl (nI (3 * L)))]
    exact H h zFr.refl hi
  | succ m ih =>
    intro k h hk hK hR hi H
    have c : ¬ nI (3 * L) ≤ nI k := nI_ge (by omega) (by omega)
    have hin : mm_in (nI k) 24 = true := mm_inN (by omega) (by omega)
    have hcl : (nI k).toNatClampNeg = k := nI_clamp (by omega)
    have F1 : zFr (fun x => x = 162 ∨ x = 163) h (mm_pi (mm_pi h 162 k (mm_i h 151 k)) 163 k (mm_i h 152 k)) := (zFr.pi (by omega)).trans (zFr.pi (by omega))
    rw [s136_189]
    simp only [s136_191, s136_192, s136_193, s136_196, s136_197, s136_200, s136_201, s136_204, s136_206, s136_207, s136_210, s136_212, s136_213, s136_214, s136_215, s136_218, s136_220, s136_221, s136_224, s136_226, s136_227, s136_228, s136_231, s136_234, or_true, true_or, true_and, and_true, mm_o_some, mm_o_none, mm_bk_v, mm_bk_n, Nat.reduceAdd, kS142 hK, hR.1, nI_3, if_neg c, kR142_28 hK, kR142_29 hK, kR142_11 hK, kR142_12 hK, kS151 hK, kS152 hK, kS162 hK, kS163 hK, mm_s_pi, mm_r_pi, mm_i_pi, hin, hcl, Nat.reduceEqDiff, not_false_eq_true, false_and, if_false, nI_1]
    refine ih (k + 1) _ (by omega) (zFr.sk hK F1) (hR.fr F1 (fun x x1 x2 => by omega) (by rw [F1.i (by omega)])) (fun i hi' => ?_) (fun h' F' a1 => H h' (F1.trans F') (fun i hi' => ?_))
    · simp only [mm_i_pi, Nat.reduceEqDiff, false_and, if_false, true_and]
      by_cases e : i = k
      · rw [if_pos e, if_pos e, e]; exact ⟨rfl, rfl⟩
      · rw [if_neg e, if_neg e]; exact hi i (by omega)
    · have := a1 i hi'
      rw [F1.i (by omega), F1.i (by omega)] at this
      exact this
theorem c136z (hK : zSK h) (hG : zMg h W n P) (hR : zMr h L R) (hn : n ≤ 8) (oR : ∀ i, i < L → zOk (R i)) (hRP : zRP P n L R) (hB : zMb h s.2.2.1 s.2.2.2.1) (hw : zSw s) (v1 v2 v3 v4 v5 : Value)
    (H : ∀ h', zFm (fun k => 23 ≤ k ∧ k < 26) (fun x => 160 ≤ x ∧ x < 165) h h' → zMb h' (zCmp L R s).2.2.1 (zCmp L R s).2.2.2.1 → Q (.inl none) h') :
    mm_wp (d + 1) 136 0 [.ref 142, v1, v2, v3, v4, v5] [] h Q := by
  have h8 := hR.2.1
  have s0 := c136_s (d := d) (Q := Q) hK hG hR hn oR hRP L 0 (by omega)
  rw [nI_lit0, show zL (zVol 0 R) = 0 from rfl, show zL (zMom 0 R) = 0 from rfl] at s0
  simp only [s136_0, s136_1, s136_2, s136_3, s136_4, s136_5, or_true, true_or, true_and, and_true, mm_o_some, mm_o_none, mm_bk_v, mm_bk_n, Nat.reduceAdd]
  refine s0.mpr ?_
  have vb := zVol_b oR h8
  have vb2 := zVol_b hw.2.1 hw.1
  have b1 : -9223372036854775808 ≤ zVol L R ∧ zVol L R < 9223372036854775808 := by have := vb.1; simp only [zr] at this; omega
  have b2 : -9223372036854775808 ≤ zMom L R ∧ zMom L R < 9223372036854775808 := by have := vb.2; simp only [zr] at this; omega
  have b3 : -9223372036854775808 ≤ zVol s.2.2.1 s.2.2.2.1 ∧ zVol s.2.2.1 s.2.2.2.1 < 9223372036854775808 := by have := vb2.1; simp only [zr] at this; omega
  have b4 : -9223372036854775808 ≤ zMom s.2.2.1 s.2.2.2.1 ∧ zMom s.2.2.1 s.2.2.2.1 < 9223372036854775808 := by have := vb2.2; simp only [zr] at this; omega
  have l1 := lcmp_lt.trans (zL_lt b1 b3)
  have l2 := lcmp_eq.trans (zL_eq b1 b3)
  have l3 := lcmp_lt.trans (zL_lt b2 b4)
  have copy : zBt (zVol L R) (zMom L R) s.2.2.2.2.1 s.2.2.2.2.2 = true → mm_wp (d + 1) 136 108 [.ref 142, .long (zL (zVol L R)), mm_j, .long (zL (zMom L R)), mm_j, .int (nI L)] [] h Q := by
    intro hb
    have ec : zCmp L R s = (s.1, s.2.1, L, R, zVol L R, zMom L R) := by rw [zCmp, if_pos hb]
    rw [ec] at H
    simp only [s136_108, s136_109, s136_110, s136_113, s136_114, s136_115, s136_118, s136_119, s136_120, s136_123, s136_126, s136_127, or_true, true_or, true_and, and_true, mm_o_some, mm_o_none, mm_bk_v, mm_bk_n, Nat.reduceAdd, kS142 hK, mm_s_pl, mm_s_pi, mm_i_pl, hR.1]
    have F1 : zFm (fun k => 23 ≤ k ∧ k < 26) (fun x => 160 ≤ x ∧ x < 165) h (mm_pi (mm_pl (mm_pl h 142 24 (zL (zVol L R))) 142 25 (zL (zMom L R))) 142 23 (nI L)) := by
      refine ⟨zFr.trans (T := fun x => x = 142 ∨ 160 ≤ x ∧ x < 165) (zFr.trans (zFr.pl (Or.inl rfl)) (zFr.pl (Or.inl rfl))) (zFr.pi (Or.inl rfl)), fun k hk => ⟨?_, ?_⟩⟩
      · rw [mm_i_pi, if_neg (by omega), mm_i_pl, mm_i_pl]
      · rw [mm_l_pi, mm_l_pl, if_neg (by omega), mm_l_pl, if_neg (by omega)]
    have i23 : mm_i (mm_pi (mm_pl (mm_pl h 142 24 (zL (zVol L R))) 142 25 (zL (zMom L R))) 142 23 (nI L)) 142 23 = nI L := by rw [mm_i_pi, if_pos ⟨rfl, rfl⟩]
    have i24 : mm_l (mm_pi (mm_pl (mm_pl h 142 24 (zL (zVol L R))) 142 25 (zL (zMom L R))) 142 23 (nI L)) 142 24 = zL (zVol L R) := by rw [mm_l_pi, mm_l_pl, if_neg (by omega), mm_l_pl, if_pos ⟨rfl, rfl⟩]
    have i25 : mm_l (mm_pi (mm_pl (mm_pl h 142 24 (zL (zVol L R))) 142 25 (zL (zMom L R))) 142 23 (nI L)) 142 25 = zL (zMom L R) := by rw [mm_l_pi, mm_l_pl, if_pos ⟨rfl, rfl⟩]
    generalize mm_pi (mm_pl (mm_pl h 142 24 (zL (zVol L R))) 142 25 (zL (zMom L R))) 142 23 (nI L) = h1 at *
    have K1 := F1.sk hK
    have R1 := hR.fr F1.1 (fun x x1 x2 => by omega) (F1.2 8 (by omega)).1
    rw [← nI_lit0]
    refine c136_c1 (R := R) h8 _ _ _ _ L 0 h1 (by omega) K1 R1 (fun i hi => by omega) (fun h2 F2 a2 v5 => ?_)
    have K2 := zFr.sk K1 F2
    have R2 := R1.fr F2 (fun x x1 x2 => by omega) (by rw [F2.i (by omega)])
    simp only [s136_186, s136_187]
    rw [← nI_lit0]
    refine c136_c2 (R := R) h8 _ _ _ _ (3 * L) 0 h2 (by omega) K2 R2 (fun i hi => by omega) (fun h3 F3 a3 => ?_)
    have F23 : zFr (fun x => 160 ≤ x ∧ x < 165) h1 h3 := (F2.mono (fun a ha => by omega)).trans (F3.mono (fun a ha => by omega))
    refine H h3 (F1.trans (F23.fm (by omega))) ⟨by rw [F23.i (by omega)]; exact i23, h8, by rw [F23.l (by omega)]; exact i24, by rw [F23.l (by omega)]; exact i25, fun k hk => ?_⟩
    have hk' : k < L := hk
    obtain ⟨c1, c2, c3⟩ := a2 k hk'
    obtain ⟨g1, g2, g3, g4⟩ := R2.2.2 k hk'
    refine ⟨by rw [F3.i (by omega)]; exact c1, by rw [F3.i (by omega)]; exact c2, fun a ha => ?_, by rw [F3.i (by omega)]; exact c3⟩
    obtain ⟨d1, d2⟩ := a3 (3 * k + a) (by omega)
    exact ⟨by rw [d1]; exact (g3 a ha).1, by rw [d2]; exact (g3 a ha).2⟩
  have keep : ¬ zBt (zVol L R) (zMom L R) s.2.2.2.2.1 s.2.2.2.2.2 = true → Q (.inl none) h := by
    intro hb
    have ec : zCmp L R s = s := by rw [zCmp, if_neg hb]
    rw [ec] at H
    exact H h zFm.refl hB
  have eb : (zBt (zVol L R) (zMom L R) s.2.2.2.2.1 s.2.2.2.2.2 = true) ↔ (zVol s.2.2.1 s.2.2.2.1 < zVol L R ∨ zVol L R = zVol s.2.2.1 s.2.2.2.1 ∧ zMom L R < zMom s.2.2.1 s.2.2.2.1) := by
    rw [hw.2.2.1, hw.2.2.2, zBt, decide_eq_true_eq]
  rw [eb] at copy keep
  simp only [s136_80, s136_81, s136_82, s136_85, s136_86, s136_89, s136_90, s136_91, s136_94, s136_95, s136_98, s136_99, s136_100, s136_103, s136_104, s136_107, or_true, true_or, true_and, and_true, mm_o_some, mm_o_none, mm_bk_v, mm_bk_n, Nat.reduceAdd, kS142 hK, hB.2.2.1, hB.2.2.2.1, l1, l2, l3]
  by_cases g1 : zVol L R < zVol s.2.2.1 s.2.2.2.1
  · rw [if_pos g1]; exact keep (by omega)
  · rw [if_neg g1]
    by_cases g2 : zVol L R = zVol s.2.2.1 s.2.2.2.1
    · rw [if_pos g2]
      by_cases g3 : zMom L R < zMom s.2.2.1 s.2.2.2.1
      · rw [if_pos g3]; exact copy (by omega)
      · rw [if_neg g3]; exact keep (by omega)
    · rw [if_neg g2]; exact copy (by omega)
end
