/-! FLOORS -/
section
variable {d : Nat} {h : mm_H} {Q : mm_Q} {a b : Nat} {C : Nat → Int} {ar lf rt bk fr : Int} {j2 : Value}
def wdH (h : mm_H) (a : Nat) (ar lf rt bk fr : Int) : mm_H := mm_pi (mm_pi (mm_pi (mm_pi (mm_pi h a 1 (zI ar)) a 2 (zI lf)) a 3 (zI rt)) a 4 (zI bk)) a 5 (zI fr)
theorem c58a (ha : (mm_s h a).1 = 4) (hC : zRec h b C) (hab : ¬ b = a) (h1 : mm_i h a 1 = zI 0) : mm_wp (d + 1) 58 0 [.ref a, .ref b, j2] [] h Q ↔ Q (.inl none) (wdH h a (0 + C 9 * C 11) (C 3) (C 6) (C 5) (C 8)) := by
  have iC := hC.2
  have z : zI 0 = 0 := rfl
  simp only [s58_0, s58_1, s58_4, s58_7, s58_8, s58_11, s58_12, s58_13, s58_14, s58_15, s58_18, s58_18o, s58_18n, s58_19, s58_22, s58_22o, s58_22n, s58_23, s58_26, s58_27, s58_28, s58_31, s58_32, s58_33, s58_36, s58_36o, s58_36n, s58_37, s58_40, s58_43, s58_44, s58_47, s58_47o, s58_47n, s58_48, s58_51, s58_54, s58_57, s58_58, s58_59, s58_62, s58_62o, s58_62n, s58_63, s58_66, s58_69, s58_70, s58_73, s58_73o, s58_73n, s58_74, s58_77, s58_80, s58_83, s58_84, s58_85, s58_88, s58_88o, s58_88n, s58_89, s58_92, s58_95, s58_96, s58_99, s58_99o, s58_99n, s58_100, s58_103, s58_106, s58_109, s58_110, s58_111, s58_114, s58_114o, s58_114n, s58_115, s58_118, s58_121, s58_122, s58_125, s58_125o, s58_125n, s58_126, s58_129, s58_132, s58_135, or_true, true_or, true_and, and_true, mm_o_some, mm_o_none, mm_bk_v, mm_bk_n, Nat.reduceAdd, mm_s_pi, mm_i_pi, ha, hC.1, hab, false_and, and_false, and_true, if_false, if_true, iC, h1, z, Nat.reduceLeDiff, Nat.reduceEqDiff, Nat.le_refl, zI_mul, wdH]
  simp [zI]
theorem c58b (ha : (mm_s h a).1 = 4) (hC : zRec h b C) (oC : zOk C) (hab : ¬ b = a) (h1 : mm_i h a 1 = zI ar) (h0 : ¬ ar = 0) (hr : zr ar) (h2 : mm_i h a 2 = zI lf) (h3 : mm_i h a 3 = zI rt) (h4 : mm_i h a 4 = zI bk) (h5 : mm_i h a 5 = zI fr) (r2 : zr lf) (r3 : zr rt) (r4 : zr bk) (r5 : zr fr) : mm_wp (d + 1) 58 0 [.ref a, .ref b, j2] [] h Q ↔ Q (.inl none) (wdH h a (ar + C 9 * C 11) (min lf (C 3)) (max rt (C 6)) (min bk (C 5)) (max fr (C 8))) := by
  have iC := hC.2
  have z : ¬ zI ar = 0 := fun H => h0 ((zI_eq hr (b := 0) (by simp only [zr]; omega)).mp H)
  have e1 := zI_min r2 (oC.r 3 (by decide) (by decide))
  have e2 := zI_max r3 (oC.r 6 (by decide) (by decide))
  have e3 := zI_min r4 (oC.r 5 (by decide) (by decide))
  have e4 := zI_max r5 (oC.r 8 (by decide) (by decide))
  simp only [s58_0, s58_1, s58_4, s58_7, s58_8, s58_11, s58_12, s58_13, s58_14, s58_15, s58_18, s58_18o, s58_18n, s58_19, s58_22, s58_22o, s58_22n, s58_23, s58_26, s58_27, s58_28, s58_31, s58_32, s58_33, s58_36, s58_36o, s58_36n, s58_37, s58_40, s58_43, s58_44, s58_47, s58_47o, s58_47n, s58_48, s58_51, s58_54, s58_57, s58_58, s58_59, s58_62, s58_62o, s58_62n, s58_63, s58_66, s58_69, s58_70, s58_73, s58_73o, s58_73n, s58_74, s58_77, s58_80, s58_83, s58_84, s58_85, s58_88, s58_88o, s58_88n, s58_89, s58_92, s58_95, s58_96, s58_99, s58_99o, s58_99n, s58_100, s58_103, s58_106, s58_109, s58_110, s58_111, s58_114, s58_114o, s58_114n, s58_115, s58_118, s58_121, s58_122, s58_125, s58_125o, s58_125n, s58_126, s58_129, s58_132, s58_135, or_true, true_or, true_and, and_true, mm_o_some, mm_o_none, mm_bk_v, mm_bk_n, Nat.reduceAdd, mm_s_pi, mm_i_pi, ha, hC.1, hab, false_and, and_false, and_true, if_false, if_true, iC, h1, h2, h3, h4, h5, z, Nat.reduceLeDiff, Nat.reduceEqDiff, Nat.le_refl, zI_mul, zI_add, c3, c4, e1, e2, e3, e4, wdH]
end
