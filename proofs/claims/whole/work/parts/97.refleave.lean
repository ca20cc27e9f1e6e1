/-! THE REFERENCE: A PIECE COMES, AND LEAVES -/
section
variable {d : Nat} {h h' : mm_H} {Q : mm_Q} {L n a b q t u i r e j k na bL told p : Nat} {W A : Nat → Int} {m mk : Int} {R bR : zR} {P : Nat → Nat → Int} {sp : Bool} {K S : Nat → Prop} {T' : Nat → Prop} {h'' : mm_H} {T : Nat → Prop} {x2 x3 x4 : Int32} {l : List Int} {x y z v w : Int} {C : Nat → Int}
/-- the reference's frame: of its own fields only K change, else only cells of T -/
def zFm (K T : Nat → Prop) (h h' : mm_H) : Prop := zFr (fun x => x = 142 ∨ T x) h h' ∧ ∀ k, ¬ K k → mm_i h' 142 k = mm_i h 142 k ∧ mm_l h' 142 k = mm_l h 142 k
theorem zFm.refl : zFm K T h h := ⟨zFr.refl, fun _ _ => ⟨rfl, rfl⟩⟩
theorem zFm.trans (F : zFm K T h h') (G : zFm K T h' h'') : zFm K T h h'' := ⟨F.1.trans G.1, fun k hk => ⟨(G.2 k hk).1.trans (F.2 k hk).1, (G.2 k hk).2.trans (F.2 k hk).2⟩⟩
theorem zFm.mono (F : zFm K T h h') (hK : ∀ k, K k → S k) (hT : ∀ x, T x → T' x) : zFm S T' h h' := ⟨F.1.mono (fun a ha => ha.imp id (hT a)), fun k hk => F.2 k (fun q => hk (hK k q))⟩
theorem zFr.fm (F : zFr T h h') (h1 : ¬ T 142) : zFm K T h h' := ⟨F.mono (fun _ ha => Or.inr ha), fun k _ => ⟨F.i h1 k, F.l h1 k⟩⟩
theorem zFm.sk (F : zFm K T h h') (hK : zSK h) : zSK h' := zFr.sk hK F.1
/-- which pieces are in the row -/
def zMi (h : mm_H) (L : Nat) (R : zR) : Prop := ∀ p, p < 8 → mm_i h 154 p = bI (zHas L R p)
theorem zHas_push : zHas (L + 1) (zPush L R C) q = (zHas L R q || decide (C 1 = (q : Int))) := by
  have e : zAll (fun i => !decide (zPush L R C i 1 = (q : Int))) L = zAll (fun i => !decide (R i 1 = (q : Int))) L := zAll_congr L (fun i hi => by rw [zPush_k hi (by decide)])
  simp only [zHas, zAll, e, zPush_L, Bool.not_and, Bool.not_not]
theorem c135_l2 (h8 : L < 8) (v1 v2 v3 v4 v5 v7 : Value) : ∀ m a h, a + m = 3 → zSK h → mm_i h 142 8 = nI L → zTd h (P p) t → (∀ b, b < a → mm_i h 151 (3 * L + b) = zI (zTn (P p) t b)) →
    (∀ h', zFr (fun x => x = 151) h h' → (∀ i, i < 3 * L → mm_i h' 151 i = mm_i h 151 i) → (∀ b, b < 3 → mm_i h' 151 (3 * L + b) = zI (zTn (P p) t b)) → mm_wp (d + 1) 135 228 [.ref 142, v1, v2, v3, v4, v5, .int (nI 3), v7] [] h' Q) →
    mm_wp (d + 1) 135 195 [.ref 142, v1, v2, v3, v4, v5, .int (nI a), v7] [] h Q := by
  intro m
  induction m with
  | zero =>
    intro a h ha hK hL hT hb H
    obtain rfl : a = 3 := by omega
    rw [s135_195]
    simp only [s135_197, s135_198, s135_201, s135_202, s135_205, s135_206, s135_207, s135_210, s135_211, s135_213, s135_214, s135_215, s135_218, s135_220, s135_221, s135_222, s135_225, or_true, true_or, true_and, and_true, mm_o_some, mm_o_none, mm_bk_v, mm_bk_n, Nat.reduceAdd, if_pos (show (3 : Int32) ≤ nI 3 by decide)]
    exact H h zFr.refl (fun i _ => rfl) hb
  | succ m ih =>
    intro a h ha hK hL hT hb H
    have a3 : a < 3 := by omega
    have c : ¬ (3 : Int32) ≤ nI a := nI_ge (b := 3) a3 (by omega)
    have hin : mm_in (nI (3 * L + a)) 24 = true := mm_inN (by omega) (by omega)
    have hcl : (nI (3 * L + a)).toNatClampNeg = 3 * L + a := nI_clamp (by omega)
    have hina : mm_in (nI a) 3 = true := mm_inN (by omega) (by omega)
    have hcla : (nI a).toNatClampNeg = a := nI_clamp (by omega)
    have F1 : zFr (fun x => x = 151) h (mm_pi h 151 (3 * L + a) (zI (zTn (P p) t a))) := zFr.pi rfl
    rw [s135_195]
    simp only [s135_197, s135_198, s135_201, s135_202, s135_205, s135_206, s135_207, s135_210, s135_211, s135_213, s135_214, s135_215, s135_218, s135_220, s135_221, s135_222, s135_225, or_true, true_or, true_and, and_true, mm_o_some, mm_o_none, mm_bk_v, mm_bk_n, Nat.reduceAdd, if_neg c, kS142 hK, kR142_11 hK, kR142_33 hK, kS151 hK, kS166 hK, hL, nI_3, nI_add, hin, hcl, hina, hcla, hT a a3, Nat.reduceEqDiff, not_false_eq_true, nI_1]
    refine ih (a + 1) _ (by omega) (zFr.sk hK F1) (by rw [F1.i (by omega)]; exact hL) (fun b hb' => by rw [F1.i (by omega)]; exact hT b hb') (fun b hb' => ?_) (fun h' F' e1 e2 => H h' (F1.trans F') (fun i hi => ?_) e2)
    · rw [mm_i_pi]
      by_cases e : b = a
      · rw [if_pos ⟨rfl, by omega⟩, e]
      · rw [if_neg (by omega)]; exact hb b (by omega)
    · rw [e1 i hi, mm_i_pi, if_neg (by omega)]
theorem c135z (hK : zSK h) (hG : zMg h W n P) (hR : zMr h L R) (hT : zTd h (P p) t) (hn : n ≤ 8) (hp : p < n) (t6 : t < 6) (hk : zPok (P p)) (wk : zWok W) (oR : ∀ i, i < L → zOk (R i)) (hRP : zRP P n L R) (rx : 0 ≤ x ∧ x ≤ 200) (ry : 0 ≤ y ∧ y ≤ 200) (rz : 0 ≤ z ∧ z ≤ 200) (hI : zMi h L R) (hb : ∀ i, i < L → R i 15 ≤ 10000 * (L : Int)) (h8 : L < 8) (v6 v7 : Value)
    (K : ∀ h', zFm (fun k => k = 8) (fun x => 149 ≤ x ∧ x < 155) h h' → zMr h' (L + 1) (zPush L R (zC P p t x y z)) → zMi h' (L + 1) (zPush L R (zC P p t x y z)) → Q (.inl none) h') :
    mm_wp (d + 1) 135 0 [.ref 142, .int (nI p), .int (nI t), .int (zI x), .int (zI y), .int (zI z), v6, v7] [] h Q := by
  simp only [s135_0, s135_1]
  rw [← nI_lit0]
  refine c135_l1 hK hG hR hT hn hp t6 hk wk oR hRP rx ry rz hb h8 _ L 0 h (by omega) hK hG (by rw [zMix_0]; exact hR) hT v7 (fun h1 F1 R1 v7 => ?_)
  have K1 := zFr.sk hK F1
  have T1 : zTd h1 (P p) t := fun a ha => by rw [F1.i (by omega)]; exact hT a ha
  have L1 := R1.1
  have hin : mm_in (nI L) 8 = true := mm_inN (by omega) (by omega)
  have hcl : (nI L).toNatClampNeg = L := nI_clamp (by omega)
  have hinp : mm_in (nI p) 8 = true := mm_inN (by omega) (by omega)
  have hclp : (nI p).toNatClampNeg = p := nI_clamp (by omega)
  have hin0 : mm_in (nI (3 * L)) 24 = true := mm_inN (by omega) (by omega)
  have hcl0 : (nI (3 * L)).toNatClampNeg = 3 * L := nI_clamp (by omega)
  have hin1 : mm_in (nI (3 * L + 1)) 24 = true := mm_inN (by omega) (by omega)
  have hcl1 : (nI (3 * L + 1)).toNatClampNeg = 3 * L + 1 := nI_clamp (by omega)
  have hin2 : mm_in (nI (3 * L + 2)) 24 = true := mm_inN (by omega) (by omega)
  have hcl2 : (nI (3 * L + 2)).toNatClampNeg = 3 * L + 2 := nI_clamp (by omega)
  have n2 : ∀ a : Nat, nI a + (2 : Int32) = nI (a + 2) := fun a => nI_add a 2
  simp only [s135_113, s135_114, s135_117, s135_118, s135_121, s135_122, s135_123, s135_124, s135_127, s135_128, s135_131, s135_132, s135_133, s135_134, s135_137, s135_138, s135_141, s135_142, s135_143, s135_144, s135_147, s135_148, s135_149, s135_150, s135_151, s135_154, s135_155, s135_156, s135_159, s135_160, s135_161, s135_162, s135_163, s135_166, s135_167, s135_168, s135_171, s135_172, s135_173, s135_174, s135_176, s135_177, s135_178, s135_181, s135_182, s135_183, s135_186, s135_187, s135_188, s135_189, s135_191, s135_192, s135_193, or_true, true_or, true_and, and_true, mm_o_some, mm_o_none, mm_bk_v, mm_bk_n, Nat.reduceAdd, kS142 K1, kR142_9 K1, kR142_10 K1, kR142_12 K1, kR142_13 K1, kR142_14 K1, kS149 K1, kS150 K1, kS152 K1, kS153 K1, kS154 K1, mm_s_pi, mm_r_pi, mm_i_pi, L1, hin, hcl, hinp, hclp, nI_3, nI_1, n2, hin0, hcl0, hin1, hcl1, hin2, hcl2, Nat.reduceEqDiff, not_false_eq_true, false_and, if_false]
  have F2 : zFr (fun x => 149 ≤ x ∧ x < 155) h1 (mm_pi (mm_pi (mm_pi (mm_pi (mm_pi (mm_pi (mm_pi h1 149 L (nI p)) 150 L (nI t)) 153 L 0) 154 p 1) 152 (3 * L) (zI x)) 152 (3 * L + 1) (zI y)) 152 (3 * L + 2) (zI z)) := ((((((zFr.pi (by omega)).trans (zFr.pi (by omega))).trans (zFr.pi (by omega))).trans (zFr.pi (by omega))).trans (zFr.pi (by omega))).trans (zFr.pi (by omega))).trans (zFr.pi (by omega))
  have e149 : ∀ i, mm_i (mm_pi (mm_pi (mm_pi (mm_pi (mm_pi (mm_pi (mm_pi h1 149 L (nI p)) 150 L (nI t)) 153 L 0) 154 p 1) 152 (3 * L) (zI x)) 152 (3 * L + 1) (zI y)) 152 (3 * L + 2) (zI z)) 149 i = if i = L then nI p else mm_i h1 149 i := fun i => by simp only [mm_i_pi, Nat.reduceEqDiff, false_and, if_false, true_and]
  have e150 : ∀ i, mm_i (mm_pi (mm_pi (mm_pi (mm_pi (mm_pi (mm_pi (mm_pi h1 149 L (nI p)) 150 L (nI t)) 153 L 0) 154 p 1) 152 (3 * L) (zI x)) 152 (3 * L + 1) (zI y)) 152 (3 * L + 2) (zI z)) 150 i = if i = L then nI t else mm_i h1 150 i := fun i => by simp only [mm_i_pi, Nat.reduceEqDiff, false_and, if_false, true_and]
  have e151 : ∀ i, mm_i (mm_pi (mm_pi (mm_pi (mm_pi (mm_pi (mm_pi (mm_pi h1 149 L (nI p)) 150 L (nI t)) 153 L 0) 154 p 1) 152 (3 * L) (zI x)) 152 (3 * L + 1) (zI y)) 152 (3 * L + 2) (zI z)) 151 i = mm_i h1 151 i := fun i => by simp only [mm_i_pi, Nat.reduceEqDiff, false_and, if_false]
  have e152 : ∀ i, mm_i (mm_pi (mm_pi (mm_pi (mm_pi (mm_pi (mm_pi (mm_pi h1 149 L (nI p)) 150 L (nI t)) 153 L 0) 154 p 1) 152 (3 * L) (zI x)) 152 (3 * L + 1) (zI y)) 152 (3 * L + 2) (zI z)) 152 i = if i = 3 * L + 2 then zI z else if i = 3 * L + 1 then zI y else if i = 3 * L then zI x else mm_i h1 152 i := fun i => by simp only [mm_i_pi, Nat.reduceEqDiff, false_and, if_false, true_and]
  have e153 : ∀ i, mm_i (mm_pi (mm_pi (mm_pi (mm_pi (mm_pi (mm_pi (mm_pi h1 149 L (nI p)) 150 L (nI t)) 153 L 0) 154 p 1) 152 (3 * L) (zI x)) 152 (3 * L + 1) (zI y)) 152 (3 * L + 2) (zI z)) 153 i = if i = L then 0 else mm_i h1 153 i := fun i => by simp only [mm_i_pi, Nat.reduceEqDiff, false_and, if_false, true_and]
  have e154 : ∀ i, mm_i (mm_pi (mm_pi (mm_pi (mm_pi (mm_pi (mm_pi (mm_pi h1 149 L (nI p)) 150 L (nI t)) 153 L 0) 154 p 1) 152 (3 * L) (zI x)) 152 (3 * L + 1) (zI y)) 152 (3 * L + 2) (zI z)) 154 i = if i = p then 1 else mm_i h1 154 i := fun i => by simp only [mm_i_pi, Nat.reduceEqDiff, false_and, if_false, true_and]
  generalize (mm_pi (mm_pi (mm_pi (mm_pi (mm_pi (mm_pi (mm_pi h1 149 L (nI p)) 150 L (nI t)) 153 L 0) 154 p 1) 152 (3 * L) (zI x)) 152 (3 * L + 1) (zI y)) 152 (3 * L + 2) (zI z)) = h2 at *
  have K2 := zFr.sk K1 F2
  have L2 : mm_i h2 142 8 = nI L := by rw [F2.i (by omega)]; exact L1
  have l2 := c135_l2 (d := d) (Q := Q) (P := P) (p := p) (t := t) h8 (.int (nI p)) (.int (nI t)) (.int (zI x)) (.int (zI y)) (.int (zI z)) v7 3 0 h2 (by omega) K2 L2 (fun a ha => by rw [F2.i (by omega)]; exact T1 a ha) (fun b hb => by omega)
  rw [nI_lit0] at l2
  refine l2 (fun h3 F3 a1 a2 => ?_)
  have K3 := zFr.sk K2 F3
  have L3 : mm_i h3 142 8 = nI L := by rw [F3.i (by omega)]; exact L2
  simp only [s135_228, s135_229, s135_230, s135_233, s135_234, s135_235, s135_238, or_true, true_or, true_and, and_true, mm_o_some, mm_o_none, mm_bk_v, mm_bk_n, Nat.reduceAdd, kS142 K3, L3, nI_1]
  have F4 : zFm (fun k => k = 8) (fun x => 149 ≤ x ∧ x < 155) h3 (mm_pi h3 142 8 (nI (L + 1))) := ⟨zFr.pi (Or.inl rfl), fun k hk => ⟨by rw [mm_i_pi, if_neg (fun q => hk q.2)], rfl⟩⟩
  have F : zFm (fun k => k = 8) (fun x => 149 ≤ x ∧ x < 155) h (mm_pi h3 142 8 (nI (L + 1))) := ((((F1.mono (T' := fun x => 149 ≤ x ∧ x < 155) (fun a ha => by omega)).trans F2).trans (F3.mono (T' := fun x => 149 ≤ x ∧ x < 155) (fun a ha => by omega))).fm (by omega)).trans F4
  have oC := zC_ok (P := P) hk (show p < 8 by omega) t6 rx ry rz
  refine K _ F ⟨by rw [mm_i_pi, if_pos ⟨rfl, rfl⟩], by omega, fun k hk' => ?_⟩ (fun q hq => ?_)
  · by_cases e : k = L
    · subst e
      rw [zPush_L]
      refine ⟨?_, ?_, fun a ha => ⟨?_, ?_⟩, ?_⟩
      · rw [mm_i_pi, if_neg (by omega), F3.i (by omega), e149, if_pos rfl, zI_n]; rfl
      · rw [mm_i_pi, if_neg (by omega), F3.i (by omega), e150, if_pos rfl, zI_n]; rfl
      · rw [mm_i_pi, if_neg (by omega), a2 a ha]
        have : a = 0 ∨ a = 1 ∨ a = 2 := by omega
        rcases this with rfl | rfl | rfl <;> rfl
      · rw [mm_i_pi, if_neg (by omega), F3.i (by omega), e152]
        have : a = 0 ∨ a = 1 ∨ a = 2 := by omega
        rcases this with rfl | rfl | rfl
        · rw [if_neg (by omega), if_neg (by omega), if_pos (by omega)]; rfl
        · rw [if_neg (by omega), if_pos (by omega)]; rfl
        · rw [if_pos (by omega)]; rfl
      · rw [mm_i_pi, if_neg (by omega), F3.i (by omega), e153, if_pos rfl]; rfl
    · have kl : k < L := by omega
      obtain ⟨g1, g2, g3, g4⟩ := R1.2.2 k kl
      simp only [zMix, if_pos kl] at g1 g2 g3 g4
      refine ⟨?_, ?_, fun a ha => ⟨?_, ?_⟩, ?_⟩
      · rw [mm_i_pi, if_neg (by omega), F3.i (by omega), e149, if_neg e]; exact g1
      · rw [mm_i_pi, if_neg (by omega), F3.i (by omega), e150, if_neg e]; exact g2
      · rw [mm_i_pi, if_neg (by omega), a1 _ (by omega), e151]; exact (g3 a ha).1
      · rw [mm_i_pi, if_neg (by omega), F3.i (by omega), e152, if_neg (by omega), if_neg (by omega), if_neg (by omega)]; exact (g3 a ha).2
      · rw [mm_i_pi, if_neg (by omega), F3.i (by omega), e153, if_neg e]; exact g4
  · rw [zHas_push, mm_i_pi, if_neg (by omega), F3.i (by omega), e154, show (zC P p t x y z) 1 = (p : Int) from rfl]
    by_cases e : q = p
    · rw [if_pos e, e, decide_eq_true rfl, Bool.or_true]; rfl
    · rw [if_neg e, decide_eq_false (by omega), Bool.or_false, F1.i (by omega)]; exact hI q hq
theorem c137_loop (hn : n ≤ 8) (hp : p < n) (t6 : t < 6) (hk : zPok (P p)) (wk : zWok W) (oR : ∀ i, i < L → zOk (R i)) (rx : 0 ≤ x ∧ x ≤ 200) (ry : 0 ≤ y ∧ y ≤ 200) (rz : 0 ≤ z ∧ z ≤ 200) (hb : ∀ i, i < L → R i 15 ≤ 10000 * (L : Int)) (h8 : L < 8) : ∀ m k h, k + m = L → zSK h → zMg h W n P → zMr h L (zMix (zPush L R (zC P p t x y z)) R k) → (∀ a, a < 3 → mm_i h 151 (3 * L + a) = zI ((zC P p t x y z) (9 + a)) ∧ mm_i h 152 (3 * L + a) = zI ((zC P p t x y z) (3 + a))) → ∀ v3 : Value,
    (∀ h', zFr (fun x => x = 153) h h' → zMr h' L (zMix (zPush L R (zC P p t x y z)) R L) → Q (.inl none) h') →
    mm_wp (d + 1) 137 29 [.ref 142, .int (nI p), .int (nI k), v3] [] h Q := by
  have wr := zW_r (t := t) hk
  have oC := zC_ok (P := P) hk (show p < 8 by omega) t6 rx ry rz
  have oS := zPush_ok oR hb h8 oC
  have hS : ∀ i, i < L → ∀ j, ¬ j = 15 → R i j = zPush L R (zC P p t x y z) i j := fun i hi j hj => (zPush_k hi hj).symm
  have kp := hk
  simp only [zPok] at kp
  intro m
  induction m with
  | zero =>
    intro k h hkL hK hG hR hC v3 K
    obtain rfl : k = L := by omega
    rw [s137_29]
    simp only [s137_30, s137_31, s137_34, s137_37, s137_38, s137_39, s137_40, s137_41, s137_44, s137_45, s137_46, s137_49, s137_50, s137_51, s137_52, s137_55, s137_56, s137_57, s137_60, s137_61, s137_62, s137_65, s137_68, s137_69, s137_70, s137_71, s137_72, s137_75, s137_76, s137_77, s137_80, s137_81, s137_82, s137_83, s137_84, s137_85, s137_88, s137_89, s137_90, s137_93, s137_94, s137_95, s137_96, s137_97, s137_100, s137_103, s137_104, s137_107, s137_108, s137_109, s137_110, s137_113, s137_114, s137_115, s137_116, s137_117, s137_120, s137_121, s137_124, s137_125, s137_126, s137_129, s137_130, s137_131, s137_132, s137_133, s137_134, s137_137, s137_138, s137_139, s137_140, s137_141, s137_142, s137_143, s137_144, s137_147, s137_148, s137_149, s137_150, s137_151, s137_152, s137_153, s137_154, s137_157, s137_158, s137_161, s137_162, s137_163, s137_166, s137_167, s137_168, s137_169, s137_172, s137_175, or_true, true_or, true_and, and_true, mm_o_some, mm_o_none, mm_bk_v, mm_bk_n, Nat.reduceAdd, kS142 hK, hR.1, if_pos (Int32.le_refl (nI k))]
    exact K h zFr.refl hR
  | succ m ih =>
    intro k h hkL hK hG hR hC v3 K
    have hk' : k < L := by omega
    have c : ¬ nI L ≤ nI k := nI_ge hk' (by omega)
    obtain ⟨g1, g2, g3, g4⟩ := hR.2.2 k hk'
    have pp := (g3 1 (by decide))
    have e1 : mm_i h 151 (3 * k + 1) = zI (R k 10) := by rw [pp.1, zMix_k, zPush_k hk' (by decide)]
    have e2 : mm_i h 152 (3 * k + 1) = zI (R k 4) := by rw [pp.2, zMix_k, zPush_k hk' (by decide)]
    have e15 : mm_i h 153 k = zI (zPush L R (zC P p t x y z) k 15) := by rw [g4, zMix_k]
    have ew : mm_i h 145 p = zI (P p 6) := (hG.2.2 p hp).2.1
    have s0 : mm_i h 151 (3 * L) = zI (zW (P p) t) := (hC 0 (by decide)).1
    have s2 : mm_i h 151 (3 * L + 2) = zI (zD (P p) t) := (hC 2 (by decide)).1
    have l0 : mm_i h 152 (3 * L) = zI x := (hC 0 (by decide)).2
    have l1 : mm_i h 152 (3 * L + 1) = zI y := (hC 1 (by decide)).2
    have l2 : mm_i h 152 (3 * L + 2) = zI z := (hC 2 (by decide)).2
    have hin1 : mm_in (nI (3 * k + 1)) 24 = true := mm_inN (by omega) (by omega)
    have hcl1 : (nI (3 * k + 1)).toNatClampNeg = 3 * k + 1 := nI_clamp (by omega)
    have hin : mm_in (nI k) 8 = true := mm_inN (by omega) (by omega)
    have hcl : (nI k).toNatClampNeg = k := nI_clamp (by omega)
    have hinp : mm_in (nI p) 8 = true := mm_inN (by omega) (by omega)
    have hclp : (nI p).toNatClampNeg = p := nI_clamp (by omega)
    have j0 : mm_in (nI (3 * L)) 24 = true := mm_inN (by omega) (by omega)
    have t0 : (nI (3 * L)).toNatClampNeg = 3 * L := nI_clamp (by omega)
    have j1 : mm_in (nI (3 * L + 1)) 24 = true := mm_inN (by omega) (by omega)
    have t1 : (nI (3 * L + 1)).toNatClampNeg = 3 * L + 1 := nI_clamp (by omega)
    have j2 : mm_in (nI (3 * L + 2)) 24 = true := mm_inN (by omega) (by omega)
    have t2 : (nI (3 * L + 2)).toNatClampNeg = 3 * L + 2 := nI_clamp (by omega)
    have n2 : ∀ a : Nat, nI a + (2 : Int32) = nI (a + 2) := fun a => nI_add a 2
    have o := oR k hk'
    have o' := o
    simp only [zOk] at o'
    have om := zMix_ok (k := k) oS oR k hk'
    have c0 : ∀ (Q : mm_Q) (v5 v6 v7 v8 : Value), mm_wp d 134 0 [.ref 142, .int (nI k), .int 0, .int (zI x), .int (zI (zW (P p) t)), v5, v6, v7, v8] [] h Q ↔ Q (.inl (some (.int (zI (zCo x (x + zW (P p) t) (R k 3) (R k 6)))))) h := by
      intro Q v5 v6 v7 v8
      have := c134_0 (d := d) (Q := Q) hK hR hk' om rx wr.1 v5 v6 v7 v8
      rw [zMix_k, zMix_k, zPush_k hk' (by decide), zPush_k hk' (by decide)] at this
      exact this
    have c2 : ∀ (Q : mm_Q) (v5 v6 v7 v8 : Value), mm_wp d 134 0 [.ref 142, .int (nI k), .int 2, .int (zI z), .int (zI (zD (P p) t)), v5, v6, v7, v8] [] h Q ↔ Q (.inl (some (.int (zI (zCo z (z + zD (P p) t) (R k 5) (R k 8)))))) h := by
      intro Q v5 v6 v7 v8
      have := c134_2 (d := d) (Q := Q) hK hR hk' om rz wr.2.2 v5 v6 v7 v8
      rw [zMix_k, zMix_k, zPush_k hk' (by decide), zPush_k hk' (by decide)] at this
      exact this
    have b1 := zCo_r (a := x) (b := x + zW (P p) t) (c := R k 3) (e := R k 6) (by omega) (by omega) (by omega) (by omega)
    have b3 := zCo_r (a := z) (b := z + zD (P p) t) (c := R k 5) (e := R k 8) (by omega) (by omega) (by omega) (by omega)
    have p1 := zCo_p (a := x) (b := x + zW (P p) t) (c := R k 3) (e := R k 6) (by omega) (by omega)
    have p3 := zCo_p (a := z) (b := z + zD (P p) t) (c := R k 5) (e := R k 8) (by omega) (by omega)
    have r0 : zr 0 := by simp only [zr]; omega
    have r1 : zr (zCo x (x + zW (P p) t) (R k 3) (R k 6)) := by simp only [zr]; omega
    have r3 : zr (zCo z (z + zD (P p) t) (R k 5) (R k 8)) := by simp only [zr]; omega
    have i1 : (zI (zCo x (x + zW (P p) t) (R k 3) (R k 6))) ≤ (0 : Int32) ↔ zCo x (x + zW (P p) t) (R k 3) (R k 6) ≤ 0 := zI_le r1 r0
    have i3 : (zI (zCo z (z + zD (P p) t) (R k 5) (R k 8))) ≤ (0 : Int32) ↔ zCo z (z + zD (P p) t) (R k 5) (R k 8) ≤ 0 := zI_le r3 r0
    have e7 : R k 4 + R k 10 = R k 7 := by omega
    have z1 : zr (R k 7) := o.r 7 (by decide) (by decide)
    have z2 : zr y := by simp only [zr]; omega
    have ev : zOv (zC P p t x y z) (R k) = decide (R k 7 ≤ y ∧ (x < R k 6 ∧ R k 3 < x + zW (P p) t) ∧ z < R k 8 ∧ R k 5 < z + zD (P p) t) := rfl
    have e12 : (zC P p t x y z) 12 = P p 6 := rfl
    have p15 := zPush_15 (R := R) (C := (zC P p t x y z)) hk'
    rw [ev, e12] at p15
    simp only [decide_eq_true_eq] at p15
    have F1 : zFr (fun x => x = 153) h (mm_pi h 153 k (zI (R k 15))) := zFr.pi rfl
    have R1 := hR.bear hk' hS
    have fin : ∀ v3 : Value, mm_wp (d + 1) 137 29 [.ref 142, .int (nI p), .int (nI (k + 1)), v3] [] (mm_pi h 153 k (zI (R k 15))) Q := fun v3 => ih (k + 1) _ (by omega) (zFr.sk hK F1) (hG.fr F1 (fun x x1 x2 => by omega) (by rw [F1.i (by omega)])) R1 (fun a ha => by rw [F1.i (by omega), F1.i (by omega)]; exact hC a ha) v3 (fun h' F' => K h' (F1.trans F'))
    rw [s137_29]
    by_cases a1 : x < R k 6 ∧ R k 3 < x + zW (P p) t
    · by_cases a3 : z < R k 8 ∧ R k 5 < z + zD (P p) t
      · by_cases a0 : y < R k 7
        · rw [if_neg (by omega)] at p15
          rw [p15] at e15
          simp only [s137_30, s137_31, s137_34, s137_37, s137_38, s137_39, s137_40, s137_41, s137_44, s137_45, s137_46, s137_49, s137_50, s137_51, s137_52, s137_55, s137_56, s137_57, s137_60, s137_61, s137_62, s137_65, s137_68, s137_69, s137_70, s137_71, s137_72, s137_75, s137_76, s137_77, s137_80, s137_81, s137_82, s137_83, s137_84, s137_85, s137_88, s137_89, s137_90, s137_93, s137_94, s137_95, s137_96, s137_97, s137_100, s137_103, s137_104, s137_107, s137_108, s137_109, s137_110, s137_113, s137_114, s137_115, s137_116, s137_117, s137_120, s137_121, s137_124, s137_125, s137_126, s137_129, s137_130, s137_131, s137_132, s137_133, s137_134, s137_137, s137_138, s137_139, s137_140, s137_141, s137_142, s137_143, s137_144, s137_147, s137_148, s137_149, s137_150, s137_151, s137_152, s137_153, s137_154, s137_157, s137_158, s137_161, s137_162, s137_163, s137_166, s137_167, s137_168, s137_169, s137_172, s137_175, or_true, true_or, true_and, and_true, mm_o_some, mm_o_none, mm_bk_v, mm_bk_n, Nat.reduceAdd, kS142 hK, hR.1, if_neg c, kR142_12 hK, kR142_11 hK, kS152 hK, kS151 hK, nI_3, j0, t0, j1, t1, j2, t2, n2, s0, s2, l0, l1, l2, c0, c2, i1, i3, p1, p3, a1, a3, and_self, not_true_eq_false, if_false, if_neg n10, kR142_13 hK, kS153 hK, hin, hcl, e15, nI_1, hin1, hcl1, e1, e2, zI_add, e7, zI_lt z2 z1, if_pos a0, zI_m0, Nat.reduceEqDiff, not_false_eq_true]
          exact fin _
        · rw [if_pos (by omega)] at p15
          rw [p15] at e15
          simp only [s137_30, s137_31, s137_34, s137_37, s137_38, s137_39, s137_40, s137_41, s137_44, s137_45, s137_46, s137_49, s137_50, s137_51, s137_52, s137_55, s137_56, s137_57, s137_60, s137_61, s137_62, s137_65, s137_68, s137_69, s137_70, s137_71, s137_72, s137_75, s137_76, s137_77, s137_80, s137_81, s137_82, s137_83, s137_84, s137_85, s137_88, s137_89, s137_90, s137_93, s137_94, s137_95, s137_96, s137_97, s137_100, s137_103, s137_104, s137_107, s137_108, s137_109, s137_110, s137_113, s137_114, s137_115, s137_116, s137_117, s137_120, s137_121, s137_124, s137_125, s137_126, s137_129, s137_130, s137_131, s137_132, s137_133, s137_134, s137_137, s137_138, s137_139, s137_140, s137_141, s137_142, s137_143, s137_144, s137_147, s137_148, s137_149, s137_150, s137_151, s137_152, s137_153, s137_154, s137_157, s137_158, s137_161, s137_162, s137_163, s137_166, s137_167, s137_168, s137_169, s137_172, s137_175, or_true, true_or, true_and, and_true, mm_o_some, mm_o_none, mm_bk_v, mm_bk_n, Nat.reduceAdd, kS142 hK, hR.1, if_neg c, kR142_12 hK, kR142_11 hK, kS152 hK, kS151 hK, nI_3, j0, t0, j1, t1, j2, t2, n2, s0, s2, l0, l1, l2, c0, c2, i1, i3, p1, p3, a1, a3, and_self, not_true_eq_false, if_false, if_neg n10, kR142_13 hK, kR142_4 hK, kS153 hK, kS145 hK, hin, hcl, hinp, hclp, e15, ew, nI_1, hin1, hcl1, e1, e2, zI_add, e7, zI_lt z2 z1, if_neg a0, zI_sub, Nat.reduceEqDiff, not_false_eq_true, show R k 15 + P p 6 - P p 6 = R k 15 by omega]
          exact fin _
      · rw [if_neg (by omega)] at p15
        rw [p15] at e15
        simp only [s137_30, s137_31, s137_34, s137_37, s137_38, s137_39, s137_40, s137_41, s137_44, s137_45, s137_46, s137_49, s137_50, s137_51, s137_52, s137_55, s137_56, s137_57, s137_60, s137_61, s137_62, s137_65, s137_68, s137_69, s137_70, s137_71, s137_72, s137_75, s137_76, s137_77, s137_80, s137_81, s137_82, s137_83, s137_84, s137_85, s137_88, s137_89, s137_90, s137_93, s137_94, s137_95, s137_96, s137_97, s137_100, s137_103, s137_104, s137_107, s137_108, s137_109, s137_110, s137_113, s137_114, s137_115, s137_116, s137_117, s137_120, s137_121, s137_124, s137_125, s137_126, s137_129, s137_130, s137_131, s137_132, s137_133, s137_134, s137_137, s137_138, s137_139, s137_140, s137_141, s137_142, s137_143, s137_144, s137_147, s137_148, s137_149, s137_150, s137_151, s137_152, s137_153, s137_154, s137_157, s137_158, s137_161, s137_162, s137_163, s137_166, s137_167, s137_168, s137_169, s137_172, s137_175, or_true, true_or, true_and, and_true, mm_o_some, mm_o_none, mm_bk_v, mm_bk_n, Nat.reduceAdd, kS142 hK, hR.1, if_neg c, kR142_12 hK, kR142_11 hK, kS152 hK, kS151 hK, nI_3, j0, t0, j2, t2, n2, s0, s2, l0, l2, c0, c2, i1, i3, p1, p3, a1, a3, and_self, not_true_eq_false, not_false_eq_true, if_false, if_true, kR142_13 hK, kS153 hK, hin, hcl, e15, zI_m0, Nat.reduceEqDiff, nI_1]
        exact fin _
    · rw [if_neg (by omega)] at p15
      rw [p15] at e15
      simp only [s137_30, s137_31, s137_34, s137_37, s137_38, s137_39, s137_40, s137_41, s137_44, s137_45, s137_46, s137_49, s137_50, s137_51, s137_52, s137_55, s137_56, s137_57, s137_60, s137_61, s137_62, s137_65, s137_68, s137_69, s137_70, s137_71, s137_72, s137_75, s137_76, s137_77, s137_80, s137_81, s137_82, s137_83, s137_84, s137_85, s137_88, s137_89, s137_90, s137_93, s137_94, s137_95, s137_96, s137_97, s137_100, s137_103, s137_104, s137_107, s137_108, s137_109, s137_110, s137_113, s137_114, s137_115, s137_116, s137_117, s137_120, s137_121, s137_124, s137_125, s137_126, s137_129, s137_130, s137_131, s137_132, s137_133, s137_134, s137_137, s137_138, s137_139, s137_140, s137_141, s137_142, s137_143, s137_144, s137_147, s137_148, s137_149, s137_150, s137_151, s137_152, s137_153, s137_154, s137_157, s137_158, s137_161, s137_162, s137_163, s137_166, s137_167, s137_168, s137_169, s137_172, s137_175, or_true, true_or, true_and, and_true, mm_o_some, mm_o_none, mm_bk_v, mm_bk_n, Nat.reduceAdd, kS142 hK, hR.1, if_neg c, kR142_12 hK, kR142_11 hK, kS152 hK, kS151 hK, nI_3, j0, t0, s0, l0, c0, i1, p1, a1, not_false_eq_true, if_true, kR142_13 hK, kS153 hK, hin, hcl, e15, zI_m0, Nat.reduceEqDiff, nI_1]
      exact fin _
theorem c137z (hK : zSK h) (hG : zMg h W n P) (hn : n ≤ 8) (hp : p < n) (t6 : t < 6) (hk : zPok (P p)) (wk : zWok W) (oR : ∀ i, i < L → zOk (R i)) (rx : 0 ≤ x ∧ x ≤ 200) (ry : 0 ≤ y ∧ y ≤ 200) (rz : 0 ≤ z ∧ z ≤ 200)
    (hR : zMr h (L + 1) (zPush L R (zC P p t x y z))) (hI : zMi h (L + 1) (zPush L R (zC P p t x y z))) (hno : zHas L R p = false) (hb : ∀ i, i < L → R i 15 ≤ 10000 * (L : Int)) (h8 : L < 8) (v1 v2 v3 : Value)
    (K : ∀ h', zFm (fun k => k = 8) (fun x => 153 ≤ x ∧ x < 155) h h' → zMr h' L R → zMi h' L R → Q (.inl none) h') :
    mm_wp (d + 1) 137 0 [.ref 142, v1, v2, v3] [] h Q := by
  obtain ⟨g1, g2, g3, g4⟩ := hR.2.2 L (by omega)
  rw [zPush_L] at g1 g2 g3 g4
  have e1 : mm_i h 149 L = nI p := by rw [g1, zI_n]; rfl
  have hin : mm_in (nI L) 8 = true := mm_inN (by omega) (by omega)
  have hcl : (nI L).toNatClampNeg = L := nI_clamp (by omega)
  have hinp : mm_in (nI p) 8 = true := mm_inN (by omega) (by omega)
  have hclp : (nI p).toNatClampNeg = p := nI_clamp (by omega)
  simp only [s137_0, s137_1, s137_2, s137_5, s137_6, s137_7, s137_10, s137_11, s137_14, s137_15, s137_18, s137_19, s137_20, s137_21, s137_24, s137_25, s137_26, s137_27, s137_28, or_true, true_or, true_and, and_true, mm_o_some, mm_o_none, mm_bk_v, mm_bk_n, Nat.reduceAdd, kS142 hK, hR.1, nI_pred, mm_s_pi, mm_r_pi, kR142_9 hK, kR142_14 hK, kS149 hK, kS154 hK, mm_i_pi, and_self, if_true, Nat.reduceEqDiff, false_and, if_false, hin, hcl, e1, hinp, hclp]
  have F1 : zFm (fun k => k = 8) (fun x => 153 ≤ x ∧ x < 155) h (mm_pi (mm_pi h 142 8 (nI L)) 154 p 0) := by
    refine ⟨zFr.trans (T := fun x => x = 142 ∨ 153 ≤ x ∧ x < 155) (zFr.pi (Or.inl rfl)) (zFr.pi (Or.inr (by omega))), fun k hk => ⟨?_, rfl⟩⟩
    rw [mm_i_pi, if_neg (by omega), mm_i_pi, if_neg (fun q => hk q.2)]
  have i8 : mm_i (mm_pi (mm_pi h 142 8 (nI L)) 154 p 0) 142 8 = nI L := by rw [mm_i_pi, if_neg (by omega), mm_i_pi, if_pos ⟨rfl, rfl⟩]
  have i154 : ∀ q, mm_i (mm_pi (mm_pi h 142 8 (nI L)) 154 p 0) 154 q = if q = p then 0 else mm_i h 154 q := fun q => by simp only [mm_i_pi, Nat.reduceEqDiff, false_and, if_false, true_and]
  have i153 : ∀ q, mm_i (mm_pi (mm_pi h 142 8 (nI L)) 154 p 0) 153 q = mm_i h 153 q := fun q => by simp only [mm_i_pi, Nat.reduceEqDiff, false_and, if_false]
  generalize mm_pi (mm_pi h 142 8 (nI L)) 154 p 0 = h1 at *
  have K1 := F1.sk hK
  have G1 : zMg h1 W n P := hG.fr F1.1 (fun x x1 x2 => by omega) (F1.2 2 (by decide)).1
  have R1 : zMr h1 L (zMix (zPush L R (zC P p t x y z)) R 0) := by
    rw [zMix_0]
    refine ⟨i8, by omega, fun k hk' => ?_⟩
    obtain ⟨f1, f2, f3, f4⟩ := hR.2.2 k (by omega)
    exact ⟨by rw [F1.1.i (by omega)]; exact f1, by rw [F1.1.i (by omega)]; exact f2, fun a ha => ⟨by rw [F1.1.i (by omega)]; exact (f3 a ha).1, by rw [F1.1.i (by omega)]; exact (f3 a ha).2⟩, by rw [i153]; exact f4⟩
  rw [← nI_lit0]
  refine c137_loop hn hp t6 hk wk oR rx ry rz hb h8 L 0 h1 (by omega) K1 G1 R1 (fun a ha => by rw [F1.1.i (by omega), F1.1.i (by omega)]; exact g3 a ha) _ (fun h2 F2 R2 => ?_)
  have F : zFm (fun k => k = 8) (fun x => 153 ≤ x ∧ x < 155) h h2 := F1.trans ((F2.mono (T' := fun x => 153 ≤ x ∧ x < 155) (fun a ha => by omega)).fm (by omega))
  refine K h2 F (R2.cg (fun k hk' => by simp only [zMix, if_pos hk'])) (fun q hq => ?_)
  have hq' := hI q hq
  rw [zHas_push, show (zC P p t x y z) 1 = (p : Int) from rfl] at hq'
  rw [F2.i (by omega), i154]
  by_cases e : q = p
  · rw [if_pos e, e, hno]; rfl
  · rw [if_neg e, hq', decide_eq_false (by omega), Bool.or_false]
end
