/-! THE REFERENCE: THE CORNERS OF A LEVEL -/
section
variable {d : Nat} {h h' : mm_H} {Q : mm_Q} {L n a b q t u i r e j k na bL told p : Nat} {W A : Nat → Int} {m mk : Int} {R bR : zR} {P : Nat → Nat → Int} {sp : Bool} {T : Nat → Prop} {x2 x3 x4 : Int32} {l : List Int} {E : Int} {base at' s : Nat} {x y z v w : Int} {C : Nat → Int}
theorem zIns_pw {E : Int} : ∀ l : List Int, l.Pairwise (· < ·) → (zIns E l).Pairwise (· < ·) := by
  intro l
  induction l with
  | nil => intro _; simp [zIns]
  | cons a r ih =>
    intro H
    rw [List.pairwise_cons] at H
    simp only [zIns]
    split
    · rename_i g
      rw [List.pairwise_cons]
      refine ⟨fun x hx => ?_, ih H.2⟩
      rcases zIns_mem _ hx with e | e
      · omega
      · exact H.1 x e
    · rename_i g
      split
      · rw [List.pairwise_cons]; exact H
      · rename_i g2
        rw [List.pairwise_cons, List.pairwise_cons]
        refine ⟨fun x hx => ?_, H⟩
        rcases List.mem_cons.mp hx with e | e
        · omega
        · have := H.1 x e
          omega
theorem zEnds_pw {k : Nat} : ∀ m, (zEnds R k m).Pairwise (· < ·) := by
  intro m
  induction m with
  | zero => simp [zEnds]
  | succ m ih => exact zIns_pw _ ih
theorem pw_getD {l : List Int} (H : l.Pairwise (· < ·)) {i j : Nat} (hij : i < j) (hj : j < l.length) : l.getD i 0 < l.getD j 0 := by
  rw [List.pairwise_iff_getElem] at H
  have := H i j (by omega) hj hij
  rw [List.getD_eq_getElem?_getD, List.getD_eq_getElem?_getD, List.getElem?_eq_getElem (by omega), List.getElem?_eq_getElem hj]
  exact this
/-- a list in the corners -/
def zLs (h : mm_H) (b : Nat) (l : List Int) : Prop := ∀ i, i < l.length → mm_i h 158 (b + i) = zI (l.getD i 0)
theorem c127_w (hK : zSK h) (hl : zLs h b l) (hp : l.Pairwise (· < ·)) (hb : b + 9 ≤ 243) (hn : l.length ≤ 9) (hr : ∀ i, i < l.length → zr (l.getD i 0)) (rE : zr E) (h0 : l.getD 0 0 ≤ E) (v1 v3 v4 v7 : Value) (X : Prop)
    (HX : ∀ s, 1 ≤ s → s ≤ l.length → l.getD (s - 1) 0 ≤ E → (∀ i, s ≤ i → i < l.length → E < l.getD i 0) → (mm_wp d 127 91 [.ref 142, v1, .int (nI b), v3, v4, .int (zI E), .int (nI s), v7] [] h Q ↔ X)) :
    ∀ s, 1 ≤ s → s ≤ l.length → (∀ i, s ≤ i → i < l.length → E < l.getD i 0) → (mm_wp d 127 69 [.ref 142, v1, .int (nI b), v3, v4, .int (zI E), .int (nI s), v7] [] h Q ↔ X) := by
  intro s
  induction s with
  | zero => intro h1; omega
  | succ s ih =>
    intro h1 h2 h3
    have hin : mm_in (nI (b + s)) 243 = true := mm_inN (by omega) (by omega)
    have hcl : (nI (b + s)).toNatClampNeg = b + s := nI_clamp (by omega)
    have es := hl s (by omega)
    have eb : nI (b + (s + 1)) - 1 = nI (b + s) := nI_pred (b + s)
    have ei : nI (s + 1) + (-1 : Int32) = nI s := by
      rw [zI_n, zI_n, show (-1 : Int32) = zI (-1) from rfl, zI_add, show ((s + 1 : Nat) : Int) + -1 = (s : Int) by omega]
    rw [s127_69]
    simp only [s127_70, s127_73, s127_74, s127_76, s127_77, s127_78, s127_79, s127_80, s127_82, or_true, true_or, true_and, and_true, mm_o_some, mm_o_none, mm_bk_v, mm_bk_n, Nat.reduceAdd, kS142 hK, kR142_18 hK, kS158 hK, nI_add, eb, hin, hcl, es, zI_le (hr s (by omega)) rE]
    by_cases g : l.getD s 0 ≤ E
    · rw [if_pos g]
      exact HX (s + 1) h1 h2 g h3
    · rw [if_neg g]
      simp only [s127_85, s127_88, ei]
      by_cases e0 : s = 0
      · subst e0; exact absurd h0 g
      · refine ih (by omega) (by omega) (fun i i1 i2 => ?_)
        by_cases e : i = s
        · rw [e]; omega
        · exact h3 i (by omega) i2
theorem c127_sh (hb : b + 9 ≤ 243) (hs1 : 1 ≤ s) (hs : s ≤ l.length) (hn : l.length ≤ 8) (v1 v3 v4 v5 : Value) : ∀ m j h, s + m = j → j ≤ l.length → zSK h → (∀ i, i < j → mm_i h 158 (b + i) = zI (l.getD i 0)) → (∀ i, j < i → i ≤ l.length → mm_i h 158 (b + i) = zI (l.getD (i - 1) 0)) →
    (∀ h', zFr (fun x => x = 158) h h' → (∀ i, i < b ∨ b + 9 ≤ i → mm_i h' 158 i = mm_i h 158 i) → (∀ i, i < s → mm_i h' 158 (b + i) = zI (l.getD i 0)) → (∀ i, s < i → i ≤ l.length → mm_i h' 158 (b + i) = zI (l.getD (i - 1) 0)) → ∀ v7 : Value, mm_wp d 127 146 [.ref 142, v1, .int (nI b), v3, v4, v5, .int (nI s), v7] [] h' Q) →
    mm_wp d 127 113 [.ref 142, v1, .int (nI b), v3, v4, v5, .int (nI s), .int (nI j)] [] h Q := by
  intro m
  induction m with
  | zero =>
    intro j h hj hjl hK h1 h2 H
    obtain rfl : s = j := by omega
    rw [s127_113]
    simp only [s127_115, s127_117, s127_120, s127_121, s127_124, s127_125, s127_127, s127_128, s127_129, s127_132, s127_133, s127_135, s127_136, s127_137, s127_138, s127_139, s127_140, s127_143, or_true, true_or, true_and, and_true, mm_o_some, mm_o_none, mm_bk_v, mm_bk_n, Nat.reduceAdd, if_pos (Int32.le_refl (nI s))]
    exact H h zFr.refl (fun _ _ => rfl) h1 h2 _
  | succ m ih =>
    intro j h hj hjl hK h1 h2 H
    have c : ¬ nI j ≤ nI s := nI_ge (by omega) (by omega)
    have hin : mm_in (nI (b + j)) 243 = true := mm_inN (by omega) (by omega)
    have hcl : (nI (b + j)).toNatClampNeg = b + j := nI_clamp (by omega)
    have hin' : mm_in (nI (b + j - 1)) 243 = true := mm_inN (by omega) (by omega)
    have hcl' : (nI (b + j - 1)).toNatClampNeg = b + j - 1 := nI_clamp (by omega)
    have eb : nI (b + j) - 1 = nI (b + j - 1) := nI_m1 (by omega)
    have ei : nI j + (-1 : Int32) = nI (j - 1) := by
      rw [zI_n, zI_n, show (-1 : Int32) = zI (-1) from rfl, zI_add, show ((j - 1 : Nat) : Int) = (j : Int) + -1 by omega]
    have ev : mm_i h 158 (b + j - 1) = zI (l.getD (j - 1) 0) := by
      have := h1 (j - 1) (by omega)
      rw [show b + (j - 1) = b + j - 1 by omega] at this
      exact this
    have F1 : zFr (fun x => x = 158) h (mm_pi h 158 (b + j) (zI (l.getD (j - 1) 0))) := zFr.pi rfl
    rw [s127_113]
    simp only [s127_115, s127_117, s127_120, s127_121, s127_124, s127_125, s127_127, s127_128, s127_129, s127_132, s127_133, s127_135, s127_136, s127_137, s127_138, s127_139, s127_140, s127_143, or_true, true_or, true_and, and_true, mm_o_some, mm_o_none, mm_bk_v, mm_bk_n, Nat.reduceAdd, if_neg c, kS142 hK, kR142_18 hK, kS158 hK, nI_add, hin, hcl, eb, hin', hcl', ev, Nat.reduceEqDiff, not_false_eq_true, ei]
    refine ih (j - 1) _ (by omega) (by omega) (zFr.sk hK F1) (fun i hi => ?_) (fun i i1 i2 => ?_) (fun h' F' a1 a2 a3 v7 => H h' (F1.trans F') (fun i hi => ?_) a2 a3 v7)
    · rw [mm_i_pi, if_neg (by omega)]; exact h1 i (by omega)
    · rw [mm_i_pi]
      by_cases e : i = j
      · rw [if_pos ⟨rfl, by omega⟩, e]
      · rw [if_neg (by omega)]; exact h2 i (by omega) i2
    · rw [a1 i hi, mm_i_pi, if_neg (by omega)]
theorem getD_ins {E : Int} (hs : s ≤ l.length) : ∀ i, (l.take s ++ E :: l.drop s).getD i 0 = if i < s then l.getD i 0 else if i = s then E else l.getD (i - 1) 0 := by
  intro i
  rw [List.getD_eq_getElem?_getD, List.getElem?_append]
  simp only [List.length_take, Nat.min_eq_left hs]
  by_cases h1 : i < s
  · rw [if_pos h1, if_pos h1, List.getElem?_take_of_lt h1, List.getD_eq_getElem?_getD]
  · rw [if_neg h1, if_neg h1]
    by_cases h2 : i = s
    · subst h2
      simp
    · obtain ⟨k, rfl⟩ : ∃ k, i = s + 1 + k := ⟨i - s - 1, by omega⟩
      rw [if_neg h2, show s + 1 + k - s = k + 1 by omega, List.getElem?_cons_succ, List.getElem?_drop, show s + 1 + k - 1 = s + k by omega, List.getD_eq_getElem?_getD]
/-- the corners of an axis: one end comes in -/
theorem c127_k (hL8 : L ≤ 8) (oR : ∀ i, i < L → zOk (R i)) (ha : a < 3) : ∀ m k h, k + m = L → zSK h → zMr h L R → zLs h (27 * L + 9 * a) (zEnds R (6 + a) k) → ∀ v5 v6 v7 : Value,
    (∀ h', zFr (fun x => x = 158) h h' → (∀ i, i < 27 * L + 9 * a ∨ 27 * L + 9 * a + 9 ≤ i → mm_i h' 158 i = mm_i h 158 i) → zLs h' (27 * L + 9 * a) (zEnds R (6 + a) L) → ∀ v4 v5 v6 v7 : Value, mm_wp d 127 166 [.ref 142, .int (nI a), .int (nI (27 * L + 9 * a)), .int (nI (zEnds R (6 + a) L).length), v4, v5, v6, v7] [] h' Q) →
    mm_wp d 127 32 [.ref 142, .int (nI a), .int (nI (27 * L + 9 * a)), .int (nI (zEnds R (6 + a) k).length), .int (nI k), v5, v6, v7] [] h Q := by
  intro m
  induction m with
  | zero =>
    intro k h hk hK hR hl v5 v6 v7 H
    obtain rfl : k = L := by omega
    rw [s127_32]
    simp only [s127_34, s127_35, s127_38, s127_41, s127_42, s127_45, s127_46, s127_48, s127_49, s127_50, s127_51, s127_52, s127_53, s127_56, s127_57, s127_59, s127_60, s127_61, s127_62, s127_63, s127_64, s127_66, s127_67, or_true, true_or, true_and, and_true, mm_o_some, mm_o_none, mm_bk_v, mm_bk_n, Nat.reduceAdd, kS142 hK, hR.1, if_pos (Int32.le_refl (nI k))]
    exact H h zFr.refl (fun _ _ => rfl) hl _ v5 v6 v7
  | succ m ih =>
    intro k h hk hK hR hl v5 v6 v7 H
    have hkL : k < L := by omega
    have c : ¬ nI L ≤ nI k := nI_ge hkL (by omega)
    obtain ⟨g1, g2, g3, g4⟩ := hR.2.2 k hkL
    obtain ⟨p1, p2⟩ := g3 a ha
    have hin : mm_in (nI (3 * k + a)) 24 = true := mm_inN (by omega) (by omega)
    have hcl : (nI (3 * k + a)).toNatClampNeg = 3 * k + a := nI_clamp (by omega)
    have o := oR k hkL
    have e6 : R k (3 + a) + R k (9 + a) = R k (6 + a) ∧ 1 ≤ R k (6 + a) ∧ R k (6 + a) ≤ 600 := by
      simp only [zOk] at o
      have : a = 0 ∨ a = 1 ∨ a = 2 := by omega
      rcases this with rfl | rfl | rfl
      · show R k 3 + R k 9 = R k 6 ∧ 1 ≤ R k 6 ∧ R k 6 ≤ 600; omega
      · show R k 4 + R k 10 = R k 7 ∧ 1 ≤ R k 7 ∧ R k 7 ≤ 600; omega
      · show R k 5 + R k 11 = R k 8 ∧ 1 ≤ R k 8 ∧ R k 8 ≤ 600; omega
    obtain ⟨e6, r6, r6'⟩ := e6
    have ll := zEnds_len R (6 + a) k
    have pw := zEnds_pw (R := R) (k := 6 + a) k
    have lr : ∀ i, i < (zEnds R (6 + a) k).length → 0 ≤ (zEnds R (6 + a) k).getD i 0 ∧ (zEnds R (6 + a) k).getD i 0 ≤ 600 := by
      intro i hi
      rcases zEnds_mem k (getD_mem hi) with e | ⟨j, hj, e⟩
      · rw [e]; omega
      · have oj := oR j (by omega)
        rw [e]
        simp only [zOk] at oj
        have : a = 0 ∨ a = 1 ∨ a = 2 := by omega
        rcases this with rfl | rfl | rfl
        · show 0 ≤ R j 6 ∧ R j 6 ≤ 600; omega
        · show 0 ≤ R j 7 ∧ R j 7 ≤ 600; omega
        · show 0 ≤ R j 8 ∧ R j 8 ≤ 600; omega
    have f0 : (zEnds R (6 + a) k).getD 0 0 = 0 := by
      obtain ⟨tl, e, _⟩ := zEnds_0 (R := R) (k := 6 + a) k (fun i hi => by
        have oi := oR i (by omega)
        simp only [zOk] at oi
        have : a = 0 ∨ a = 1 ∨ a = 2 := by omega
        rcases this with rfl | rfl | rfl
        · show 1 ≤ R i 6; omega
        · show 1 ≤ R i 7; omega
        · show 1 ≤ R i 8; omega)
      rw [e]; rfl
    have en : zEnds R (6 + a) (k + 1) = zIns (R k (6 + a)) (zEnds R (6 + a) k) := rfl
    have ih' := ih (k + 1)
    rw [en] at ih'
    have rE : zr (R k (6 + a)) := by simp only [zr]; omega
    rw [s127_32]
    simp only [s127_34, s127_35, s127_38, s127_41, s127_42, s127_45, s127_46, s127_48, s127_49, s127_50, s127_51, s127_52, s127_53, s127_56, s127_57, s127_59, s127_60, s127_61, s127_62, s127_63, s127_64, s127_66, s127_67, or_true, true_or, true_and, and_true, mm_o_some, mm_o_none, mm_bk_v, mm_bk_n, Nat.reduceAdd, kS142 hK, kR142_11 hK, kR142_12 hK, kS151 hK, kS152 hK, hR.1, if_neg c, nI_3, nI_add, hin, hcl, p1, p2, zI_add, e6]
    generalize zEnds R (6 + a) k = l at *
    generalize R k (6 + a) = E at *
    -- what comes behind the search for the place
    have X : ∀ s, 1 ≤ s → s ≤ l.length → l.getD (s - 1) 0 ≤ E → (∀ i, s ≤ i → i < l.length → E < l.getD i 0) → mm_wp d 127 91 [.ref 142, .int (nI a), .int (nI (27 * L + 9 * a)), .int (nI l.length), .int (nI k), .int (zI E), .int (nI s), v7] [] h Q := by
      intro s s1 s2 s3 s4
      have hin1 : mm_in (nI (27 * L + 9 * a + s - 1)) 243 = true := mm_inN (by omega) (by omega)
      have hcl1 : (nI (27 * L + 9 * a + s - 1)).toNatClampNeg = 27 * L + 9 * a + s - 1 := nI_clamp (by omega)
      have eb : nI (27 * L + 9 * a + s) - 1 = nI (27 * L + 9 * a + s - 1) := nI_m1 (by omega)
      have ev : mm_i h 158 (27 * L + 9 * a + s - 1) = zI (l.getD (s - 1) 0) := by
        have := hl (s - 1) (by omega)
        rw [show 27 * L + 9 * a + (s - 1) = 27 * L + 9 * a + s - 1 by omega] at this
        exact this
      have rs : zr (l.getD (s - 1) 0) := by
        have := lr (s - 1) (by omega)
        simp only [zr]; omega
      by_cases ge : l.getD (s - 1) 0 = E
      · have el : zIns E l = l := by
          rw [zIns_spec E l (s - 1) (by omega) (fun i hi => by have := pw_getD pw (show i < s - 1 by omega) (by omega); omega) (fun _ => by omega), if_pos ⟨by omega, ge⟩]
        rw [el] at ih'
        simp only [s127_91, s127_92, s127_95, s127_96, s127_98, s127_99, s127_100, s127_101, s127_102, s127_104, s127_107, s127_110, s127_111, s127_160, s127_163, or_true, true_or, true_and, and_true, mm_o_some, mm_o_none, mm_bk_v, mm_bk_n, Nat.reduceAdd, kS142 hK, kR142_18 hK, kS158 hK, nI_add, eb, hin1, hcl1, ev, zI_eq rs rE, if_pos ge, nI_1]
        exact ih' h (by omega) hK hR hl _ _ _ H
      · have el : zIns E l = l.take s ++ E :: l.drop s := by
          rw [zIns_spec E l s s2 (fun i hi => ?_) (fun q => by have := s4 s (Nat.le_refl s) q; omega), if_neg (fun q => by have := s4 s (Nat.le_refl s) q.1; omega)]
          by_cases e : i = s - 1
          · rw [e]; omega
          · have := pw_getD pw (show i < s - 1 by omega) (by omega); omega
        have ell : (zIns E l).length = l.length + 1 := by
          rw [el, List.length_append, List.length_cons, List.length_take, List.length_drop]; omega
        rw [el] at ih' ell
        rw [ell] at ih'
        simp only [s127_91, s127_92, s127_95, s127_96, s127_98, s127_99, s127_100, s127_101, s127_102, s127_104, s127_107, s127_110, s127_111, s127_160, s127_163, or_true, true_or, true_and, and_true, mm_o_some, mm_o_none, mm_bk_v, mm_bk_n, Nat.reduceAdd, kS142 hK, kR142_18 hK, kS158 hK, nI_add, eb, hin1, hcl1, ev, zI_eq rs rE, if_neg ge]
        refine c127_sh (l := l) (s := s) (by omega) s1 s2 (by omega) _ _ _ _ (l.length - s) l.length h (by omega) (Nat.le_refl _) hK (fun i hi => hl i hi) (fun i i1 i2 => by omega) (fun h1 F1 a1 a2 a3 v7 => ?_)
        have K1 := zFr.sk hK F1
        have hin2 : mm_in (nI (27 * L + 9 * a + s)) 243 = true := mm_inN (by omega) (by omega)
        have hcl2 : (nI (27 * L + 9 * a + s)).toNatClampNeg = 27 * L + 9 * a + s := nI_clamp (by omega)
        simp only [s127_146, s127_147, s127_150, s127_151, s127_153, s127_154, s127_156, s127_157, s127_160, s127_163, or_true, true_or, true_and, and_true, mm_o_some, mm_o_none, mm_bk_v, mm_bk_n, Nat.reduceAdd, kS142 K1, kR142_18 K1, kS158 K1, nI_add, hin2, hcl2, Nat.reduceEqDiff, not_false_eq_true, nI_1]
        have F2 : zFr (fun x => x = 158) h1 (mm_pi h1 158 (27 * L + 9 * a + s) (zI E)) := zFr.pi rfl
        refine ih' _ (by omega) (zFr.sk K1 F2) (hR.fr (F1.trans F2) (fun x x1 x2 => by omega) (by rw [F2.i (by omega), F1.i (by omega)])) (fun i hi => ?_) _ _ _ (fun h' F' b1 => H h' ((F1.trans F2).trans F') (fun i hi => ?_))
        · rw [getD_ins s2, mm_i_pi]
          by_cases q1 : i < s
          · rw [if_neg (by omega), if_pos q1]; exact a2 i q1
          · by_cases q2 : i = s
            · rw [if_pos ⟨rfl, by omega⟩, if_neg q1, if_pos q2]
            · rw [if_neg (by omega), if_neg q1, if_neg q2]; exact a3 i (by omega) (by omega)
        · rw [b1 i hi, mm_i_pi, if_neg (by omega)]; exact a1 i hi
    exact (c127_w (l := l) (X := True) hK hl pw (by omega) (by omega) (fun i hi => by have := lr i hi; simp only [zr]; omega) rE (by rw [f0]; omega) (.int (nI a)) (.int (nI l.length)) (.int (nI k)) v7 (fun s s1 s2 s3 s4 => ⟨fun _ => trivial, fun _ => X s s1 s2 s3 s4⟩) l.length ll.1 (Nat.le_refl _) (fun i i1 i2 => by omega)).mpr trivial
theorem c127_a (hL8 : L ≤ 8) (oR : ∀ i, i < L → zOk (R i)) : ∀ m a h, a + m = 3 → zSK h → zMr h L R → (∀ b, b < a → mm_i h 159 (3 * L + b) = nI (zEnds R (6 + b) L).length ∧ zLs h (27 * L + 9 * b) (zEnds R (6 + b) L)) → ∀ v2 v3 v4 v5 v6 v7 : Value,
    (∀ h', zFr (fun x => x = 158 ∨ x = 159) h h' → (∀ i, i < 27 * L → mm_i h' 158 i = mm_i h 158 i) → (∀ i, i < 3 * L → mm_i h' 159 i = mm_i h 159 i) → (∀ b, b < 3 → mm_i h' 159 (3 * L + b) = nI (zEnds R (6 + b) L).length ∧ zLs h' (27 * L + 9 * b) (zEnds R (6 + b) L)) → ∀ v1 v2 v3 v4 v5 v6 v7 : Value, mm_wp d 127 186 [.ref 142, v1, v2, v3, v4, v5, v6, v7] [] h' Q) →
    mm_wp d 127 2 [.ref 142, .int (nI a), v2, v3, v4, v5, v6, v7] [] h Q := by
  intro m
  induction m with
  | zero =>
    intro a h ha hK hR hb v2 v3 v4 v5 v6 v7 H
    obtain rfl : a = 3 := by omega
    rw [s127_2]
    simp only [s127_3, s127_4, s127_7, s127_9, s127_10, s127_13, s127_14, s127_16, s127_17, s127_18, s127_19, s127_20, s127_21, s127_24, s127_25, s127_26, s127_27, s127_28, s127_29, s127_30, s127_32, s127_34, s127_35, s127_38, s127_41, s127_42, s127_45, s127_46, s127_48, s127_49, s127_50, s127_51, s127_52, s127_53, s127_56, s127_57, s127_59, s127_60, s127_61, s127_62, s127_63, s127_64, s127_66, s127_67, s127_69, s127_70, s127_73, s127_74, s127_76, s127_77, s127_78, s127_79, s127_80, s127_82, s127_85, s127_88, s127_91, s127_92, s127_95, s127_96, s127_98, s127_99, s127_100, s127_101, s127_102, s127_104, s127_107, s127_110, s127_111, s127_113, s127_115, s127_117, s127_120, s127_121, s127_124, s127_125, s127_127, s127_128, s127_129, s127_132, s127_133, s127_135, s127_136, s127_137, s127_138, s127_139, s127_140, s127_143, s127_146, s127_147, s127_150, s127_151, s127_153, s127_154, s127_156, s127_157, s127_160, s127_163, s127_166, s127_167, s127_170, s127_171, s127_172, s127_175, s127_176, s127_177, s127_178, s127_179, s127_180, s127_183, or_true, true_or, true_and, and_true, mm_o_some, mm_o_none, mm_bk_v, mm_bk_n, Nat.reduceAdd, if_pos (show (3 : Int32) ≤ nI 3 by decide)]
    exact H h zFr.refl (fun _ _ => rfl) (fun _ _ => rfl) hb _ v2 v3 v4 v5 v6 v7
  | succ m ih =>
    intro a h ha hK hR hb v2 v3 v4 v5 v6 v7 H
    have a3 : a < 3 := by omega
    have c : ¬ (3 : Int32) ≤ nI a := nI_ge (b := 3) a3 (by omega)
    have hin : mm_in (nI (27 * L + 9 * a)) 243 = true := mm_inN (by omega) (by omega)
    have hcl : (nI (27 * L + 9 * a)).toNatClampNeg = 27 * L + 9 * a := nI_clamp (by omega)
    have F1 : zFr (fun x => x = 158) h (mm_pi h 158 (27 * L + 9 * a) 0) := zFr.pi rfl
    have e0 : mm_i (mm_pi h 158 (27 * L + 9 * a) 0) 158 (27 * L + 9 * a) = 0 := by rw [mm_i_pi, if_pos ⟨rfl, rfl⟩]
    have es : ∀ i, ¬ i = 27 * L + 9 * a → mm_i (mm_pi h 158 (27 * L + 9 * a) 0) 158 i = mm_i h 158 i := fun i hi => by rw [mm_i_pi, if_neg (fun q => hi q.2)]
    rw [s127_2]
    simp only [s127_3, s127_4, s127_7, s127_9, s127_10, s127_13, s127_14, s127_16, s127_17, s127_18, s127_19, s127_20, s127_21, s127_24, s127_25, s127_26, s127_27, s127_28, s127_29, s127_30, or_true, true_or, true_and, and_true, mm_o_some, mm_o_none, mm_bk_v, mm_bk_n, Nat.reduceAdd, if_neg c, kS142 hK, kR142_18 hK, kS158 hK, hR.1, show (27 : Int32) = nI 27 from rfl, show (9 : Int32) = nI 9 from rfl, nI_mul, nI_add, hin, hcl, Nat.reduceEqDiff, not_false_eq_true]
    generalize mm_pi h 158 (27 * L + 9 * a) 0 = h1 at *
    have K1 := zFr.sk hK F1
    have R1 := hR.fr F1 (fun x x1 x2 => by omega) (by rw [F1.i (by omega)])
    have k0 := c127_k (d := d) (Q := Q) hL8 oR a3 L 0 h1 (by omega) K1 R1 (fun i hi => by
      have : i = 0 := by simpa [zEnds] using hi
      subst this
      rw [Nat.add_zero, e0]; rfl) v5 v6 v7
    rw [nI_lit0, show nI (zEnds R (6 + a) 0).length = 1 from rfl] at k0
    refine k0 (fun h2 F2 b1 b2 v4 v5 v6 v7 => ?_)
    have K2 := zFr.sk K1 F2
    have hin3 : mm_in (nI (3 * L + a)) 27 = true := mm_inN (by omega) (by omega)
    have hcl3 : (nI (3 * L + a)).toNatClampNeg = 3 * L + a := nI_clamp (by omega)
    have R2 := R1.fr F2 (fun x x1 x2 => by omega) (by rw [F2.i (by omega)])
    have F3 : zFr (fun x => x = 159) h2 (mm_pi h2 159 (3 * L + a) (nI (zEnds R (6 + a) L).length)) := zFr.pi rfl
    have F : zFr (fun x => x = 158 ∨ x = 159) h (mm_pi h2 159 (3 * L + a) (nI (zEnds R (6 + a) L).length)) := ((F1.mono (fun a ha => Or.inl ha)).trans (F2.mono (fun a ha => Or.inl ha))).trans (F3.mono (fun a ha => Or.inr ha))
    simp only [s127_166, s127_167, s127_170, s127_171, s127_172, s127_175, s127_176, s127_177, s127_178, s127_179, s127_180, s127_183, or_true, true_or, true_and, and_true, mm_o_some, mm_o_none, mm_bk_v, mm_bk_n, Nat.reduceAdd, kS142 K2, kR142_19 K2, kS159 K2, R2.1, nI_3, nI_add, hin3, hcl3, Nat.reduceEqDiff, not_false_eq_true, nI_1]
    refine ih (a + 1) _ (by omega) (zFr.sk K2 F3) (R2.fr F3 (fun x x1 x2 => by omega) (by rw [F3.i (by omega)])) (fun b hb' => ?_) _ _ _ _ _ _ (fun h' F' c1 c2 => H h' (F.trans F') (fun i hi => ?_) (fun i hi => ?_))
    · by_cases e : b = a
      · subst e
        exact ⟨by rw [mm_i_pi, if_pos ⟨rfl, rfl⟩], fun i hi => by rw [F3.i (by omega)]; exact b2 i hi⟩
      · obtain ⟨d1, d2⟩ := hb b (by omega)
        have lb := (zEnds_len R (6 + b) L).2
        refine ⟨by rw [mm_i_pi, if_neg (by omega), F2.i (by omega), F1.i (by omega)]; exact d1, fun i hi => ?_⟩
        rw [F3.i (by omega), b1 _ (by omega), es _ (by omega)]; exact d2 i hi
    · rw [c1 i hi, F3.i (by omega), b1 i (by omega), es i (by omega)]
    · rw [c2 i hi, mm_i_pi, if_neg (by omega), F2.i (by omega), F1.i (by omega)]
/-- where the search of a level goes on -/
def zMn (h : mm_H) (j p t c : Nat) : Prop := mm_i h 155 j = nI p ∧ mm_i h 156 j = nI t ∧ mm_i h 157 j = nI c
theorem c127z (hK : zSK h) (hR : zMr h L R) (oR : ∀ i, i < L → zOk (R i)) (v1 v2 v3 v4 v5 v6 v7 : Value)
    (H : ∀ h', zFr (fun x => 155 ≤ x ∧ x < 160) h h' → (∀ i, i < 27 * L → mm_i h' 158 i = mm_i h 158 i) → (∀ i, i < 3 * L → mm_i h' 159 i = mm_i h 159 i) → (∀ x, 155 ≤ x → x < 158 → ∀ i, ¬ i = L → mm_i h' x i = mm_i h x i) → zMe h' R L → zMn h' L 0 0 0 → Q (.inl none) h') :
    mm_wp d 127 0 [.ref 142, v1, v2, v3, v4, v5, v6, v7] [] h Q := by
  have hL8 := hR.2.1
  simp only [s127_0, s127_1]
  have l0 := c127_a (d := d) (Q := Q) hL8 oR 3 0 h (by omega) hK hR (fun b hb => by omega) v2 v3 v4 v5 v6 v7
  rw [nI_lit0] at l0
  refine l0 (fun h1 F1 a1 a2 a3 v1 v2 v3 v4 v5 v6 v7 => ?_)
  have K1 := zFr.sk hK F1
  have R1 := hR.fr F1 (fun x x1 x2 => by omega) (by rw [F1.i (by omega)])
  have hin : mm_in (nI L) 9 = true := mm_inN (by omega) (by omega)
  have hcl : (nI L).toNatClampNeg = L := nI_clamp (by omega)
  simp only [s127_186, s127_187, s127_190, s127_191, s127_194, s127_195, s127_196, s127_197, s127_200, s127_201, s127_204, s127_205, s127_206, s127_207, s127_210, s127_211, s127_214, s127_215, s127_216, or_true, true_or, true_and, and_true, mm_o_some, mm_o_none, mm_bk_v, mm_bk_n, Nat.reduceAdd, kS142 K1, kR142_15 K1, kR142_16 K1, kR142_17 K1, kS155 K1, kS156 K1, kS157 K1, mm_s_pi, mm_r_pi, mm_i_pi, R1.1, hin, hcl, Nat.reduceEqDiff, not_false_eq_true, false_and, if_false]
  have F2 : zFr (fun x => 155 ≤ x ∧ x < 160) h1 (mm_pi (mm_pi (mm_pi h1 155 L 0) 156 L 0) 157 L 0) := ((zFr.pi (by omega)).trans (zFr.pi (by omega))).trans (zFr.pi (by omega))
  have e158 : ∀ x, 158 ≤ x → ∀ i, mm_i (mm_pi (mm_pi (mm_pi h1 155 L 0) 156 L 0) 157 L 0) x i = mm_i h1 x i := fun x hx i => by rw [mm_i_pi, if_neg (by omega), mm_i_pi, if_neg (by omega), mm_i_pi, if_neg (by omega)]
  refine H _ ((F1.mono (fun a ha => by omega)).trans F2) (fun i hi => by rw [e158 158 (by omega)]; exact a1 i hi) (fun i hi => by rw [e158 159 (by omega)]; exact a2 i hi) (fun x x1 x2 i hi => ?_) (fun a ha => ?_) ?_
  · rw [mm_i_pi, if_neg (fun q => hi q.2), mm_i_pi, if_neg (fun q => hi q.2), mm_i_pi, if_neg (fun q => hi q.2), F1.i (by omega)]
  · obtain ⟨b1, b2⟩ := a3 a ha
    exact ⟨by rw [e158 159 (by omega)]; exact b1, fun i hi => by rw [e158 158 (by omega)]; exact b2 i hi⟩
  · refine ⟨?_, ?_, ?_⟩ <;> simp only [mm_i_pi, Nat.reduceEqDiff, false_and, if_false, true_and, if_true] <;> rfl
end
