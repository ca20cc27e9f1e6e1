/-! THE REFERENCE: A PIECE COMES -/
section
variable {d : Nat} {h h' : mm_H} {Q : mm_Q} {L n a b q t u i r e j k na bL told p : Nat} {W A : Nat → Int} {m mk : Int} {R bR : zR} {P : Nat → Nat → Int} {sp : Bool} {T : Nat → Prop} {x2 x3 x4 : Int32} {l : List Int} {x y z v w : Int} {C : Nat → Int}
theorem zAll_and (f g : Nat → Bool) : ∀ n, zAll (fun i => f i && g i) n = (zAll f n && zAll g n) := by
  intro n
  induction n with
  | zero => rfl
  | succ n ih =>
    simp only [zAll, ih]
    cases zAll f n <;> cases zAll g n <;> cases f n <;> cases g n <;> rfl
theorem zOkk_all : zAll (zOkk R C) L = (zAll (fun i => !zSh C (R i)) L && (zAll (fun i => !(decide (R i 14 < R i 15 + C 12) && zOv C (R i))) L && zAll (fun i => !(zSt C (R i) || zSt (R i) C)) L)) := by
  rw [← zAll_and, ← zAll_and]
  rfl
theorem c132z (hK : zSK h) (hG : zMg h W n P) (hR : zMr h L R) (hT : zTd h (P p) t) (hn : n ≤ 8) (hp : p < n) (t6 : t < 6) (hk : zPok (P p)) (wk : zWok W) (oR : ∀ i, i < L → zOk (R i)) (hRP : zRP P n L R) (rx : 0 ≤ x ∧ x ≤ 200) (ry : 0 ≤ y ∧ y ≤ 200) (rz : 0 ≤ z ∧ z ≤ 200) (v5 v6 v7 v8 v9 v10 v11 v12 v13 v14 : Value) : mm_wp (d + 1) 132 0 [.ref 142, .int (nI p), .int (zI x), .int (zI y), .int (zI z), v5, v6, v7, v8, v9, v10, v11, v12, v13, v14] [] h Q ↔ Q (.inl (some (.int (bI (zInB W (zC P p t x y z) && zAdm L R (zC P p t x y z)))))) h := by
  obtain ⟨q0, q1, q2⟩ := zTd_e hT
  have wr := zW_r (t := t) hk
  have oC := zC_ok (P := P) hk (show p < 8 by omega) t6 rx ry rz
  have wk' := wk
  simp only [zWok] at wk'
  have z1 : zr (x + zW (P p) t) := by simp only [zr]; omega
  have z2 : zr (y + zH (P p) t) := by simp only [zr]; omega
  have z3 : zr (z + zD (P p) t) := by simp only [zr]; omega
  have y1 : zr (W 0) := by simp only [zr]; omega
  have y2 : zr (W 1) := by simp only [zr]; omega
  have y3 : zr (W 2) := by simp only [zr]; omega
  have eB : zInB W (zC P p t x y z) = decide (x + zW (P p) t ≤ W 0 ∧ y + zH (P p) t ≤ W 1 ∧ z + zD (P p) t ≤ W 2) := rfl
  have c133 : ∀ (Q : mm_Q) (v4 : Value), mm_wp d 133 0 [.ref 142, .int (zI x), .int (zI y), .int (zI z), v4] [] h Q ↔ Q (.inl (some (.int (bI (decide (L = 0) || zPast (zC P p t x y z) (R (L - 1))))))) h := fun Q v4 => c133z (C := (zC P p t x y z)) hK hR oR oC v4
  have lp : ∀ (v7 v8 v9 v10 v11 v12 v13 v14 : Value), (mm_wp (d + 1) 132 71 [.ref 142, .int (nI p), .int (zI x), .int (zI y), .int (zI z), .int 0, .int 0, v7, v8, v9, v10, v11, v12, v13, v14] [] h Q ↔ Q (.inl (some (.int (bI (zAll (zOkk R (zC P p t x y z)) L && decide (y = 0 ∨ zSum (fun i => zRe (zC P p t x y z) (R i)) L = zW (P p) t * zD (P p) t)))))) h) := by
    intro v7 v8 v9 v10 v11 v12 v13 v14
    have := c132_loop (d := d) (Q := Q) hK hG hR hT hn hp t6 hk wk oR hRP rx ry rz L 0 (by omega) v7 v8 v9 v10 v11 v12 v13 v14
    rw [zAllF_all, nI_lit0] at this
    exact this
  have eA : zAdm L R (zC P p t x y z) = ((decide (L = 0) || zPast (zC P p t x y z) (R (L - 1))) && (decide (y = 0 ∨ zSum (fun i => zRe (zC P p t x y z) (R i)) L = zW (P p) t * zD (P p) t) && zAll (zOkk R (zC P p t x y z)) L)) := by
    rw [zOkk_all]
    rfl
  rw [eA, eB]
  by_cases g1 : W 0 < x + zW (P p) t
  · have g : ¬ (x + zW (P p) t ≤ W 0 ∧ y + zH (P p) t ≤ W 1 ∧ z + zD (P p) t ≤ W 2) := by omega
    rw [decide_eq_false g]
    simp only [s132_0, s132_1, s132_2, s132_5, s132_6, s132_7, s132_8, s132_9, s132_12, s132_13, s132_14, s132_17, s132_18, s132_19, s132_22, s132_23, s132_24, s132_25, s132_26, s132_29, s132_30, s132_31, s132_34, s132_36, s132_37, s132_40, s132_41, s132_42, s132_43, s132_44, s132_47, s132_48, s132_49, s132_52, s132_53, s132_54, s132_55, s132_57, s132_60, s132_63, s132_64, s132_65, s132_66, s132_68, s132_69, or_true, true_or, true_and, and_true, mm_o_some, mm_o_none, mm_bk_v, mm_bk_n, Nat.reduceAdd, kS142 hK, kR142_33 hK, kR142_1 hK, kS166 hK, kS143 hK, in3_0, cl_0, q0, hG.1 0 (by decide), zI_add, zI_lt y1 z1, if_pos g1, Bool.false_and, bI_f]
  · by_cases g2 : W 1 < y + zH (P p) t
    · have g : ¬ (x + zW (P p) t ≤ W 0 ∧ y + zH (P p) t ≤ W 1 ∧ z + zD (P p) t ≤ W 2) := by omega
      rw [decide_eq_false g]
      simp only [s132_0, s132_1, s132_2, s132_5, s132_6, s132_7, s132_8, s132_9, s132_12, s132_13, s132_14, s132_17, s132_18, s132_19, s132_22, s132_23, s132_24, s132_25, s132_26, s132_29, s132_30, s132_31, s132_34, s132_36, s132_37, s132_40, s132_41, s132_42, s132_43, s132_44, s132_47, s132_48, s132_49, s132_52, s132_53, s132_54, s132_55, s132_57, s132_60, s132_63, s132_64, s132_65, s132_66, s132_68, s132_69, or_true, true_or, true_and, and_true, mm_o_some, mm_o_none, mm_bk_v, mm_bk_n, Nat.reduceAdd, kS142 hK, kR142_33 hK, kR142_1 hK, kS166 hK, kS143 hK, in3_0, cl_0, in3_1, cl_1, q0, q1, hG.1 0 (by decide), hG.1 1 (by decide), zI_add, zI_lt y1 z1, zI_lt y2 z2, if_neg g1, if_pos g2, Bool.false_and, bI_f]
    · by_cases g3 : W 2 < z + zD (P p) t
      · have g : ¬ (x + zW (P p) t ≤ W 0 ∧ y + zH (P p) t ≤ W 1 ∧ z + zD (P p) t ≤ W 2) := by omega
        rw [decide_eq_false g]
        simp only [s132_0, s132_1, s132_2, s132_5, s132_6, s132_7, s132_8, s132_9, s132_12, s132_13, s132_14, s132_17, s132_18, s132_19, s132_22, s132_23, s132_24, s132_25, s132_26, s132_29, s132_30, s132_31, s132_34, s132_36, s132_37, s132_40, s132_41, s132_42, s132_43, s132_44, s132_47, s132_48, s132_49, s132_52, s132_53, s132_54, s132_55, s132_57, s132_60, s132_63, s132_64, s132_65, s132_66, s132_68, s132_69, or_true, true_or, true_and, and_true, mm_o_some, mm_o_none, mm_bk_v, mm_bk_n, Nat.reduceAdd, kS142 hK, kR142_33 hK, kR142_1 hK, kS166 hK, kS143 hK, in3_0, cl_0, in3_1, cl_1, in3_2, cl_2, q0, q1, q2, hG.1 0 (by decide), hG.1 1 (by decide), hG.1 2 (by decide), zI_add, zI_lt y1 z1, zI_lt y2 z2, zI_lt y3 z3, if_neg g1, if_neg g2, if_pos g3, Bool.false_and, bI_f]
      · have g : (x + zW (P p) t ≤ W 0 ∧ y + zH (P p) t ≤ W 1 ∧ z + zD (P p) t ≤ W 2) := by omega
        rw [decide_eq_true g, Bool.true_and]
        simp only [s132_0, s132_1, s132_2, s132_5, s132_6, s132_7, s132_8, s132_9, s132_12, s132_13, s132_14, s132_17, s132_18, s132_19, s132_22, s132_23, s132_24, s132_25, s132_26, s132_29, s132_30, s132_31, s132_34, s132_36, s132_37, s132_40, s132_41, s132_42, s132_43, s132_44, s132_47, s132_48, s132_49, s132_52, s132_53, s132_54, s132_55, s132_57, s132_60, s132_63, s132_64, s132_65, s132_66, s132_68, s132_69, or_true, true_or, true_and, and_true, mm_o_some, mm_o_none, mm_bk_v, mm_bk_n, Nat.reduceAdd, kS142 hK, kR142_33 hK, kR142_1 hK, kS166 hK, kS143 hK, in3_0, cl_0, in3_1, cl_1, in3_2, cl_2, q0, q1, q2, hG.1 0 (by decide), hG.1 1 (by decide), hG.1 2 (by decide), zI_add, zI_lt y1 z1, zI_lt y2 z2, zI_lt y3 z3, if_neg g1, if_neg g2, if_neg g3, c133]
        cases g4 : (decide (L = 0) || zPast (zC P p t x y z) (R (L - 1)))
        · simp only [bI_f, if_true, Bool.false_and]
        · rw [if_neg (show ¬ bI true = 0 by decide), lp, Bool.true_and, Bool.and_comm]
theorem zI_p0 (a : Int) : zI a + (0 : Int32) = zI a := by rw [show (0 : Int32) = zI 0 from rfl, zI_add, Int.add_zero]
theorem zI_m0 (a : Int) : zI a - (0 : Int32) = zI a := by rw [show (0 : Int32) = zI 0 from rfl, zI_sub, Int.sub_zero]
/-- the row while what the pieces bear is being changed -/
def zMix (R S : zR) (k : Nat) : zR := fun i => if i < k then S i else R i
theorem zMix_0 {S : zR} : zMix R S 0 = R := by
  funext i
  simp only [zMix, Nat.not_lt_zero, if_false]
theorem zMr.cg {S : zR} (H : zMr h L R) (e : ∀ k, k < L → R k = S k) : zMr h L S := ⟨H.1, H.2.1, fun k hk => by rw [← e k hk]; exact H.2.2 k hk⟩
theorem zMr.fr (H : zMr h L R) (F : zFr T h h') (hT : ∀ x, 149 ≤ x → x < 154 → ¬ T x) (e : mm_i h' 142 8 = mm_i h 142 8) : zMr h' L R := by
  obtain ⟨h1, h2, h3⟩ := H
  refine ⟨by rw [e]; exact h1, h2, fun k hk => ?_⟩
  obtain ⟨g1, g2, g3, g4⟩ := h3 k hk
  exact ⟨by rw [F.i (hT _ (by omega) (by omega))]; exact g1, by rw [F.i (hT _ (by omega) (by omega))]; exact g2, fun a ha => ⟨by rw [F.i (hT _ (by omega) (by omega))]; exact (g3 a ha).1, by rw [F.i (hT _ (by omega) (by omega))]; exact (g3 a ha).2⟩, by rw [F.i (hT _ (by omega) (by omega))]; exact g4⟩
/-- one piece's burden changed -/
theorem zMr.bear {S : zR} (H : zMr h L (zMix R S k)) (hk : k < L) (hS : ∀ i, i < L → ∀ j, ¬ j = 15 → S i j = R i j) : zMr (mm_pi h 153 k (zI (S k 15))) L (zMix R S (k + 1)) := by
  obtain ⟨h1, h2, h3⟩ := H
  refine ⟨by rw [mm_i_pi, if_neg (by omega)]; exact h1, h2, fun i hi => ?_⟩
  obtain ⟨g1, g2, g3, g4⟩ := h3 i hi
  have ej : ∀ j, ¬ j = 15 → zMix R S (k + 1) i j = zMix R S k i j := by
    intro j hj
    simp only [zMix]
    by_cases e1 : i < k
    · rw [if_pos (by omega), if_pos e1]
    · by_cases e2 : i < k + 1
      · rw [if_pos e2, if_neg e1, hS i hi j hj]
      · rw [if_neg e2, if_neg e1]
  refine ⟨by rw [mm_i_pi, if_neg (by omega), ej 1 (by decide)]; exact g1, by rw [mm_i_pi, if_neg (by omega), ej 2 (by decide)]; exact g2, fun a ha => ⟨by rw [mm_i_pi, if_neg (by omega), ej (9 + a) (by omega)]; exact (g3 a ha).1, by rw [mm_i_pi, if_neg (by omega), ej (3 + a) (by omega)]; exact (g3 a ha).2⟩, ?_⟩
  rw [mm_i_pi]
  by_cases e : i = k
  · rw [if_pos ⟨rfl, e⟩, e]
    simp only [zMix, if_pos (Nat.lt_succ_self k)]
  · rw [if_neg (fun q => e q.2), g4]
    congr 1
    simp only [zMix]
    by_cases e1 : i < k
    · rw [if_pos e1, if_pos (by omega)]
    · rw [if_neg e1, if_neg (by omega)]
theorem zMix_j {S : zR} (hS : ∀ i, i < L → ∀ j, ¬ j = 15 → S i j = R i j) (hi : i < L) {j : Nat} (hj : ¬ j = 15) : zMix R S k i j = R i j := by
  simp only [zMix]
  split
  · exact hS i hi j hj
  · rfl
theorem zMix_k {S : zR} (j : Nat) : zMix R S k k j = R k j := by
  simp only [zMix, if_neg (Nat.lt_irrefl k)]
theorem zMix_ok {S : zR} (h1 : ∀ i, i < L → zOk (R i)) (h2 : ∀ i, i < L → zOk (S i)) : ∀ i, i < L → zOk (zMix R S k i) := by
  intro i hi
  simp only [zMix]
  split
  · exact h2 i hi
  · exact h1 i hi
theorem zPush_ok (oR : ∀ i, i < L → zOk (R i)) (hb : ∀ i, i < L → R i 15 ≤ 10000 * (L : Int)) (h8 : L < 8) (oC : zOk C) : ∀ i, i < L → zOk (zPush L R C i) := by
  intro i hi
  have o := oR i hi
  have b := hb i hi
  have p15 := zPush_15 (R := R) (C := C) hi
  have b15 : 0 ≤ zPush L R C i 15 ∧ zPush L R C i 15 ≤ 1000000 := by
    simp only [zOk] at o oC
    rw [p15]
    split <;> omega
  simp only [zOk] at o
  simp only [zOk, zPush_k (R := R) (C := C) (L := L) hi (k := 1) (by decide), zPush_k (R := R) (C := C) (L := L) hi (k := 2) (by decide), zPush_k (R := R) (C := C) (L := L) hi (k := 3) (by decide), zPush_k (R := R) (C := C) (L := L) hi (k := 4) (by decide), zPush_k (R := R) (C := C) (L := L) hi (k := 5) (by decide), zPush_k (R := R) (C := C) (L := L) hi (k := 6) (by decide), zPush_k (R := R) (C := C) (L := L) hi (k := 7) (by decide), zPush_k (R := R) (C := C) (L := L) hi (k := 8) (by decide), zPush_k (R := R) (C := C) (L := L) hi (k := 9) (by decide), zPush_k (R := R) (C := C) (L := L) hi (k := 10) (by decide), zPush_k (R := R) (C := C) (L := L) hi (k := 11) (by decide), zPush_k (R := R) (C := C) (L := L) hi (k := 12) (by decide), zPush_k (R := R) (C := C) (L := L) hi (k := 13) (by decide), zPush_k (R := R) (C := C) (L := L) hi (k := 14) (by decide)]
  omega
theorem c135_l1 (hK : zSK h) (hG : zMg h W n P) (hR : zMr h L R) (hT : zTd h (P p) t) (hn : n ≤ 8) (hp : p < n) (t6 : t < 6) (hk : zPok (P p)) (wk : zWok W) (oR : ∀ i, i < L → zOk (R i)) (hRP : zRP P n L R) (rx : 0 ≤ x ∧ x ≤ 200) (ry : 0 ≤ y ∧ y ≤ 200) (rz : 0 ≤ z ∧ z ≤ 200) (hb : ∀ i, i < L → R i 15 ≤ 10000 * (L : Int)) (h8 : L < 8) (v2 : Value) : ∀ m k h, k + m = L → zSK h → zMg h W n P → zMr h L (zMix R (zPush L R (zC P p t x y z)) k) → zTd h (P p) t → ∀ v7 : Value,
    (∀ h', zFr (fun x => x = 153) h h' → zMr h' L (zMix R (zPush L R (zC P p t x y z)) L) → ∀ v7 : Value, mm_wp (d + 1) 135 113 [.ref 142, .int (nI p), v2, .int (zI x), .int (zI y), .int (zI z), .int (nI L), v7] [] h' Q) →
    mm_wp (d + 1) 135 3 [.ref 142, .int (nI p), v2, .int (zI x), .int (zI y), .int (zI z), .int (nI k), v7] [] h Q := by
  have wr := zW_r (t := t) hk
  have oC := zC_ok (P := P) hk (show p < 8 by omega) t6 rx ry rz
  have oS := zPush_ok oR hb h8 oC
  have hS : ∀ i, i < L → ∀ j, ¬ j = 15 → zPush L R (zC P p t x y z) i j = R i j := fun i hi j hj => zPush_k hi hj
  have kp := hk
  simp only [zPok] at kp
  intro m
  induction m with
  | zero =>
    intro k h hkL hK hG hR hT v7 K
    obtain rfl : k = L := by omega
    rw [s135_3]
    simp only [s135_5, s135_6, s135_9, s135_12, s135_13, s135_15, s135_16, s135_17, s135_18, s135_21, s135_22, s135_23, s135_26, s135_29, s135_30, s135_32, s135_33, s135_35, s135_36, s135_39, s135_40, s135_41, s135_44, s135_47, s135_48, s135_51, s135_52, s135_54, s135_55, s135_58, s135_60, s135_61, s135_62, s135_64, s135_67, s135_69, s135_70, s135_73, s135_74, s135_76, s135_77, s135_78, s135_79, s135_80, s135_81, s135_84, s135_85, s135_87, s135_88, s135_89, s135_90, s135_91, s135_92, s135_95, s135_96, s135_99, s135_100, s135_101, s135_104, s135_105, s135_106, s135_107, s135_110, or_true, true_or, true_and, and_true, mm_o_some, mm_o_none, mm_bk_v, mm_bk_n, Nat.reduceAdd, kS142 hK, hR.1, if_pos (Int32.le_refl (nI k))]
    exact K h zFr.refl hR v7
  | succ m ih =>
    intro k h hkL hK hG hR hT v7 K
    have hk' : k < L := by omega
    obtain ⟨q0, q1, q2⟩ := zTd_e hT
    have c : ¬ nI L ≤ nI k := nI_ge hk' (by omega)
    obtain ⟨g1, g2, g3, g4⟩ := hR.2.2 k hk'
    have pp := (g3 1 (by decide))
    have e1 : mm_i h 151 (3 * k + 1) = zI (R k 10) := by rw [pp.1, zMix_k]
    have e2 : mm_i h 152 (3 * k + 1) = zI (R k 4) := by rw [pp.2, zMix_k]
    have e15 : mm_i h 153 k = zI (R k 15) := by rw [g4, zMix_k]
    have ew : mm_i h 145 p = zI (P p 6) := (hG.2.2 p hp).2.1
    have hin1 : mm_in (nI (3 * k + 1)) 24 = true := mm_inN (by omega) (by omega)
    have hcl1 : (nI (3 * k + 1)).toNatClampNeg = 3 * k + 1 := nI_clamp (by omega)
    have hin : mm_in (nI k) 8 = true := mm_inN (by omega) (by omega)
    have hcl : (nI k).toNatClampNeg = k := nI_clamp (by omega)
    have hinp : mm_in (nI p) 8 = true := mm_inN (by omega) (by omega)
    have hclp : (nI p).toNatClampNeg = p := nI_clamp (by omega)
    have o := oR k hk'
    have o' := o
    simp only [zOk] at o'
    have om := zMix_ok (k := k) oR oS k hk'
    have c0 : ∀ (Q : mm_Q) (v5 v6 v7 v8 : Value), mm_wp d 134 0 [.ref 142, .int (nI k), .int 0, .int (zI x), .int (zI (zW (P p) t)), v5, v6, v7, v8] [] h Q ↔ Q (.inl (some (.int (zI (zCo x (x + zW (P p) t) (R k 3) (R k 6)))))) h := by
      intro Q v5 v6 v7 v8
      have := c134_0 (d := d) (Q := Q) hK hR hk' om rx wr.1 v5 v6 v7 v8
      rw [zMix_k, zMix_k] at this
      exact this
    have c2 : ∀ (Q : mm_Q) (v5 v6 v7 v8 : Value), mm_wp d 134 0 [.ref 142, .int (nI k), .int 2, .int (zI z), .int (zI (zD (P p) t)), v5, v6, v7, v8] [] h Q ↔ Q (.inl (some (.int (zI (zCo z (z + zD (P p) t) (R k 5) (R k 8)))))) h := by
      intro Q v5 v6 v7 v8
      have := c134_2 (d := d) (Q := Q) hK hR hk' om rz wr.2.2 v5 v6 v7 v8
      rw [zMix_k, zMix_k] at this
      exact this
    have b1 := zCo_r (a := x) (b := x + zW (P p) t) (c := R k 3) (e := R k 6) (by omega) (by omega) (by omega) (by omega)
    have b3 := zCo_r (a := z) (b := z + zD (P p) t) (c := R k 5) (e := R k 8) (by omega) (by omega) (by omega) (by omega)
    have p1 := zCo_p (a := x) (b := x + zW (P p) t) (c := R k 3) (e := R k 6) (by omega) (by omega)
    have p3 := zCo_p (a := z) (b := z + zD (P p) t) (c := R k 5) (e := R k 8) (by omega) (by omega)
    have r0 : zr 0 := by simp only [zr]; omega
    have r1 : zr (zCo x (x + zW (P p) t) (R k 3) (R k 6)) := by simp only [zr]; omega
    have r3 : zr (zCo z (z + zD (P p) t) (R k 5) (R k 8)) := by simp only [zr]; omega
    have i1 : (zI (zCo x (x + zW (P p) t) (R k 3) (R k 6))) ≤ (0 : Int32) ↔ zCo x (x + zW (P p) t) (R k 3) (R k 6) ≤ 0 := zI_le r1 r0
    have i3 : (zI (zCo z (z + zD (P p) t) (R k 5) (R k 8))) ≤ (0 : Int32) ↔ zCo z (z + zD (P p) t) (R k 5) (R k 8) ≤ 0 := zI_le r3 r0
    have e7 : R k 4 + R k 10 = R k 7 := by omega
    have z1 : zr (R k 7) := o.r 7 (by decide) (by decide)
    have z2 : zr y := by simp only [zr]; omega
    have ev : zOv (zC P p t x y z) (R k) = decide (R k 7 ≤ y ∧ (x < R k 6 ∧ R k 3 < x + zW (P p) t) ∧ z < R k 8 ∧ R k 5 < z + zD (P p) t) := rfl
    have e12 : (zC P p t x y z) 12 = P p 6 := rfl
    have p15 := zPush_15 (R := R) (C := (zC P p t x y z)) hk'
    rw [ev, e12] at p15
    simp only [decide_eq_true_eq] at p15
    have F1 : zFr (fun x => x = 153) h (mm_pi h 153 k (zI (zPush L R (zC P p t x y z) k 15))) := zFr.pi rfl
    have R1 := hR.bear hk' hS
    have fin : ∀ v7 : Value, mm_wp (d + 1) 135 3 [.ref 142, .int (nI p), v2, .int (zI x), .int (zI y), .int (zI z), .int (nI (k + 1)), v7] [] (mm_pi h 153 k (zI (zPush L R (zC P p t x y z) k 15))) Q := fun v7 => ih (k + 1) _ (by omega) (zFr.sk hK F1) (hG.fr F1 (fun x x1 x2 => by omega) (by rw [F1.i (by omega)])) R1 (fun a ha => by rw [F1.i (by omega)]; exact hT a ha) v7 (fun h' F' => K h' (F1.trans F'))
    rw [s135_3]
    by_cases a1 : x < R k 6 ∧ R k 3 < x + zW (P p) t
    · by_cases a3 : z < R k 8 ∧ R k 5 < z + zD (P p) t
      · by_cases a0 : y < R k 7
        · rw [if_neg (by omega)] at p15
          rw [p15] at fin
          simp only [s135_5, s135_6, s135_9, s135_12, s135_13, s135_15, s135_16, s135_17, s135_18, s135_21, s135_22, s135_23, s135_26, s135_29, s135_30, s135_32, s135_33, s135_35, s135_36, s135_39, s135_40, s135_41, s135_44, s135_47, s135_48, s135_51, s135_52, s135_54, s135_55, s135_58, s135_60, s135_61, s135_62, s135_64, s135_67, s135_69, s135_70, s135_73, s135_74, s135_76, s135_77, s135_78, s135_79, s135_80, s135_81, s135_84, s135_85, s135_87, s135_88, s135_89, s135_90, s135_91, s135_92, s135_95, s135_96, s135_99, s135_100, s135_101, s135_104, s135_105, s135_106, s135_107, s135_110, or_true, true_or, true_and, and_true, mm_o_some, mm_o_none, mm_bk_v, mm_bk_n, Nat.reduceAdd, kS142 hK, hR.1, if_neg c, kR142_33 hK, kS166 hK, in3_0, in3_2, cl_0, cl_2, q0, q2, c0, c2, i1, i3, p1, p3, a1, a3, and_self, not_true_eq_false, if_false, if_neg n10, kR142_13 hK, kS153 hK, hin, hcl, e15, kR142_12 hK, kR142_11 hK, kS152 hK, kS151 hK, nI_3, nI_1, hin1, hcl1, e1, e2, zI_add, e7, zI_lt z2 z1, if_pos a0, zI_p0, Nat.reduceEqDiff, not_false_eq_true]
          exact fin _
        · rw [if_pos (by omega)] at p15
          rw [p15] at fin
          simp only [s135_5, s135_6, s135_9, s135_12, s135_13, s135_15, s135_16, s135_17, s135_18, s135_21, s135_22, s135_23, s135_26, s135_29, s135_30, s135_32, s135_33, s135_35, s135_36, s135_39, s135_40, s135_41, s135_44, s135_47, s135_48, s135_51, s135_52, s135_54, s135_55, s135_58, s135_60, s135_61, s135_62, s135_64, s135_67, s135_69, s135_70, s135_73, s135_74, s135_76, s135_77, s135_78, s135_79, s135_80, s135_81, s135_84, s135_85, s135_87, s135_88, s135_89, s135_90, s135_91, s135_92, s135_95, s135_96, s135_99, s135_100, s135_101, s135_104, s135_105, s135_106, s135_107, s135_110, or_true, true_or, true_and, and_true, mm_o_some, mm_o_none, mm_bk_v, mm_bk_n, Nat.reduceAdd, kS142 hK, hR.1, if_neg c, kR142_33 hK, kS166 hK, in3_0, in3_2, cl_0, cl_2, q0, q2, c0, c2, i1, i3, p1, p3, a1, a3, and_self, not_true_eq_false, if_false, if_neg n10, kR142_13 hK, kR142_4 hK, kS153 hK, kS145 hK, hin, hcl, hinp, hclp, e15, ew, kR142_12 hK, kR142_11 hK, kS152 hK, kS151 hK, nI_3, nI_1, hin1, hcl1, e1, e2, zI_add, e7, zI_lt z2 z1, if_neg a0, Nat.reduceEqDiff, not_false_eq_true]
          exact fin _
      · rw [if_neg (by omega)] at p15
        rw [p15] at fin
        simp only [s135_5, s135_6, s135_9, s135_12, s135_13, s135_15, s135_16, s135_17, s135_18, s135_21, s135_22, s135_23, s135_26, s135_29, s135_30, s135_32, s135_33, s135_35, s135_36, s135_39, s135_40, s135_41, s135_44, s135_47, s135_48, s135_51, s135_52, s135_54, s135_55, s135_58, s135_60, s135_61, s135_62, s135_64, s135_67, s135_69, s135_70, s135_73, s135_74, s135_76, s135_77, s135_78, s135_79, s135_80, s135_81, s135_84, s135_85, s135_87, s135_88, s135_89, s135_90, s135_91, s135_92, s135_95, s135_96, s135_99, s135_100, s135_101, s135_104, s135_105, s135_106, s135_107, s135_110, or_true, true_or, true_and, and_true, mm_o_some, mm_o_none, mm_bk_v, mm_bk_n, Nat.reduceAdd, kS142 hK, hR.1, if_neg c, kR142_33 hK, kS166 hK, in3_0, in3_2, cl_0, cl_2, q0, q2, c0, c2, i1, i3, p1, p3, a1, a3, and_self, not_true_eq_false, not_false_eq_true, if_false, if_true, kR142_13 hK, kS153 hK, hin, hcl, e15, nI_1]
        simp only [s135_5, s135_6, s135_9, s135_12, s135_13, s135_15, s135_16, s135_17, s135_18, s135_21, s135_22, s135_23, s135_26, s135_29, s135_30, s135_32, s135_33, s135_35, s135_36, s135_39, s135_40, s135_41, s135_44, s135_47, s135_48, s135_51, s135_52, s135_54, s135_55, s135_58, s135_60, s135_61, s135_62, s135_64, s135_67, s135_69, s135_70, s135_73, s135_74, s135_76, s135_77, s135_78, s135_79, s135_80, s135_81, s135_84, s135_85, s135_87, s135_88, s135_89, s135_90, s135_91, s135_92, s135_95, s135_96, s135_99, s135_100, s135_101, s135_104, s135_105, s135_106, s135_107, s135_110, or_true, true_or, true_and, and_true, mm_o_some, mm_o_none, mm_bk_v, mm_bk_n, Nat.reduceAdd, show (0 : Int32) = zI 0 from rfl, zI_add, Int.add_zero, kS153 hK, hin, hcl, Nat.reduceEqDiff, not_false_eq_true, nI_1]
        exact fin _
    · rw [if_neg (by omega)] at p15
      rw [p15] at fin
      simp only [s135_5, s135_6, s135_9, s135_12, s135_13, s135_15, s135_16, s135_17, s135_18, s135_21, s135_22, s135_23, s135_26, s135_29, s135_30, s135_32, s135_33, s135_35, s135_36, s135_39, s135_40, s135_41, s135_44, s135_47, s135_48, s135_51, s135_52, s135_54, s135_55, s135_58, s135_60, s135_61, s135_62, s135_64, s135_67, s135_69, s135_70, s135_73, s135_74, s135_76, s135_77, s135_78, s135_79, s135_80, s135_81, s135_84, s135_85, s135_87, s135_88, s135_89, s135_90, s135_91, s135_92, s135_95, s135_96, s135_99, s135_100, s135_101, s135_104, s135_105, s135_106, s135_107, s135_110, or_true, true_or, true_and, and_true, mm_o_some, mm_o_none, mm_bk_v, mm_bk_n, Nat.reduceAdd, kS142 hK, hR.1, if_neg c, kR142_33 hK, kS166 hK, in3_0, cl_0, q0, c0, i1, p1, a1, not_false_eq_true, if_true, kR142_13 hK, kS153 hK, hin, hcl, e15, nI_1]
      simp only [s135_5, s135_6, s135_9, s135_12, s135_13, s135_15, s135_16, s135_17, s135_18, s135_21, s135_22, s135_23, s135_26, s135_29, s135_30, s135_32, s135_33, s135_35, s135_36, s135_39, s135_40, s135_41, s135_44, s135_47, s135_48, s135_51, s135_52, s135_54, s135_55, s135_58, s135_60, s135_61, s135_62, s135_64, s135_67, s135_69, s135_70, s135_73, s135_74, s135_76, s135_77, s135_78, s135_79, s135_80, s135_81, s135_84, s135_85, s135_87, s135_88, s135_89, s135_90, s135_91, s135_92, s135_95, s135_96, s135_99, s135_100, s135_101, s135_104, s135_105, s135_106, s135_107, s135_110, or_true, true_or, true_and, and_true, mm_o_some, mm_o_none, mm_bk_v, mm_bk_n, Nat.reduceAdd, show (0 : Int32) = zI 0 from rfl, zI_add, Int.add_zero, kS153 hK, hin, hcl, Nat.reduceEqDiff, not_false_eq_true, nI_1]
      exact fin _
end
