/-! SMALL METHODS OF THE CLASS -/
theorem nI_lit0 : nI 0 = 0 := rfl
theorem nI_lit1 : nI 1 = 1 := rfl
theorem nI_lit2 : nI 2 = 2 := rfl
theorem nI_lit3 : nI 3 = 3 := rfl
theorem nI_lit4 : nI 4 = 4 := rfl
theorem nI_lit5 : nI 5 = 5 := rfl
theorem z6 {t : Nat} (h : t < 6) : t = 0 ∨ t = 1 ∨ t = 2 ∨ t = 3 ∨ t = 4 ∨ t = 5 := by omega
/-- a piece's numbers -/
def zPc (h : mm_H) (a : Nat) (p : Nat → Int) : Prop := (mm_s h a).1 = 5 ∧ ∀ k, 3 ≤ k → k ≤ 9 → mm_i h a k = zI (p k)
def zSe (h : mm_H) (e : Nat) : Prop := (mm_s h e).1 = 3 ∧ mm_r h e 0 = some (e + 1) ∧ mm_r h e 1 = some (e + 10) ∧ mm_s h (e + 1) = (26, 8) ∧ mm_s h (e + 10) = (20, 8) ∧ ∀ i, i < 8 → mm_r h (e + 1) i = some (e + 2 + i) ∧ mm_s h (e + 2 + i) = (20, 8)
/-- the ends of length j in the cells of e -/
def zEd (h : mm_H) (e j : Nat) (l : List Int) : Prop := mm_i h (e + 10) j = nI l.length ∧ l.length ≤ 8 ∧ ∀ i, i < l.length → mm_i h (e + 2 + j) i = zI (l.getD i 0)
section
variable {d : Nat} {h : mm_H} {Q : mm_Q} {a b c r L t e j i q : Nat} {x x2 x3 : Int32} {p A C : Nat → Int} {R : zR} {l : List Int} {y v : Int}

theorem c35z (hp : zPc h a p) (ht : t < 6) : mm_wp d 35 0 [.ref a, .int (nI t)] [] h Q ↔ Q (.inl (some (.int (zI (zW p t))))) h := by
  obtain ⟨p1, p2⟩ := hp
  rcases z6 ht with rfl | rfl | rfl | rfl | rfl | rfl
  · simp only [s35_0, s35_1_1, s35_1_2, s35_1_3, s35_1_4, s35_1_5, s35_36, s35_37, s35_40, s35_41, s35_42, s35_45, s35_46, s35_47, s35_50, nI_lit0, s35_1d (x := (0 : Int32)) (by decide), or_true, true_or, true_and, and_true, mm_o_some, mm_o_none, mm_bk_v, mm_bk_n, Nat.reduceAdd, p1, p2, Nat.reduceLeDiff, Nat.le_refl]
    rfl

  · simp only [s35_0, s35_1_1, s35_1_2, s35_1_3, s35_1_4, s35_1_5, s35_36, s35_37, s35_40, s35_41, s35_42, s35_45, s35_46, s35_47, s35_50, nI_lit1, or_true, true_or, true_and, and_true, mm_o_some, mm_o_none, mm_bk_v, mm_bk_n, Nat.reduceAdd, p1, p2, Nat.reduceLeDiff, Nat.le_refl]
    rfl

  · simp only [s35_0, s35_1_1, s35_1_2, s35_1_3, s35_1_4, s35_1_5, s35_36, s35_37, s35_40, s35_41, s35_42, s35_45, s35_46, s35_47, s35_50, nI_lit2, or_true, true_or, true_and, and_true, mm_o_some, mm_o_none, mm_bk_v, mm_bk_n, Nat.reduceAdd, p1, p2, Nat.reduceLeDiff, Nat.le_refl]
    rfl

  · simp only [s35_0, s35_1_1, s35_1_2, s35_1_3, s35_1_4, s35_1_5, s35_36, s35_37, s35_40, s35_41, s35_42, s35_45, s35_46, s35_47, s35_50, nI_lit3, or_true, true_or, true_and, and_true, mm_o_some, mm_o_none, mm_bk_v, mm_bk_n, Nat.reduceAdd, p1, p2, Nat.reduceLeDiff, Nat.le_refl]
    rfl

  · simp only [s35_0, s35_1_1, s35_1_2, s35_1_3, s35_1_4, s35_1_5, s35_36, s35_37, s35_40, s35_41, s35_42, s35_45, s35_46, s35_47, s35_50, nI_lit4, or_true, true_or, true_and, and_true, mm_o_some, mm_o_none, mm_bk_v, mm_bk_n, Nat.reduceAdd, p1, p2, Nat.reduceLeDiff, Nat.le_refl]
    rfl

  · simp only [s35_0, s35_1_1, s35_1_2, s35_1_3, s35_1_4, s35_1_5, s35_36, s35_37, s35_40, s35_41, s35_42, s35_45, s35_46, s35_47, s35_50, nI_lit5, or_true, true_or, true_and, and_true, mm_o_some, mm_o_none, mm_bk_v, mm_bk_n, Nat.reduceAdd, p1, p2, Nat.reduceLeDiff, Nat.le_refl]
    rfl

theorem c36z (hp : zPc h a p) (ht : t < 6) : mm_wp d 36 0 [.ref a, .int (nI t)] [] h Q ↔ Q (.inl (some (.int (zI (zH p t))))) h := by
  obtain ⟨p1, p2⟩ := hp
  rcases z6 ht with rfl | rfl | rfl | rfl | rfl | rfl
  · simp only [s36_0, s36_1_2, s36_1_3, s36_1_4, s36_1_5, s36_32, s36_33, s36_36, s36_37, s36_38, s36_41, s36_42, s36_43, s36_46, nI_lit0, s36_1d (x := (0 : Int32)) (by decide), or_true, true_or, true_and, and_true, mm_o_some, mm_o_none, mm_bk_v, mm_bk_n, Nat.reduceAdd, p1, p2, Nat.reduceLeDiff, Nat.le_refl]
    rfl

  · simp only [s36_0, s36_1_2, s36_1_3, s36_1_4, s36_1_5, s36_32, s36_33, s36_36, s36_37, s36_38, s36_41, s36_42, s36_43, s36_46, nI_lit1, s36_1d (x := (1 : Int32)) (by decide), or_true, true_or, true_and, and_true, mm_o_some, mm_o_none, mm_bk_v, mm_bk_n, Nat.reduceAdd, p1, p2, Nat.reduceLeDiff, Nat.le_refl]
    rfl

  · simp only [s36_0, s36_1_2, s36_1_3, s36_1_4, s36_1_5, s36_32, s36_33, s36_36, s36_37, s36_38, s36_41, s36_42, s36_43, s36_46, nI_lit2, or_true, true_or, true_and, and_true, mm_o_some, mm_o_none, mm_bk_v, mm_bk_n, Nat.reduceAdd, p1, p2, Nat.reduceLeDiff, Nat.le_refl]
    rfl

  · simp only [s36_0, s36_1_2, s36_1_3, s36_1_4, s36_1_5, s36_32, s36_33, s36_36, s36_37, s36_38, s36_41, s36_42, s36_43, s36_46, nI_lit3, or_true, true_or, true_and, and_true, mm_o_some, mm_o_none, mm_bk_v, mm_bk_n, Nat.reduceAdd, p1, p2, Nat.reduceLeDiff, Nat.le_refl]
    rfl

  · simp only [s36_0, s36_1_2, s36_1_3, s36_1_4, s36_1_5, s36_32, s36_33, s36_36, s36_37, s36_38, s36_41, s36_42, s36_43, s36_46, nI_lit4, or_true, true_or, true_and, and_true, mm_o_some, mm_o_none, mm_bk_v, mm_bk_n, Nat.reduceAdd, p1, p2, Nat.reduceLeDiff, Nat.le_refl]
    rfl

  · simp only [s36_0, s36_1_2, s36_1_3, s36_1_4, s36_1_5, s36_32, s36_33, s36_36, s36_37, s36_38, s36_41, s36_42, s36_43, s36_46, nI_lit5, or_true, true_or, true_and, and_true, mm_o_some, mm_o_none, mm_bk_v, mm_bk_n, Nat.reduceAdd, p1, p2, Nat.reduceLeDiff, Nat.le_refl]
    rfl

theorem c37z (hp : zPc h a p) (ht : t < 6) : mm_wp d 37 0 [.ref a, .int (nI t)] [] h Q ↔ Q (.inl (some (.int (zI (zD p t))))) h := by
  obtain ⟨p1, p2⟩ := hp
  rcases z6 ht with rfl | rfl | rfl | rfl | rfl | rfl
  · simp only [s37_0, s37_1_1, s37_1_2, s37_1_3, s37_1_4, s37_1_5, s37_36, s37_37, s37_40, s37_41, s37_42, s37_45, s37_46, s37_47, s37_50, nI_lit0, s37_1d (x := (0 : Int32)) (by decide), or_true, true_or, true_and, and_true, mm_o_some, mm_o_none, mm_bk_v, mm_bk_n, Nat.reduceAdd, p1, p2, Nat.reduceLeDiff, Nat.le_refl]
    rfl

  · simp only [s37_0, s37_1_1, s37_1_2, s37_1_3, s37_1_4, s37_1_5, s37_36, s37_37, s37_40, s37_41, s37_42, s37_45, s37_46, s37_47, s37_50, nI_lit1, or_true, true_or, true_and, and_true, mm_o_some, mm_o_none, mm_bk_v, mm_bk_n, Nat.reduceAdd, p1, p2, Nat.reduceLeDiff, Nat.le_refl]
    rfl

  · simp only [s37_0, s37_1_1, s37_1_2, s37_1_3, s37_1_4, s37_1_5, s37_36, s37_37, s37_40, s37_41, s37_42, s37_45, s37_46, s37_47, s37_50, nI_lit2, or_true, true_or, true_and, and_true, mm_o_some, mm_o_none, mm_bk_v, mm_bk_n, Nat.reduceAdd, p1, p2, Nat.reduceLeDiff, Nat.le_refl]
    rfl

  · simp only [s37_0, s37_1_1, s37_1_2, s37_1_3, s37_1_4, s37_1_5, s37_36, s37_37, s37_40, s37_41, s37_42, s37_45, s37_46, s37_47, s37_50, nI_lit3, or_true, true_or, true_and, and_true, mm_o_some, mm_o_none, mm_bk_v, mm_bk_n, Nat.reduceAdd, p1, p2, Nat.reduceLeDiff, Nat.le_refl]
    rfl

  · simp only [s37_0, s37_1_1, s37_1_2, s37_1_3, s37_1_4, s37_1_5, s37_36, s37_37, s37_40, s37_41, s37_42, s37_45, s37_46, s37_47, s37_50, nI_lit4, or_true, true_or, true_and, and_true, mm_o_some, mm_o_none, mm_bk_v, mm_bk_n, Nat.reduceAdd, p1, p2, Nat.reduceLeDiff, Nat.le_refl]
    rfl

  · simp only [s37_0, s37_1_1, s37_1_2, s37_1_3, s37_1_4, s37_1_5, s37_36, s37_37, s37_40, s37_41, s37_42, s37_45, s37_46, s37_47, s37_50, nI_lit5, or_true, true_or, true_and, and_true, mm_o_some, mm_o_none, mm_bk_v, mm_bk_n, Nat.reduceAdd, p1, p2, Nat.reduceLeDiff, Nat.le_refl]
    rfl

def takeH (h : mm_H) (a q t : Nat) (p : Nat → Int) : mm_H := mm_pi (mm_pi (mm_pi (mm_pi (mm_pi (mm_pi (mm_pi (mm_pi (mm_pi h a 1 (nI q)) a 2 (nI t)) a 9 (zI (zW p t))) a 10 (zI (zH p t))) a 11 (zI (zD p t))) a 12 (zI (p 6))) a 13 (zI (p 8))) a 14 (zI (p 9))) a 15 0
theorem zPc.pi (hp : zPc h b p) (hab : ¬ b = a) (k : Nat) (w : Int32) : zPc (mm_pi h a k w) b p := ⟨hp.1, fun j h1 h2 => by rw [mm_i_pi, if_neg (fun (H : b = a ∧ j = k) => hab H.1)]; exact hp.2 j h1 h2⟩
theorem c60z (hp : zPc h b p) (ha : (mm_s h a).1 = 6) (hab : ¬ b = a) (ht : t < 6) : mm_wp (d + 1) 60 0 [.ref a, .int (nI q), .ref b, .int (nI t)] [] h Q ↔ Q (.inl none) (takeH h a q t p) := by
  have q1 := (hp.pi hab 1 (nI q)).pi hab 2 (nI t)
  have q2 := q1.pi hab 9 (zI (zW p t))
  have q3 := q2.pi hab 10 (zI (zH p t))
  have p1 := hp.1
  have p2 := hp.2
  simp only [s60_0, s60_1, s60_2, s60_5, s60_6, s60_7, s60_10, s60_11, s60_11o, s60_11n, s60_12, s60_13, s60_16, s60_19, s60_20, s60_20o, s60_20n, s60_21, s60_22, s60_25, s60_28, s60_29, s60_29o, s60_29n, s60_30, s60_31, s60_34, s60_37, s60_38, s60_38o, s60_38n, s60_39, s60_42, s60_45, s60_46, s60_46o, s60_46n, s60_47, s60_50, s60_53, s60_54, s60_54o, s60_54n, s60_55, s60_58, s60_61, s60_62, s60_63, s60_66, or_true, true_or, true_and, and_true, mm_o_some, mm_o_none, mm_bk_v, mm_bk_n, Nat.reduceAdd, mm_s_pi, ha, p1, c35z q1 ht, c36z q2 ht, c37z q3 ht, mm_i_pi, hab, false_and, if_false, p2, Nat.reduceLeDiff, Nat.le_refl]
  rfl

theorem c62z (ha : (mm_s h a).1 = 6) (hv : mm_i h a 10 = zI v) : mm_wp d 62 0 [.ref a, .int (zI y)] [] h Q ↔ Q (.inl none) (mm_pi (mm_pi h a 4 (zI y)) a 7 (zI (y + v))) := by
  simp only [s62_0, s62_1, s62_2, s62_5, s62_6, s62_7, s62_8, s62_11, s62_12, s62_15, or_true, true_or, true_and, and_true, mm_o_some, mm_o_none, mm_bk_v, mm_bk_n, Nat.reduceAdd, mm_s_pi, ha, mm_i_pi, Nat.reduceEqDiff, and_false, if_false, hv, zI_add]

theorem c66z (ha : (mm_s h a).1 = 6) (hv : mm_i h a 11 = zI v) : mm_wp d 66 0 [.ref a, .int (zI y)] [] h Q ↔ Q (.inl none) (mm_pi (mm_pi h a 5 (zI y)) a 8 (zI (y + v))) := by
  simp only [s66_0, s66_1, s66_2, s66_5, s66_6, s66_7, s66_8, s66_11, s66_12, s66_15, or_true, true_or, true_and, and_true, mm_o_some, mm_o_none, mm_bk_v, mm_bk_n, Nat.reduceAdd, mm_s_pi, ha, mm_i_pi, Nat.reduceEqDiff, and_false, if_false, hv, zI_add]

theorem c67z (ha : (mm_s h a).1 = 6) (hv : mm_i h a 9 = zI v) : mm_wp d 67 0 [.ref a, .int (zI y)] [] h Q ↔ Q (.inl none) (mm_pi (mm_pi h a 3 (zI y)) a 6 (zI (y + v))) := by
  simp only [s67_0, s67_1, s67_2, s67_5, s67_6, s67_7, s67_8, s67_11, s67_12, s67_15, or_true, true_or, true_and, and_true, mm_o_some, mm_o_none, mm_bk_v, mm_bk_n, Nat.reduceAdd, mm_s_pi, ha, mm_i_pi, Nat.reduceEqDiff, and_false, if_false, hv, zI_add]

theorem c63z (hR : zRw h r L R) : mm_wp d 63 0 [.ref r] [] h Q ↔ Q (.inl (some (.int (zI (if L = 0 then 0 else R (L - 1) 4))))) h := by
  obtain ⟨⟨h1, h2, h3, h4⟩, h6, h5, h7⟩ := hR
  by_cases hL : L = 0
  · have e : nI L ≤ 0 := by rw [hL]; decide
    simp only [s63_0, s63_1, s63_4, s63_7, s63_8, s63_11, s63_12, s63_15, s63_16, s63_17, s63_18, s63_21, s63_24, s63_25, or_true, true_or, true_and, and_true, mm_o_some, mm_o_none, mm_bk_v, mm_bk_n, Nat.reduceAdd, h1, h5, if_pos e, if_pos hL]
    rfl
  · have e : ¬ nI L ≤ 0 := nI_nle (by omega) (by omega)
    have hin : mm_in (nI (L - 1)) 8 = true := mm_inN (by omega) (by omega)
    have hcl : (nI (L - 1)).toNatClampNeg = L - 1 := nI_clamp (by omega)
    obtain ⟨p1, p2⟩ := h4 (L - 1) (by omega)
    have i4 := (h7 (L - 1) (by omega)).2 4 (by decide) (by decide)
    simp only [s63_0, s63_1, s63_4, s63_7, s63_8, s63_11, s63_12, s63_15, s63_16, s63_17, s63_18, s63_21, s63_24, s63_25, or_true, true_or, true_and, and_true, mm_o_some, mm_o_none, mm_bk_v, mm_bk_n, Nat.reduceAdd, h1, h2, h3, h5, if_neg e, if_neg hL, nI_m1 (show 0 < L by omega), hin, hcl, p1, p2, i4, Nat.reduceLeDiff]
theorem c65z (hR : zRw h r L R) (hO : ∀ i, i < L → zOk (R i)) (hy : zr y) : mm_wp d 65 0 [.ref r, .int (zI y)] [] h Q ↔ Q (.inl (some (.int (zI (if 0 < L ∧ R (L - 1) 4 = y then R (L - 1) 5 else 0))))) h := by
  obtain ⟨⟨h1, h2, h3, h4⟩, h6, h5, h7⟩ := hR
  by_cases hL : L = 0
  · have e : nI L ≤ 0 := by rw [hL]; decide
    rw [if_neg (by omega)]
    simp only [s65_0, s65_1, s65_4, s65_7, s65_8, s65_11, s65_12, s65_15, s65_16, s65_17, s65_18, s65_21, s65_22, s65_25, s65_26, s65_29, s65_30, s65_33, s65_34, s65_35, s65_36, s65_39, s65_42, s65_43, or_true, true_or, true_and, and_true, mm_o_some, mm_o_none, mm_bk_v, mm_bk_n, Nat.reduceAdd, h1, h5, if_pos e]
    rfl
  · have e : ¬ nI L ≤ 0 := nI_nle (by omega) (by omega)
    have hin : mm_in (nI (L - 1)) 8 = true := mm_inN (by omega) (by omega)
    have hcl : (nI (L - 1)).toNatClampNeg = L - 1 := nI_clamp (by omega)
    obtain ⟨p1, p2⟩ := h4 (L - 1) (by omega)
    have i4 := (h7 (L - 1) (by omega)).2 4 (by decide) (by decide)
    have i5 := (h7 (L - 1) (by omega)).2 5 (by decide) (by decide)
    have e4 := zI_eq ((hO (L - 1) (by omega)).r 4 (by decide) (by decide)) hy
    simp only [s65_0, s65_1, s65_4, s65_7, s65_8, s65_11, s65_12, s65_15, s65_16, s65_17, s65_18, s65_21, s65_22, s65_25, s65_26, s65_29, s65_30, s65_33, s65_34, s65_35, s65_36, s65_39, s65_42, s65_43, or_true, true_or, true_and, and_true, mm_o_some, mm_o_none, mm_bk_v, mm_bk_n, Nat.reduceAdd, h1, h2, h3, h5, if_neg e, nI_m1 (show 0 < L by omega), hin, hcl, p1, p2, i4, i5, e4, Nat.reduceLeDiff]
    by_cases c : R (L - 1) 4 = y
    · rw [if_pos c, if_pos ⟨by omega, c⟩]
    · rw [if_neg c, if_neg (fun H => c H.2)]; rfl
theorem c55z (hs : zSe h e) (hj : j < 8) : mm_wp d 55 0 [.ref e, .int (nI j)] [] h Q ↔ Q (.inl (some (.int (mm_i h (e + 10) j)))) h := by
  obtain ⟨s1, s2, s3, s4, s5, s6⟩ := hs
  have e1 : ¬ nI j < 0 := nI_pos (by omega)
  have e2 : ¬ (8 : Int32) ≤ nI j := nI_ge (b := 8) hj (by omega)
  have hin : mm_in (nI j) 8 = true := mm_inN (by omega) (by omega)
  have hcl : (nI j).toNatClampNeg = j := nI_clamp (by omega)
  simp only [s55_0, s55_1, s55_4, s55_5, s55_7, s55_10, s55_11, s55_14, s55_15, s55_16, s55_19, s55_20, or_true, true_or, true_and, and_true, mm_o_some, mm_o_none, mm_bk_v, mm_bk_n, Nat.reduceAdd, if_neg e1, if_neg e2, s1, s2, s3, s5, hin, hcl]
theorem c56z (hs : zSe h e) (hj : j < 8) (hE : zEd h e j l) (hi : i < l.length) : mm_wp (d + 1) 56 0 [.ref e, .int (nI j), .int (nI i)] [] h Q ↔ Q (.inl (some (.int (zI (l.getD i 0))))) h := by
  have hs' := hs
  obtain ⟨s1, s2, s3, s4, s5, s6⟩ := hs
  obtain ⟨E1, E2, E3⟩ := hE
  have e1 : ¬ nI i < 0 := nI_pos (by omega)
  have e2 : ¬ nI l.length ≤ nI i := nI_ge hi (by omega)
  have hin : mm_in (nI j) 8 = true := mm_inN (by omega) (by omega)
  have hcl : (nI j).toNatClampNeg = j := nI_clamp (by omega)
  have hin2 : mm_in (nI i) 8 = true := mm_inN (by omega) (by omega)
  have hcl2 : (nI i).toNatClampNeg = i := nI_clamp (by omega)
  obtain ⟨p1, p2⟩ := s6 j hj
  simp only [s56_0, s56_1, s56_4, s56_5, s56_6, s56_7, s56_10, s56_13, s56_14, s56_17, s56_18, s56_19, s56_20, s56_21, s56_24, s56_25, or_true, true_or, true_and, and_true, mm_o_some, mm_o_none, mm_bk_v, mm_bk_n, Nat.reduceAdd, if_neg e1, if_neg e2, s1, s2, s3, s4, hin, hcl, hin2, hcl2, p1, p2, c55z hs' hj, E1, E3 i hi, Nat.reduceLeDiff]

end
