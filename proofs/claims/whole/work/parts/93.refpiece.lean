/-! THE REFERENCE: ITS PIECES AND TURNS -/
section
variable {d : Nat} {h h' : mm_H} {Q : mm_Q} {L n a b q t u i r e j na bL told p : Nat} {W A : Nat → Int} {m mk : Int} {R bR : zR} {P : Nat → Nat → Int} {sp : Bool} {T : Nat → Prop} {x x2 x3 x4 : Int32} {l : List Int}
/-- the reference's box and pieces -/
def zMg (h : mm_H) (W : Nat → Int) (n : Nat) (P : Nat → Nat → Int) : Prop := (∀ k, k < 3 → mm_i h 143 k = zI (W k)) ∧ mm_i h 142 2 = nI n ∧ ∀ p, p < n → (∀ a, a < 3 → mm_i h 144 (3 * p + a) = zI (P p (3 + a))) ∧ mm_i h 145 p = zI (P p 6) ∧ mm_i h 146 p = zI (P p 7) ∧ mm_i h 147 p = zI (P p 8) ∧ mm_i h 148 p = zI (P p 9)
theorem zMg.fr (H : zMg h W n P) (F : zFr T h h') (hT : ∀ x, 143 ≤ x → x < 149 → ¬ T x) (e : mm_i h' 142 2 = mm_i h 142 2) : zMg h' W n P := by
  obtain ⟨h1, h2, h3⟩ := H
  refine ⟨fun k hk => by rw [F.i (hT _ (by omega) (by omega))]; exact h1 k hk, by rw [e]; exact h2, fun p hp => ?_⟩
  obtain ⟨g1, g2, g3, g4, g5⟩ := h3 p hp
  exact ⟨fun a ha => by rw [F.i (hT _ (by omega) (by omega))]; exact g1 a ha, by rw [F.i (hT _ (by omega) (by omega))]; exact g2, by rw [F.i (hT _ (by omega) (by omega))]; exact g3, by rw [F.i (hT _ (by omega) (by omega))]; exact g4, by rw [F.i (hT _ (by omega) (by omega))]; exact g5⟩
theorem zMg.ag (H : zMg h W n P) (F : zAg h h') : zMg h' W n P := by
  obtain ⟨h1, h2, h3⟩ := H
  refine ⟨fun k hk => by rw [F.i (by omega)]; exact h1 k hk, by rw [F.i (by omega)]; exact h2, fun p hp => ?_⟩
  obtain ⟨g1, g2, g3, g4, g5⟩ := h3 p hp
  exact ⟨fun a ha => by rw [F.i (by omega)]; exact g1 a ha, by rw [F.i (by omega)]; exact g2, by rw [F.i (by omega)]; exact g3, by rw [F.i (by omega)]; exact g4, by rw [F.i (by omega)]; exact g5⟩
theorem c112 : mm_wp d 112 0 [.int x, .int x2, .int x3] [] h Q ↔ Q (.inl (some (.int (if x2.toInt ≤ x.toInt ∧ x.toInt ≤ x3.toInt then 1 else 0)))) h := by
  by_cases hC : x2.toInt ≤ x.toInt ∧ x.toInt ≤ x3.toInt
  · rw [if_pos hC]
    simp only [s112_0, s112_1, s112_2, s112_5, s112_6, s112_7, s112_10, s112_11, s112_14, s112_15, or_true, true_or, true_and, and_true, mm_o_some, mm_o_none, mm_bk_v, mm_bk_n, Nat.reduceAdd, Int32.lt_iff_toInt_lt]
    rw [if_neg (show ¬ x.toInt < x2.toInt by omega), if_neg (show ¬ x3.toInt < x.toInt by omega)]
  · rw [if_neg hC]
    simp only [s112_0, s112_1, s112_2, s112_5, s112_6, s112_7, s112_10, s112_11, s112_14, s112_15, or_true, true_or, true_and, and_true, mm_o_some, mm_o_none, mm_bk_v, mm_bk_n, Nat.reduceAdd, Int32.lt_iff_toInt_lt]
    by_cases g : x.toInt < x2.toInt
    · rw [if_pos g]
    · rw [if_neg g, if_pos (show x3.toInt < x.toInt by omega)]
def zAo (t a : Nat) : Nat := if t = 0 then a else if t = 1 then 2 - a else if t = 2 then (if a = 2 then 2 else 1 - a) else if t = 3 then (if a = 0 then 2 else a - 1) else if t = 4 then (if a = 0 then 0 else 3 - a) else if a = 2 then 0 else a + 1
/-- a piece's spans in a turn, by the axis -/
def zTn (p : Nat → Int) (t a : Nat) : Int := if a = 0 then zW p t else if a = 1 then zH p t else zD p t
theorem zAo_lt : ∀ t, t < 6 → ∀ a, a < 3 → zAo t a < 3 := by decide
theorem zAo_tn {p : Nat → Int} (ht : t < 6) (ha : a < 3) : p (3 + zAo t a) = zTn p t a := by
  have h1 : t = 0 ∨ t = 1 ∨ t = 2 ∨ t = 3 ∨ t = 4 ∨ t = 5 := by omega
  have h2 : a = 0 ∨ a = 1 ∨ a = 2 := by omega
  rcases h1 with rfl | rfl | rfl | rfl | rfl | rfl <;> rcases h2 with rfl | rfl | rfl <;> rfl
theorem c123z (ht : t < 6) (ha : a < 3) : mm_wp d 123 0 [.int (nI t), .int (nI a)] [] h Q ↔ Q (.inl (some (.int (nI (zAo t a))))) h := by
  have h1 : t = 0 ∨ t = 1 ∨ t = 2 ∨ t = 3 ∨ t = 4 ∨ t = 5 := by omega
  have h2 : a = 0 ∨ a = 1 ∨ a = 2 := by omega
  have hd : (5 : Int32).toInt < 0 ∨ 4 < (5 : Int32).toInt := by decide
  have n02 : ¬ (0 : Int32) = 2 := by decide
  have n12 : ¬ (1 : Int32) = 2 := by decide
  have n20 : ¬ (2 : Int32) = 0 := by decide
  rcases h1 with rfl | rfl | rfl | rfl | rfl | rfl <;> rcases h2 with rfl | rfl | rfl <;> simp only [s123_0, s123_1_0, s123_1_1, s123_1_2, s123_1_3, s123_1_4, s123_36, s123_37, s123_38, s123_39, s123_40, s123_41, s123_42, s123_43, s123_44, s123_47, s123_48, s123_51, s123_52, s123_53, s123_54, s123_55, s123_56, s123_59, s123_60, s123_63, s123_64, s123_65, s123_66, s123_67, s123_68, s123_71, s123_72, s123_75, s123_76, s123_77, s123_78, s123_79, s123_80, s123_81, s123_84, s123_85, s123_88, s123_89, s123_90, s123_91, s123_1d hd, or_true, true_or, true_and, and_true, mm_o_some, mm_o_none, mm_bk_v, mm_bk_n, Nat.reduceAdd, nI_lit0, nI_lit1, nI_lit2, nI_lit3, nI_lit4, nI_lit5, if_true, if_neg n10, if_neg n02, if_neg n12, if_neg n20] <;> exact Iff.rfl
theorem nI_3 (a : Nat) : (3 : Int32) * nI a = nI (3 * a) := by rw [zI_n, zI_n, show (3 : Int32) = zI 3 from rfl, zI_mul, show ((3 * a : Nat) : Int) = 3 * (a : Int) by omega]
theorem zMg.sz (H : zMg h W n P) (hp : p < n) (ht : t < 6) (ha : a < 3) : mm_i h 144 (3 * p + zAo t a) = zI (zTn (P p) t a) := by rw [(H.2.2 p hp).1 (zAo t a) (zAo_lt t ht a ha), zAo_tn (p := P p) ht ha]
theorem zTn_r {p : Nat → Int} (hp : zPok p) : 1 ≤ zTn p t a ∧ zTn p t a ≤ 200 := by
  have := zW_r' (t := t) hp
  simp only [zTn]
  split
  · omega
  · split <;> omega
theorem c121z (hK : zSK h) (H : zMg h W n P) (hk : zPok (P p)) (hp : p < n) (hn : n ≤ 8) (ht : t < 6) : mm_wp d 121 0 [.ref 142, .int (nI p), .int (nI t)] [] h Q ↔ Q (.inl (some (.int (bI (zAlw (P p) t))))) h := by
  have e7 := (H.2.2 p hp).2.2.1
  have hin : mm_in (nI p) 8 = true := mm_inN (by omega) (by omega)
  have hcl : (nI p).toNatClampNeg = p := nI_clamp (by omega)
  simp only [zPok] at hk
  by_cases h0 : t = 0
  · subst h0
    simp only [s121_0, s121_1, s121_4, s121_5, s121_6, s121_9, s121_10, s121_13, s121_14, s121_15, s121_16, s121_17, s121_18, s121_21, s121_24, s121_25, s121_28, s121_29, s121_30, s121_31, s121_34, s121_35, s121_38, s121_39, or_true, true_or, true_and, and_true, mm_o_some, mm_o_none, mm_bk_v, mm_bk_n, Nat.reduceAdd, nI_lit0, if_true]
    rfl
  · have c0 : ¬ nI t = 0 := nI_ne0 (by omega) (by omega)
    by_cases h1 : t = 1
    · subst h1
      simp only [s121_0, s121_1, s121_4, s121_5, s121_6, s121_9, s121_10, s121_13, s121_14, s121_15, s121_16, s121_17, s121_18, s121_21, s121_24, s121_25, s121_28, s121_29, s121_30, s121_31, s121_34, s121_35, s121_38, s121_39, or_true, true_or, true_and, and_true, mm_o_some, mm_o_none, mm_bk_v, mm_bk_n, Nat.reduceAdd, nI_lit1, if_neg n10, if_true, kS142 hK, kR142_5 hK, kS146 hK, hin, hcl, e7, zI_odd (show 0 ≤ P p 7 ∧ P p 7 ≤ 3 by omega)]
      by_cases g : P p 7 % 2 = 1
      · simp only [if_pos g, zAlw, g]
        exact Iff.rfl
      · simp only [if_neg g, zAlw, g]
        exact Iff.rfl
    · have c1 : ¬ nI t = (1 : Int32) := by
        rw [← nI_lit1, nI_eq (by omega) (by omega)]; exact h1
      have r1 : zr 1 := by simp only [zr]; omega
      have r7 : zr (P p 7) := by simp only [zr]; omega
      have l1 : zI (P p 7) ≤ (1 : Int32) ↔ P p 7 ≤ 1 := zI_le r7 r1
      simp only [s121_0, s121_1, s121_4, s121_5, s121_6, s121_9, s121_10, s121_13, s121_14, s121_15, s121_16, s121_17, s121_18, s121_21, s121_24, s121_25, s121_28, s121_29, s121_30, s121_31, s121_34, s121_35, s121_38, s121_39, or_true, true_or, true_and, and_true, mm_o_some, mm_o_none, mm_bk_v, mm_bk_n, Nat.reduceAdd, if_neg c0, if_neg c1, kS142 hK, kR142_5 hK, kS146 hK, hin, hcl, e7, l1]
      by_cases g : P p 7 ≤ 1
      · have g' : ¬ (t = 0 ∨ t = 1 ∧ P p 7 % 2 = 1 ∨ 1 < t ∧ 2 ≤ P p 7) := by omega
        simp only [if_pos g, zAlw, g', decide_false, bI, Bool.false_eq_true, if_false]
      · have g' : (t = 0 ∨ t = 1 ∧ P p 7 % 2 = 1 ∨ 1 < t ∧ 2 ≤ P p 7) := by omega
        simp only [if_neg g, zAlw, g', decide_true, bI, if_true]
theorem c122_loop (hK : zSK h) (H : zMg h W n P) (hk : zPok (P p)) (hp : p < n) (hn : n ≤ 8) (ht : t < 6) (hu : u < 6) : ∀ m a, a + m = 3 → (mm_wp (d + 1) 122 6 [.ref 142, .int (nI p), .int (nI t), .int (nI u), .int (bI (zAll (fun a => decide (zTn (P p) t a = zTn (P p) u a)) a)), .int (nI a)] [] h Q ↔ Q (.inl (some (.int (bI (zAll (fun a => decide (zTn (P p) t a = zTn (P p) u a)) 3))))) h) := by
  intro m
  induction m with
  | zero =>
    intro a ha
    have e : a = 3 := by omega
    subst e
    rw [s122_6]
    have b := bI_01 (zAll (fun a => decide (zTn (P p) t a = zTn (P p) u a)) 3)
    simp only [s122_8, s122_9, s122_12, s122_14, s122_17, s122_18, s122_21, s122_22, s122_23, s122_24, s122_25, s122_27, s122_30, s122_31, s122_32, s122_33, s122_36, s122_37, s122_38, s122_39, s122_40, s122_42, s122_45, s122_46, s122_47, s122_50, s122_51, s122_54, s122_55, s122_57, s122_60, s122_63, s122_65, or_true, true_or, true_and, and_true, mm_o_some, mm_o_none, mm_bk_v, mm_bk_n, Nat.reduceAdd, nI_lit3, if_pos (Int32.le_refl (3 : Int32)), b]
  | succ m ih =>
    intro a ha
    have a3 : a < 3 := by omega
    have c : ¬ (3 : Int32) ≤ nI a := nI_ge (b := 3) a3 (by omega)
    have l1 := zAo_lt t ht a a3
    have l2 := zAo_lt u hu a a3
    have hin1 : mm_in (nI (3 * p + zAo t a)) 24 = true := mm_inN (by omega) (by omega)
    have hcl1 : (nI (3 * p + zAo t a)).toNatClampNeg = 3 * p + zAo t a := nI_clamp (by omega)
    have hin2 : mm_in (nI (3 * p + zAo u a)) 24 = true := mm_inN (by omega) (by omega)
    have hcl2 : (nI (3 * p + zAo u a)).toNatClampNeg = 3 * p + zAo u a := nI_clamp (by omega)
    have z1 := zTn_r (t := t) (a := a) hk
    have z2 := zTn_r (t := u) (a := a) hk
    have r1 : zr (zTn (P p) t a) := by simp only [zr]; omega
    have r2 : zr (zTn (P p) u a) := by simp only [zr]; omega
    have ih' := ih (a + 1) (by omega)
    rw [zAll] at ih'
    rw [s122_6]
    cases g : zAll (fun a => decide (zTn (P p) t a = zTn (P p) u a)) a
    · rw [g, Bool.false_and, bI_f] at ih'
      simp only [s122_8, s122_9, s122_12, s122_14, s122_17, s122_18, s122_21, s122_22, s122_23, s122_24, s122_25, s122_27, s122_30, s122_31, s122_32, s122_33, s122_36, s122_37, s122_38, s122_39, s122_40, s122_42, s122_45, s122_46, s122_47, s122_50, s122_51, s122_54, s122_55, s122_57, s122_60, s122_63, s122_65, or_true, true_or, true_and, and_true, mm_o_some, mm_o_none, mm_bk_v, mm_bk_n, Nat.reduceAdd, if_neg c, bI_f, if_true, nI_1]
      exact ih'
    · rw [g, Bool.true_and] at ih'
      by_cases g2 : zTn (P p) t a = zTn (P p) u a
      · simp only [g2, decide_true, bI_t] at ih'
        simp only [s122_8, s122_9, s122_12, s122_14, s122_17, s122_18, s122_21, s122_22, s122_23, s122_24, s122_25, s122_27, s122_30, s122_31, s122_32, s122_33, s122_36, s122_37, s122_38, s122_39, s122_40, s122_42, s122_45, s122_46, s122_47, s122_50, s122_51, s122_54, s122_55, s122_57, s122_60, s122_63, s122_65, or_true, true_or, true_and, and_true, mm_o_some, mm_o_none, mm_bk_v, mm_bk_n, Nat.reduceAdd, if_neg c, bI_t, if_neg n10, kS142 hK, kR142_3 hK, nI_3, c123z ht a3, c123z hu a3, nI_add, kS144 hK, hin1, hin2, hcl1, hcl2, H.sz hp ht a3, H.sz hp hu a3, zI_eq r1 r2, if_pos g2, nI_1]
        exact ih'
      · simp only [g2, decide_false, bI_f] at ih'
        simp only [s122_8, s122_9, s122_12, s122_14, s122_17, s122_18, s122_21, s122_22, s122_23, s122_24, s122_25, s122_27, s122_30, s122_31, s122_32, s122_33, s122_36, s122_37, s122_38, s122_39, s122_40, s122_42, s122_45, s122_46, s122_47, s122_50, s122_51, s122_54, s122_55, s122_57, s122_60, s122_63, s122_65, or_true, true_or, true_and, and_true, mm_o_some, mm_o_none, mm_bk_v, mm_bk_n, Nat.reduceAdd, if_neg c, bI_t, if_neg n10, kS142 hK, kR142_3 hK, nI_3, c123z ht a3, c123z hu a3, nI_add, kS144 hK, hin1, hin2, hcl1, hcl2, H.sz hp ht a3, H.sz hp hu a3, zI_eq r1 r2, if_neg g2, nI_1]
        exact ih'
theorem zLk_all {p : Nat → Int} : zAll (fun a => decide (zTn p t a = zTn p u a)) 3 = zLk p t u := by
  simp only [zAll, zTn, zLk, Nat.reduceEqDiff, reduceIte, Bool.true_and]
  by_cases g1 : zW p t = zW p u <;> by_cases g2 : zH p t = zH p u <;> by_cases g3 : zD p t = zD p u <;> simp [g1, g2, g3]
theorem zLk_comm {p : Nat → Int} : zLk p t u = zLk p u t := by
  simp only [zLk]
  congr 1
  exact propext ⟨fun ⟨a, b, c⟩ => ⟨a.symm, b.symm, c.symm⟩, fun ⟨a, b, c⟩ => ⟨a.symm, b.symm, c.symm⟩⟩
theorem c122z (hK : zSK h) (H : zMg h W n P) (hk : zPok (P p)) (hp : p < n) (hn : n ≤ 8) (ht : t < 6) (hu : u < 6) (v4 v5 : Value) : mm_wp (d + 1) 122 0 [.ref 142, .int (nI p), .int (nI t), .int (nI u), v4, v5] [] h Q ↔ Q (.inl (some (.int (bI (zLk (P p) u t))))) h := by
  have := c122_loop (d := d) (Q := Q) hK H hk hp hn ht hu 3 0 (by omega)
  rw [zLk_all, zLk_comm, nI_lit0, show bI (zAll (fun a => decide (zTn (P p) t a = zTn (P p) u a)) 0) = 1 from rfl] at this
  simp only [s122_0, s122_1, s122_3, s122_4]
  exact this
/-- the spans of a turn, where the reference keeps them -/
def zTd (h : mm_H) (p : Nat → Int) (t : Nat) : Prop := ∀ a, a < 3 → mm_i h 166 a = zI (zTn p t a)
theorem c120_l1 (hK : zSK h) (H : zMg h W n P) (hk : zPok (P p)) (hp : p < n) (hn : n ≤ 8) (ht : t < 6) : ∀ m u, u + m = t → (mm_wp (d + 2) 120 10 [.ref 142, .int (nI p), .int (nI t), .int (bI (zAlw (P p) t && zAll (fun u => !(zAlw (P p) u && zLk (P p) u t)) u)), .int (nI u)] [] h Q ↔ mm_wp (d + 2) 120 53 [.ref 142, .int (nI p), .int (nI t), .int (bI (zAlw (P p) t && zAll (fun u => !(zAlw (P p) u && zLk (P p) u t)) t)), .int (nI t)] [] h Q) := by
  intro m
  induction m with
  | zero =>
    intro u hu
    have e : u = t := by omega
    subst e
    rw [s120_10]
    simp only [s120_12, s120_13, s120_16, s120_17, s120_20, s120_21, s120_22, s120_24, s120_27, s120_30, s120_31, s120_32, s120_33, s120_35, s120_38, s120_41, s120_42, s120_45, s120_46, s120_47, s120_50, or_true, true_or, true_and, and_true, mm_o_some, mm_o_none, mm_bk_v, mm_bk_n, Nat.reduceAdd, if_pos (Int32.le_refl (nI u))]
  | succ m ih =>
    intro u hu
    have c : ¬ nI t ≤ nI u := nI_ge (by omega) (by omega)
    have ih' := ih (u + 1) (by omega)
    rw [zAll, ← Bool.and_assoc] at ih'
    rw [s120_10]
    cases g : (zAlw (P p) t && zAll (fun u => !(zAlw (P p) u && zLk (P p) u t)) u)
    · rw [g, Bool.false_and, bI_f] at ih'
      simp only [s120_12, s120_13, s120_16, s120_17, s120_20, s120_21, s120_22, s120_24, s120_27, s120_30, s120_31, s120_32, s120_33, s120_35, s120_38, s120_41, s120_42, s120_45, s120_46, s120_47, s120_50, or_true, true_or, true_and, and_true, mm_o_some, mm_o_none, mm_bk_v, mm_bk_n, Nat.reduceAdd, if_neg c, bI_f, if_true, nI_1]
      exact ih'
    · rw [g, Bool.true_and] at ih'
      simp only [s120_12, s120_13, s120_16, s120_17, s120_20, s120_21, s120_22, s120_24, s120_27, s120_30, s120_31, s120_32, s120_33, s120_35, s120_38, s120_41, s120_42, s120_45, s120_46, s120_47, s120_50, or_true, true_or, true_and, and_true, mm_o_some, mm_o_none, mm_bk_v, mm_bk_n, Nat.reduceAdd, if_neg c, bI_t, if_neg n10, kS142 hK, c121z hK H hk hp hn (show u < 6 by omega), c122z hK H hk hp hn ht (show u < 6 by omega), nI_1]
      cases g1 : zAlw (P p) u
      · rw [g1] at ih'
        simp only [bI_f, if_true]
        exact ih'
      · rw [g1] at ih'
        rw [if_neg (show ¬ bI true = 0 by decide)]
        cases g2 : zLk (P p) u t
        · rw [g2] at ih'
          simp only [bI_f, if_true]
          exact ih'
        · rw [g2] at ih'
          rw [if_neg (show ¬ bI true = 0 by decide)]
          exact ih'
theorem c120_l2 (hk : zPok (P p)) (hp : p < n) (hn : n ≤ 8) (ht : t < 6) (wk : zWok W) (g : Bool) : ∀ m a h, a + m = 3 → zSK h → zMg h W n P → (∀ b, b < a → mm_i h 166 b = zI (zTn (P p) t b)) →
    (∀ h', zFr (fun x => x = 166) h h' → zTd h' (P p) t → Q (.inl (some (.int (bI (g && zAll (fun a => decide (zTn (P p) t a ≤ W a)) 3))))) h') →
    mm_wp (d + 2) 120 56 [.ref 142, .int (nI p), .int (nI t), .int (bI (g && zAll (fun a => decide (zTn (P p) t a ≤ W a)) a)), .int (nI a)] [] h Q := by
  intro m
  induction m with
  | zero =>
    intro a h ha hK H hT K
    have e : a = 3 := by omega
    subst e
    rw [s120_56]
    have b := bI_01 (g && zAll (fun a => decide (zTn (P p) t a ≤ W a)) 3)
    simp only [s120_58, s120_59, s120_62, s120_63, s120_66, s120_68, s120_69, s120_72, s120_73, s120_74, s120_75, s120_76, s120_78, s120_81, s120_82, s120_83, s120_84, s120_85, s120_88, s120_89, s120_92, s120_94, s120_95, s120_96, s120_99, s120_101, s120_102, s120_105, s120_106, s120_109, s120_110, s120_111, s120_114, s120_117, s120_118, or_true, true_or, true_and, and_true, mm_o_some, mm_o_none, mm_bk_v, mm_bk_n, Nat.reduceAdd, nI_lit3, if_pos (Int32.le_refl (3 : Int32)), b]
    exact K h zFr.refl hT
  | succ m ih =>
    intro a h ha hK H hT K
    have a3 : a < 3 := by omega
    have c : ¬ (3 : Int32) ≤ nI a := nI_ge (b := 3) a3 (by omega)
    have l1 := zAo_lt t ht a a3
    have hin1 : mm_in (nI (3 * p + zAo t a)) 24 = true := mm_inN (by omega) (by omega)
    have hcl1 : (nI (3 * p + zAo t a)).toNatClampNeg = 3 * p + zAo t a := nI_clamp (by omega)
    have hina : mm_in (nI a) 3 = true := mm_inN (by omega) (by omega)
    have hcla : (nI a).toNatClampNeg = a := nI_clamp (by omega)
    have z1 := zTn_r (t := t) (a := a) hk
    have r1 : zr (zTn (P p) t a) := by simp only [zr]; omega
    have r2 : zr (W a) := by
      have h2 : a = 0 ∨ a = 1 ∨ a = 2 := by omega
      simp only [zWok] at wk
      simp only [zr]
      rcases h2 with rfl | rfl | rfl <;> omega
    have F1 : zFr (fun x => x = 166) h (mm_pi h 166 a (zI (zTn (P p) t a))) := zFr.pi rfl
    have e1 : mm_i (mm_pi h 166 a (zI (zTn (P p) t a))) 166 a = zI (zTn (P p) t a) := by rw [mm_i_pi, if_pos ⟨rfl, rfl⟩]
    have e2 : mm_i (mm_pi h 166 a (zI (zTn (P p) t a))) 143 a = zI (W a) := by rw [mm_i_pi, if_neg (by omega)]; exact H.1 a a3
    have hT1 : ∀ b, b < a + 1 → mm_i (mm_pi h 166 a (zI (zTn (P p) t a))) 166 b = zI (zTn (P p) t b) := by
      intro b hb
      rw [mm_i_pi]
      by_cases e : b = a
      · rw [if_pos ⟨rfl, e⟩, e]
      · rw [if_neg (fun z => e z.2)]; exact hT b (by omega)
    have H1 := H.fr F1 (fun x x1 x2 => by omega) (by rw [F1.i (by omega)])
    have ih' := ih (a + 1) (mm_pi h 166 a (zI (zTn (P p) t a))) (by omega) (zFr.sk hK F1) H1 hT1 (fun h' F' => K h' (F1.trans F'))
    rw [zAll, ← Bool.and_assoc] at ih'
    rw [s120_56]
    cases g1 : (g && zAll (fun a => decide (zTn (P p) t a ≤ W a)) a)
    · rw [g1, Bool.false_and, bI_f] at ih'
      simp only [s120_58, s120_59, s120_62, s120_63, s120_66, s120_68, s120_69, s120_72, s120_73, s120_74, s120_75, s120_76, s120_78, s120_81, s120_82, s120_83, s120_84, s120_85, s120_88, s120_89, s120_92, s120_94, s120_95, s120_96, s120_99, s120_101, s120_102, s120_105, s120_106, s120_109, s120_110, s120_111, s120_114, s120_117, s120_118, or_true, true_or, true_and, and_true, mm_o_some, mm_o_none, mm_bk_v, mm_bk_n, Nat.reduceAdd, if_neg c, kS142 hK, kR142_33 hK, kR142_3 hK, nI_3, c123z ht a3, nI_add, kS144 hK, hin1, hcl1, H.sz hp ht a3, kS166 hK, hina, hcla, Nat.reduceEqDiff, not_false_eq_true, bI_f, if_true, nI_1]
      exact ih'
    · rw [g1, Bool.true_and] at ih'
      by_cases g2 : W a < zTn (P p) t a
      · rw [show decide (zTn (P p) t a ≤ W a) = false by simp; omega, bI_f] at ih'
        simp only [s120_58, s120_59, s120_62, s120_63, s120_66, s120_68, s120_69, s120_72, s120_73, s120_74, s120_75, s120_76, s120_78, s120_81, s120_82, s120_83, s120_84, s120_85, s120_88, s120_89, s120_92, s120_94, s120_95, s120_96, s120_99, s120_101, s120_102, s120_105, s120_106, s120_109, s120_110, s120_111, s120_114, s120_117, s120_118, or_true, true_or, true_and, and_true, mm_o_some, mm_o_none, mm_bk_v, mm_bk_n, Nat.reduceAdd, if_neg c, kS142 hK, kR142_33 hK, kR142_3 hK, kR142_1 hK, nI_3, c123z ht a3, nI_add, kS144 hK, hin1, hcl1, H.sz hp ht a3, kS166 hK, kS143 hK, hina, hcla, Nat.reduceEqDiff, not_false_eq_true, bI_t, if_neg n10, mm_s_pi, mm_r_pi, e1, e2, zI_lt r2 r1, if_pos g2, nI_1]
        exact ih'
      · rw [show decide (zTn (P p) t a ≤ W a) = true by simp; omega, bI_t] at ih'
        simp only [s120_58, s120_59, s120_62, s120_63, s120_66, s120_68, s120_69, s120_72, s120_73, s120_74, s120_75, s120_76, s120_78, s120_81, s120_82, s120_83, s120_84, s120_85, s120_88, s120_89, s120_92, s120_94, s120_95, s120_96, s120_99, s120_101, s120_102, s120_105, s120_106, s120_109, s120_110, s120_111, s120_114, s120_117, s120_118, or_true, true_or, true_and, and_true, mm_o_some, mm_o_none, mm_bk_v, mm_bk_n, Nat.reduceAdd, if_neg c, kS142 hK, kR142_33 hK, kR142_3 hK, kR142_1 hK, nI_3, c123z ht a3, nI_add, kS144 hK, hin1, hcl1, H.sz hp ht a3, kS166 hK, kS143 hK, hina, hcla, Nat.reduceEqDiff, not_false_eq_true, bI_t, if_neg n10, mm_s_pi, mm_r_pi, e1, e2, zI_lt r2 r1, if_neg g2, nI_1]
        exact ih'
theorem zGd_all {p : Nat → Int} : ((zAlw p t && zAll (fun u => !(zAlw p u && zLk p u t)) t) && zAll (fun a => decide (zTn p t a ≤ W a)) 3) = zGd W p t := by
  rw [zGd]
  congr 1
  simp only [zAll, zTn, Nat.reduceEqDiff, reduceIte, Bool.true_and]
  by_cases g1 : zW p t ≤ W 0 <;> by_cases g2 : zH p t ≤ W 1 <;> by_cases g3 : zD p t ≤ W 2 <;> simp [g1, g2, g3]
theorem c120z (hK : zSK h) (H : zMg h W n P) (hk : zPok (P p)) (hp : p < n) (hn : n ≤ 8) (ht : t < 6) (wk : zWok W) (v3 v4 : Value) (K : ∀ h', zFr (fun x => x = 166) h h' → zTd h' (P p) t → Q (.inl (some (.int (bI (zGd W (P p) t))))) h') : mm_wp (d + 2) 120 0 [.ref 142, .int (nI p), .int (nI t), v3, v4] [] h Q := by
  have l1 := c120_l1 (d := d) (Q := Q) hK H hk hp hn ht t 0 (by omega)
  rw [show zAll (fun u => !(zAlw (P p) u && zLk (P p) u t)) 0 = true from rfl, Bool.and_true, nI_lit0] at l1
  simp only [s120_0, s120_1, s120_2, s120_3, s120_6, s120_7, s120_8, or_true, true_or, true_and, and_true, mm_o_some, mm_o_none, mm_bk_v, mm_bk_n, Nat.reduceAdd, kS142 hK, c121z hK H hk hp hn ht]
  refine l1.mpr ?_
  simp only [s120_53, s120_54]
  rw [← zGd_all] at K
  generalize (zAlw (P p) t && zAll (fun u => !(zAlw (P p) u && zLk (P p) u t)) t) = g at *
  have l2 := c120_l2 (d := d) (Q := Q) hk hp hn ht wk g 3 0 h (by omega) hK H (fun b hb => by omega) K
  rw [show zAll (fun a => decide (zTn (P p) t a ≤ W a)) 0 = true from rfl, Bool.and_true, nI_lit0] at l2
  exact l2
theorem c119_loop (hk : zPok (P p)) (hp : p < n) (hn : n ≤ 8) (wk : zWok W) : ∀ m t h, t + m = 6 → zSK h → zMg h W n P → (∀ h', zFr (fun x => x = 166) h h' → Q (.inl (some (.int (zI (zFits W (P p)))))) h') → mm_wp (d + 3) 119 4 [.ref 142, .int (nI p), .int (zI (zSum (fun t => if zGd W (P p) t = true then 1 else 0) t)), .int (nI t)] [] h Q := by
  intro m
  induction m with
  | zero =>
    intro t h ht hK H K
    have e : t = 6 := by omega
    subst e
    rw [s119_4]
    simp only [s119_5, s119_7, s119_10, s119_11, s119_12, s119_13, s119_14, s119_17, s119_20, s119_21, s119_24, s119_25, s119_26, s119_27, s119_30, s119_33, s119_34, or_true, true_or, true_and, and_true, mm_o_some, mm_o_none, mm_bk_v, mm_bk_n, Nat.reduceAdd, if_pos (show (6 : Int32) ≤ nI 6 by decide)]
    exact K h zFr.refl
  | succ m ih =>
    intro t h ht hK H K
    have t6 : t < 6 := by omega
    have c : ¬ (6 : Int32) ≤ nI t := nI_ge (b := 6) t6 (by omega)
    rw [s119_4]
    simp only [s119_5, s119_7, s119_10, s119_11, s119_12, s119_13, s119_14, s119_17, s119_20, s119_21, s119_24, s119_25, s119_26, s119_27, s119_30, s119_33, s119_34, or_true, true_or, true_and, and_true, mm_o_some, mm_o_none, mm_bk_v, mm_bk_n, Nat.reduceAdd, if_neg c, kS142 hK]
    refine c120z hK H hk hp hn t6 wk _ _ (fun h1 F1 _ => ?_)
    have ih' := ih (t + 1) h1 (by omega) (zFr.sk hK F1) (H.fr F1 (fun x x1 x2 => by omega) (by rw [F1.i (by omega)])) (fun h' F' => K h' (F1.trans F'))
    rw [zSum] at ih'
    cases g : zGd W (P p) t
    · rw [g, if_neg (by decide)] at ih'
      simp only [s119_5, s119_7, s119_10, s119_11, s119_12, s119_13, s119_14, s119_17, s119_20, s119_21, s119_24, s119_25, s119_26, s119_27, s119_30, s119_33, s119_34, or_true, true_or, true_and, and_true, mm_o_some, mm_o_none, mm_bk_v, mm_bk_n, Nat.reduceAdd, bI_f, if_true, show (0 : Int32) = zI 0 from rfl, zI_add, nI_1]
      exact ih'
    · rw [g, if_pos rfl] at ih'
      simp only [s119_5, s119_7, s119_10, s119_11, s119_12, s119_13, s119_14, s119_17, s119_20, s119_21, s119_24, s119_25, s119_26, s119_27, s119_30, s119_33, s119_34, or_true, true_or, true_and, and_true, mm_o_some, mm_o_none, mm_bk_v, mm_bk_n, Nat.reduceAdd, bI_t, if_neg n10, show (1 : Int32) = zI 1 from rfl, zI_add]
      simp only [show zI 1 = (1 : Int32) from rfl, nI_1]
      exact ih'
theorem c119z (hK : zSK h) (H : zMg h W n P) (hk : zPok (P p)) (hp : p < n) (hn : n ≤ 8) (wk : zWok W) (v2 v3 : Value) (K : ∀ h', zFr (fun x => x = 166) h h' → Q (.inl (some (.int (zI (zFits W (P p)))))) h') : mm_wp (d + 3) 119 0 [.ref 142, .int (nI p), v2, v3] [] h Q := by
  have := c119_loop (d := d) (Q := Q) hk hp hn wk 6 0 h (by omega) hK H K
  rw [nI_lit0] at this
  simp only [s119_0, s119_1, s119_2, s119_3]
  exact this
theorem c125z (hK : zSK h) (H : zMg h W n P) (hp : p < n) (hn : n ≤ 8) : mm_wp d 125 0 [.ref 142, .int (nI p)] [] h Q ↔ Q (.inl (some (.int (zI (P p 3 * P p 4 * P p 5))))) h := by
  obtain ⟨g1, _⟩ := H.2.2 p hp
  have e0 := g1 0 (by decide)
  have e1 := g1 1 (by decide)
  have e2 := g1 2 (by decide)
  have hin0 : mm_in (nI (3 * p)) 24 = true := mm_inN (by omega) (by omega)
  have hcl0 : (nI (3 * p)).toNatClampNeg = 3 * p := nI_clamp (by omega)
  have hin1 : mm_in (nI (3 * p + 1)) 24 = true := mm_inN (by omega) (by omega)
  have hcl1 : (nI (3 * p + 1)).toNatClampNeg = 3 * p + 1 := nI_clamp (by omega)
  have hin2 : mm_in (nI (3 * p + 2)) 24 = true := mm_inN (by omega) (by omega)
  have hcl2 : (nI (3 * p + 2)).toNatClampNeg = 3 * p + 2 := nI_clamp (by omega)
  rw [Nat.add_zero] at e0
  simp only [s125_0, s125_1, s125_4, s125_5, s125_6, s125_7, s125_8, s125_9, s125_12, s125_13, s125_14, s125_15, s125_16, s125_17, s125_18, s125_19, s125_20, s125_23, s125_24, s125_25, s125_26, s125_27, s125_28, s125_29, s125_30, or_true, true_or, true_and, and_true, mm_o_some, mm_o_none, mm_bk_v, mm_bk_n, Nat.reduceAdd, kS142 hK, kR142_3 hK, kS144 hK, nI_3, nI_1, show (2 : Int32) = nI 2 from rfl, nI_add, hin0, hcl0, hin1, hcl1, hin2, hcl2, e0, e1, e2, zI_mul]
end
