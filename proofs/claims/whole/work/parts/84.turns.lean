/-! A PIECE: ITS GOOD TURNS -/
section
variable {d : Nat} {h h' : mm_H} {Q : mm_Q} {L n a b q t u i : Nat} {W p : Nat → Int} {m : Int}
theorem zI_odd {v : Int} (h : 0 ≤ v ∧ v ≤ 3) : (zI v &&& (1 : Int32) = 1) ↔ v % 2 = 1 := by
  have : v = 0 ∨ v = 1 ∨ v = 2 ∨ v = 3 := by omega
  rcases this with rfl | rfl | rfl | rfl <;> decide
theorem c33z (hp : zPc h a p) (hk : zPok p) (ht : t < 6) : mm_wp d 33 0 [.ref a, .int (nI t)] [] h Q ↔ Q (.inl (some (.int (bI (zAlw p t))))) h := by
  have e7 := hp.2 7 (by decide) (by decide)
  simp only [zPok] at hk
  by_cases h0 : t = 0
  · subst h0
    simp only [s33_0, s33_1, s33_4, s33_5, s33_6, s33_7, s33_8, s33_11, s33_12, s33_15, s33_16, s33_17, s33_18, s33_21, s33_22, s33_25, s33_26, s33_29, s33_30, s33_33, s33_34, s33_37, s33_38, s33_41, s33_42, or_true, true_or, true_and, and_true, mm_o_some, mm_o_none, mm_bk_v, mm_bk_n, Nat.reduceAdd, nI_lit0, if_true]
    rfl
  · have c0 : ¬ nI t = 0 := nI_ne0 (by omega) (by omega)
    by_cases h1 : t = 1
    · subst h1
      have c1 : ¬ (1 : Int32) = 0 := by decide
      simp only [s33_0, s33_1, s33_4, s33_5, s33_6, s33_7, s33_8, s33_11, s33_12, s33_15, s33_16, s33_17, s33_18, s33_21, s33_22, s33_25, s33_26, s33_29, s33_30, s33_33, s33_34, s33_37, s33_38, s33_41, s33_42, or_true, true_or, true_and, and_true, mm_o_some, mm_o_none, mm_bk_v, mm_bk_n, Nat.reduceAdd, nI_lit1, if_neg c1, if_true, hp.1, e7, zI_odd (show 0 ≤ p 7 ∧ p 7 ≤ 3 by omega)]
      by_cases g : p 7 % 2 = 1
      · simp only [if_pos g, zAlw, g]
        exact Iff.rfl
      · simp only [if_neg g, zAlw, g]
        exact Iff.rfl
    · have c1 : ¬ nI t = (1 : Int32) := by
        rw [← nI_lit1, nI_eq (by omega) (by omega)]; exact h1
      have r2 : zr 2 := by simp only [zr]; omega
      have r7 : zr (p 7) := by simp only [zr]; omega
      simp only [s33_0, s33_1, s33_4, s33_5, s33_6, s33_7, s33_8, s33_11, s33_12, s33_15, s33_16, s33_17, s33_18, s33_21, s33_22, s33_25, s33_26, s33_29, s33_30, s33_33, s33_34, s33_37, s33_38, s33_41, s33_42, or_true, true_or, true_and, and_true, mm_o_some, mm_o_none, mm_bk_v, mm_bk_n, Nat.reduceAdd, if_neg c0, if_neg c1, hp.1, e7, show (2 : Int32) = zI 2 from rfl, zI_lt r7 r2]
      by_cases g : p 7 < 2
      · have g' : ¬ (t = 0 ∨ t = 1 ∧ p 7 % 2 = 1 ∨ 1 < t ∧ 2 ≤ p 7) := by omega
        simp only [if_pos g, zAlw, g', decide_false, bI, Bool.false_eq_true, if_false]
      · have g' : (t = 0 ∨ t = 1 ∧ p 7 % 2 = 1 ∨ 1 < t ∧ 2 ≤ p 7) := by omega
        simp only [if_neg g, zAlw, g', decide_true, bI, if_true]
theorem zW_r' (hp : zPok p) : (1 ≤ zW p t ∧ zW p t ≤ 200) ∧ (1 ≤ zH p t ∧ zH p t ≤ 200) ∧ 1 ≤ zD p t ∧ zD p t ≤ 200 := zW_r (P := fun _ => p) (p := 0) hp
theorem c34z (hp : zPc h a p) (hk : zPok p) (ht : t < 6) (hu : u < 6) : mm_wp (d + 1) 34 0 [.ref a, .int (nI t), .int (nI u)] [] h Q ↔ Q (.inl (some (.int (bI (zLk p t u))))) h := by
  have wt := zW_r' (t := t) hk
  have wu := zW_r' (t := u) hk
  have r1 : zr (zW p t) := by simp only [zr]; omega
  have r2 : zr (zH p t) := by simp only [zr]; omega
  have r3 : zr (zD p t) := by simp only [zr]; omega
  have r4 : zr (zW p u) := by simp only [zr]; omega
  have r5 : zr (zH p u) := by simp only [zr]; omega
  have r6 : zr (zD p u) := by simp only [zr]; omega
  simp only [s34_0, s34_1, s34_2, s34_5, s34_6, s34_7, s34_10, s34_13, s34_14, s34_15, s34_18, s34_19, s34_20, s34_23, s34_26, s34_27, s34_28, s34_31, s34_32, s34_33, s34_36, s34_39, s34_40, s34_43, s34_44, or_true, true_or, true_and, and_true, mm_o_some, mm_o_none, mm_bk_v, mm_bk_n, Nat.reduceAdd, hp.1, c35z hp ht, c36z hp ht, c37z hp ht, c35z hp hu, c36z hp hu, c37z hp hu, zI_eq r1 r4, zI_eq r2 r5, zI_eq r3 r6]
  by_cases g1 : zW p t = zW p u
  · by_cases g2 : zH p t = zH p u
    · by_cases g3 : zD p t = zD p u
      · simp only [if_pos g1, if_pos g2, if_pos g3, zLk, g1, g2, g3, and_self, decide_true, bI_t, if_true, if_false]
      · simp only [if_pos g1, if_pos g2, if_neg g3, zLk, g3, and_false, decide_false, bI_f, if_true, if_false]
    · simp only [if_pos g1, if_neg g2, zLk, g2, false_and, and_false, decide_false, bI_f, if_true, if_false]
  · simp only [if_neg g1, zLk, g1, false_and, decide_false, bI_f, if_true, if_false]
theorem c38z (hp : zPc h a p) (hk : zPok p) (ht : t < 6) (hr : mm_r h a 0 = some 2) (h2 : (mm_s h 2).1 = 1) (hW : ∀ k, k < 3 → mm_i h 2 k = zI (W k)) (wk : zWok W) : mm_wp (d + 1) 38 0 [.ref a, .int (nI t)] [] h Q ↔ Q (.inl (some (.int (bI (decide (zW p t ≤ W 0 ∧ zH p t ≤ W 1 ∧ zD p t ≤ W 2)))))) h := by
  have wt := zW_r' (t := t) hk
  simp only [zWok] at wk
  have r1 : zr (zW p t) := by simp only [zr]; omega
  have r2 : zr (zH p t) := by simp only [zr]; omega
  have r3 : zr (zD p t) := by simp only [zr]; omega
  have r4 : zr (W 0) := by simp only [zr]; omega
  have r5 : zr (W 1) := by simp only [zr]; omega
  have r6 : zr (W 2) := by simp only [zr]; omega
  simp only [s38_0, s38_1, s38_2, s38_5, s38_6, s38_9, s38_12, s38_15, s38_16, s38_17, s38_20, s38_21, s38_24, s38_27, s38_30, s38_31, s38_32, s38_35, s38_36, s38_39, s38_42, s38_45, s38_46, s38_49, s38_50, or_true, true_or, true_and, and_true, mm_o_some, mm_o_none, mm_bk_v, mm_bk_n, Nat.reduceAdd, hp.1, hr, h2, hW 0 (by decide), hW 1 (by decide), hW 2 (by decide), c35z hp ht, c36z hp ht, c37z hp ht, zI_lt r4 r1, zI_lt r5 r2, zI_lt r6 r3]
  by_cases g1 : W 0 < zW p t
  · have g : ¬ (zW p t ≤ W 0 ∧ zH p t ≤ W 1 ∧ zD p t ≤ W 2) := by omega
    simp only [if_pos g1, g, decide_false, bI_f, if_true, if_false]
  · by_cases g2 : W 1 < zH p t
    · have g : ¬ (zW p t ≤ W 0 ∧ zH p t ≤ W 1 ∧ zD p t ≤ W 2) := by omega
      simp only [if_neg g1, if_pos g2, g, decide_false, bI_f, if_true, if_false]
    · by_cases g3 : W 2 < zD p t
      · have g : ¬ (zW p t ≤ W 0 ∧ zH p t ≤ W 1 ∧ zD p t ≤ W 2) := by omega
        simp only [if_neg g1, if_neg g2, if_pos g3, g, decide_false, bI_f, if_true, if_false]
      · have g : (zW p t ≤ W 0 ∧ zH p t ≤ W 1 ∧ zD p t ≤ W 2) := by omega
        simp only [if_neg g1, if_neg g2, if_neg g3, g, and_self, decide_true, bI_t, if_true, if_false]
theorem c32_loop (hp : zPc h a p) (hk : zPok p) (ht : t < 6) : ∀ n i, i + n = t → (mm_wp (d + 2) 32 12 [.ref a, .int (nI t), .int (nI i)] [] h Q ↔ Q (.inl (some (.int (bI (zAllF (fun u => !(zAlw p u && zLk p u t)) i n))))) h) := by
  intro n
  induction n with
  | zero =>
    intro i hi
    have c : nI t ≤ nI i := by rw [show i = t by omega]; exact Int32.le_refl _
    rw [s32_12]
    simp only [s32_13, s32_14, s32_17, s32_18, s32_19, s32_22, s32_25, s32_26, s32_27, s32_28, s32_31, s32_34, s32_35, s32_36, s32_39, s32_42, s32_43, or_true, true_or, true_and, and_true, mm_o_some, mm_o_none, mm_bk_v, mm_bk_n, Nat.reduceAdd, if_pos c, zAllF]
    exact Iff.rfl
  | succ n ih =>
    intro i hi
    have c : ¬ nI t ≤ nI i := nI_ge (by omega) (by omega)
    rw [s32_12]
    simp only [s32_13, s32_14, s32_17, s32_18, s32_19, s32_22, s32_25, s32_26, s32_27, s32_28, s32_31, s32_34, s32_35, s32_36, s32_39, s32_42, s32_43, or_true, true_or, true_and, and_true, mm_o_some, mm_o_none, mm_bk_v, mm_bk_n, Nat.reduceAdd, if_neg c, hp.1, c33z hp hk (show i < 6 by omega), c34z hp hk (show i < 6 by omega) ht, nI_1, ih (i + 1) (by omega), zAllF]
    cases zAlw p i
    · simp only [bI_f, if_true, Bool.false_and, Bool.not_false, Bool.true_and]
    · rw [if_neg (show ¬ bI true = 0 by decide)]
      cases zLk p i t
      · simp only [bI_f, if_true, Bool.and_false, Bool.not_false, Bool.true_and]
      · rw [if_neg (show ¬ bI true = 0 by decide)]
        exact Iff.rfl
theorem c32z (hp : zPc h a p) (hk : zPok p) (ht : t < 6) (v : Value) : mm_wp (d + 2) 32 0 [.ref a, .int (nI t), v] [] h Q ↔ Q (.inl (some (.int (bI (zAlw p t && zAll (fun u => !(zAlw p u && zLk p u t)) t))))) h := by
  simp only [s32_0, s32_1, s32_2, s32_5, s32_8, s32_9, s32_10, s32_11, s32_42, s32_43, or_true, true_or, true_and, and_true, mm_o_some, mm_o_none, mm_bk_v, mm_bk_n, Nat.reduceAdd, hp.1, c33z hp hk ht]
  cases zAlw p t
  · simp only [bI_f, if_true, Bool.false_and]
  · rw [if_neg (show ¬ bI true = 0 by decide), ← nI_lit0, c32_loop hp hk ht t 0 (by omega), zAllF_all, Bool.true_and]
/-- a piece's numbers with other marks -/
def zMk (p : Nat → Int) (m : Int) : Nat → Int := fun k => if k = 7 then m else p k
theorem c31_loop (hq : q < 8) (hk : zPok p) (wk : zWok W) (mv : Int32) : ∀ m t h, t + m = 6 → zSK h → zPc h (5 + 2 * q) p → (∀ k, k < 3 → mm_i h 2 k = zI (W k)) → (∀ u, u < t → mm_i h (6 + 2 * q) u = bI (zGd W p u)) → mm_i h (5 + 2 * q) 2 = zI (zSum (fun t => if zGd W p t = true then 1 else 0) t) →
    (∀ h', zFr (fun x => x = 5 + 2 * q ∨ x = 6 + 2 * q) h h' → zPc h' (5 + 2 * q) p → (∀ u, u < 6 → mm_i h' (6 + 2 * q) u = bI (zGd W p u)) → mm_i h' (5 + 2 * q) 2 = zI (zFits W p) → Q (.inl none) h') →
    mm_wp (d + 3) 31 12 [.ref (5 + 2 * q), .int mv, .int (nI t)] [] h Q := by
  intro m
  induction m with
  | zero =>
    intro t h ht hK hp hW hg hs H
    have e : t = 6 := by omega
    subst e
    rw [s31_12]
    simp only [s31_13, s31_15, s31_18, s31_19, s31_22, s31_23, s31_24, s31_25, s31_28, s31_31, s31_32, s31_33, s31_36, s31_39, s31_40, s31_43, s31_44, s31_45, s31_46, s31_47, s31_50, s31_51, s31_54, s31_55, s31_56, s31_59, s31_60, s31_63, s31_64, s31_65, s31_68, s31_71, s31_74, or_true, true_or, true_and, and_true, mm_o_some, mm_o_none, mm_bk_v, mm_bk_n, Nat.reduceAdd, if_pos (show (6 : Int32) ≤ nI 6 by decide)]
    exact H h zFr.refl hp hg hs
  | succ m ih =>
    intro t h ht hK hp hW hg hs H
    have t6 : t < 6 := by omega
    have c : ¬ (6 : Int32) ≤ nI t := nI_ge (b := 6) t6 (by omega)
    have hin : mm_in (nI t) 6 = true := mm_inN t6 (by omega)
    have hcl : (nI t).toNatClampNeg = t := nI_clamp (by omega)
    have sp := kS_piece hK hq
    have sg := kS_good hK hq
    have sb : (mm_s h 2).1 = 1 := by rw [kS2 hK]
    -- behind the entry
    have rest : ∀ g : Bool, g = zGd W p t → mm_wp (d + 3) 31 44 [.ref (5 + 2 * q), .int mv, .int (nI t)] [.int (bI g), .int (nI t), .ref (6 + 2 * q)] h Q := by
      intro g hg'
      have r0 : mm_i (mm_pi h (6 + 2 * q) t (bI g)) (6 + 2 * q) t = bI g := by rw [mm_i_pi, if_pos ⟨rfl, rfl⟩]
      have r1 : mm_i (mm_pi h (6 + 2 * q) t (bI g)) (5 + 2 * q) 2 = mm_i h (5 + 2 * q) 2 := by rw [mm_i_pi, if_neg (by omega)]
      have fin : ∀ v : Int32, v = bI g → mm_wp (d + 3) 31 12 [.ref (5 + 2 * q), .int mv, .int (nI (t + 1))] [] (mm_pi (mm_pi h (6 + 2 * q) t (bI g)) (5 + 2 * q) 2 (mm_i h (5 + 2 * q) 2 + v)) Q := by
        intro v hv
        have F : zFr (fun x => x = 5 + 2 * q ∨ x = 6 + 2 * q) h (mm_pi (mm_pi h (6 + 2 * q) t (bI g)) (5 + 2 * q) 2 (mm_i h (5 + 2 * q) 2 + v)) := zFr.trans (T := fun x => x = 5 + 2 * q ∨ x = 6 + 2 * q) (zFr.pi (Or.inr rfl)) (zFr.pi (Or.inl rfl))
        refine ih (t + 1) _ (by omega) (zFr.sk hK F) ⟨by simp only [mm_s_pi]; rw [sp], fun k k1 k2 => ?_⟩ (fun k hk' => ?_) (fun u hu => ?_) ?_ (fun h' F' => H h' (F.trans F'))
        · rw [mm_i_pi, if_neg (by omega), mm_i_pi, if_neg (by omega)]; exact hp.2 k k1 k2
        · rw [F.i (by omega)]; exact hW k hk'
        · rw [mm_i_pi, if_neg (by omega), mm_i_pi]
          by_cases e : u = t
          · rw [if_pos ⟨rfl, e⟩, e, hg']
          · rw [if_neg (fun z => e z.2)]; exact hg u (by omega)
        · rw [mm_i_pi, if_pos ⟨rfl, rfl⟩, hs, hv, hg', zSum]
          cases zGd W p t
          · rw [if_neg (by decide), bI_f, show (0 : Int32) = zI 0 from rfl, zI_add]
          · rw [if_pos rfl, bI_t, show (1 : Int32) = zI 1 from rfl, zI_add]
      cases g
      · simp only [s31_44, s31_45, s31_46, s31_47, s31_50, s31_51, s31_54, s31_55, s31_56, s31_59, s31_60, s31_63, s31_64, s31_65, s31_68, s31_71, s31_74, or_true, true_or, true_and, and_true, mm_o_some, mm_o_none, mm_bk_v, mm_bk_n, Nat.reduceAdd, sg, hin, bI_f, mm_s_pi, sp, mm_r_pi, kR_pgood hK hq, hcl] at fin r0 r1 ⊢
        simp only [r0, r1, if_true, nI_1]
        exact fin 0 rfl
      · simp only [s31_44, s31_45, s31_46, s31_47, s31_50, s31_51, s31_54, s31_55, s31_56, s31_59, s31_60, s31_63, s31_64, s31_65, s31_68, s31_71, s31_74, or_true, true_or, true_and, and_true, mm_o_some, mm_o_none, mm_bk_v, mm_bk_n, Nat.reduceAdd, sg, hin, bI_t, mm_s_pi, sp, mm_r_pi, kR_pgood hK hq, hcl] at fin r0 r1 ⊢
        simp only [r0, r1, if_neg (show ¬ (1 : Int32) = 0 by decide), nI_1]
        exact fin 1 rfl
    rw [s31_12]
    simp only [s31_0, s31_1, s31_2, s31_5, s31_6, s31_7, s31_10, s31_11, s31_13, s31_15, s31_18, s31_19, s31_22, s31_23, s31_24, s31_25, s31_28, s31_31, s31_32, s31_33, s31_36, s31_39, s31_40, s31_43, s31_74, or_true, true_or, true_and, and_true, mm_o_some, mm_o_none, mm_bk_v, mm_bk_n, Nat.reduceAdd, if_neg c, sp, kR_pgood hK hq, c32z hp hk t6, c38z hp hk t6 (kR_pbox hK hq) sb hW wk]
    cases g1 : (zAlw p t && zAll (fun u => !(zAlw p u && zLk p u t)) t)
    · simp only [bI_f, if_true]
      refine rest false ?_
      rw [zGd, g1, Bool.false_and]
    · rw [if_neg (show ¬ bI true = 0 by decide)]
      by_cases g2 : zW p t ≤ W 0 ∧ zH p t ≤ W 1 ∧ zD p t ≤ W 2
      · simp only [g2, and_self, decide_true]
        rw [if_neg (show ¬ bI true = 0 by decide)]
        refine rest true ?_
        rw [zGd, g1]
        simp only [g2, and_self, decide_true, Bool.and_self]
      · simp only [g2, decide_false, bI_f, if_true]
        refine rest false ?_
        rw [zGd, g1]
        simp only [g2, decide_false, Bool.and_false]
theorem c31z (hq : q < 8) (hK : zSK h) (hp : zPc h (5 + 2 * q) p) (hk : zPok (zMk p m)) (hW : ∀ k, k < 3 → mm_i h 2 k = zI (W k)) (wk : zWok W) (v : Value)
    (H : ∀ h', zFr (fun x => x = 5 + 2 * q ∨ x = 6 + 2 * q) h h' → zPc h' (5 + 2 * q) (zMk p m) → (∀ u, u < 6 → mm_i h' (6 + 2 * q) u = bI (zGd W (zMk p m) u)) → mm_i h' (5 + 2 * q) 2 = zI (zFits W (zMk p m)) → Q (.inl none) h') :
    mm_wp (d + 3) 31 0 [.ref (5 + 2 * q), .int (zI m), v] [] h Q := by
  have sp := kS_piece hK hq
  simp only [s31_0, s31_1, s31_2, s31_5, s31_6, s31_7, s31_10, s31_11, or_true, true_or, true_and, and_true, mm_o_some, mm_o_none, mm_bk_v, mm_bk_n, Nat.reduceAdd, sp, mm_s_pi]
  have F : zFr (fun x => x = 5 + 2 * q ∨ x = 6 + 2 * q) h (mm_pi (mm_pi h (5 + 2 * q) 7 (zI m)) (5 + 2 * q) 2 0) := zFr.trans (T := fun x => x = 5 + 2 * q ∨ x = 6 + 2 * q) (zFr.pi (Or.inl rfl)) (zFr.pi (Or.inl rfl))
  have e2 : mm_i (mm_pi (mm_pi h (5 + 2 * q) 7 (zI m)) (5 + 2 * q) 2 0) (5 + 2 * q) 2 = zI 0 := by rw [mm_i_pi, if_pos ⟨rfl, rfl⟩]; rfl
  have hp1 : zPc (mm_pi (mm_pi h (5 + 2 * q) 7 (zI m)) (5 + 2 * q) 2 0) (5 + 2 * q) (zMk p m) := by
    refine ⟨by simp only [mm_s_pi]; rw [sp], fun k k1 k2 => ?_⟩
    rw [mm_i_pi, if_neg (by omega), mm_i_pi]
    by_cases e : k = 7
    · rw [if_pos ⟨rfl, e⟩, e]; rfl
    · rw [if_neg (fun z => e z.2), zMk, if_neg e]; exact hp.2 k k1 k2
  generalize mm_pi (mm_pi h (5 + 2 * q) 7 (zI m)) (5 + 2 * q) 2 0 = h1 at *
  rw [← nI_lit0]
  exact c31_loop hq hk wk _ 6 0 h1 (by omega) (zFr.sk hK F) hp1 (fun k hk' => by rw [F.i (by omega)]; exact hW k hk') (fun u hu => by omega) e2 (fun h' F' => H h' (F.trans F'))
/-- a new piece's numbers -/
def zNew (w e f g : Int) : Nat → Int := fun k => if k = 3 then w else if k = 4 then e else if k = 5 then f else if k = 6 then g else if k = 9 then 100000 else 0
theorem c30z (hq : q < 8) (hK : zSK h) {w e f g : Int} (hk : zPok (zNew w e f g)) (hW : ∀ k, k < 3 → mm_i h 2 k = zI (W k)) (wk : zWok W)
    (H : ∀ h', zFr (fun x => x = 5 + 2 * q ∨ x = 6 + 2 * q) h h' → zPc h' (5 + 2 * q) (zNew w e f g) → (∀ u, u < 6 → mm_i h' (6 + 2 * q) u = bI (zGd W (zNew w e f g) u)) → mm_i h' (5 + 2 * q) 2 = zI (zFits W (zNew w e f g)) → Q (.inl none) h') :
    mm_wp (d + 4) 30 0 [.ref (5 + 2 * q), .int (zI w), .int (zI e), .int (zI f), .int (zI g)] [] h Q := by
  have sp := kS_piece hK hq
  simp only [s30_0, s30_1, s30_2, s30_5, s30_6, s30_7, s30_10, s30_11, s30_12, s30_15, s30_16, s30_18, s30_21, s30_22, s30_23, s30_26, s30_27, s30_29, s30_32, s30_33, s30_34, s30_37, or_true, true_or, true_and, and_true, mm_o_some, mm_o_none, mm_bk_v, mm_bk_n, Nat.reduceAdd, sp, mm_s_pi]
  have F : zFr (fun x => x = 5 + 2 * q ∨ x = 6 + 2 * q) h (mm_pi (mm_pi (mm_pi (mm_pi (mm_pi (mm_pi h (5 + 2 * q) 3 (zI w)) (5 + 2 * q) 4 (zI e)) (5 + 2 * q) 5 (zI f)) (5 + 2 * q) 6 (zI g)) (5 + 2 * q) 8 0) (5 + 2 * q) 9 100000) := zFr.trans (T := fun x => x = 5 + 2 * q ∨ x = 6 + 2 * q) (zFr.trans (zFr.trans (zFr.trans (zFr.trans (zFr.pi (Or.inl rfl)) (zFr.pi (Or.inl rfl))) (zFr.pi (Or.inl rfl))) (zFr.pi (Or.inl rfl))) (zFr.pi (Or.inl rfl))) (zFr.pi (Or.inl rfl))
  have hi : ∀ k, mm_i (mm_pi (mm_pi (mm_pi (mm_pi (mm_pi (mm_pi h (5 + 2 * q) 3 (zI w)) (5 + 2 * q) 4 (zI e)) (5 + 2 * q) 5 (zI f)) (5 + 2 * q) 6 (zI g)) (5 + 2 * q) 8 0) (5 + 2 * q) 9 100000) (5 + 2 * q) k = if k = 9 then 100000 else if k = 8 then 0 else if k = 6 then zI g else if k = 5 then zI f else if k = 4 then zI e else if k = 3 then zI w else mm_i h (5 + 2 * q) k := by
    intro k
    simp only [mm_i_pi, true_and]
  have hs : (mm_s (mm_pi (mm_pi (mm_pi (mm_pi (mm_pi (mm_pi h (5 + 2 * q) 3 (zI w)) (5 + 2 * q) 4 (zI e)) (5 + 2 * q) 5 (zI f)) (5 + 2 * q) 6 (zI g)) (5 + 2 * q) 8 0) (5 + 2 * q) 9 100000) (5 + 2 * q)).1 = 5 := by simp only [mm_s_pi]; rw [sp]
  generalize mm_pi (mm_pi (mm_pi (mm_pi (mm_pi (mm_pi h (5 + 2 * q) 3 (zI w)) (5 + 2 * q) 4 (zI e)) (5 + 2 * q) 5 (zI f)) (5 + 2 * q) 6 (zI g)) (5 + 2 * q) 8 0) (5 + 2 * q) 9 100000 = h1 at *
  have e0 : (0 : Int32) = zI 0 := rfl
  have em : zMk (fun k => if k = 7 then (mm_i h (5 + 2 * q) 7).toInt else zNew w e f g k) 0 = zNew w e f g := by
    funext k
    simp only [zMk, zNew]
    split
    · rename_i z; subst z; rfl
    · rfl
  rw [e0]
  refine c31z hq (zFr.sk hK F) (p := fun k => if k = 7 then (mm_i h (5 + 2 * q) 7).toInt else zNew w e f g k) ⟨hs, fun k k1 k2 => ?_⟩ (by rw [em]; exact hk) (fun k hk' => by rw [F.i (by omega)]; exact hW k hk') wk _ (fun h' F' => ?_)
  · rw [hi]
    have : k = 3 ∨ k = 4 ∨ k = 5 ∨ k = 6 ∨ k = 7 ∨ k = 8 ∨ k = 9 := by omega
    rcases this with rfl | rfl | rfl | rfl | rfl | rfl | rfl <;> simp only [zNew, Nat.reduceEqDiff, reduceIte]
    · simp [zI]
    · rfl
    · rfl
  · rw [em]
    intro a b c
    simp only [s30_0, s30_1, s30_2, s30_5, s30_6, s30_7, s30_10, s30_11, s30_12, s30_15, s30_16, s30_18, s30_21, s30_22, s30_23, s30_26, s30_27, s30_29, s30_32, s30_33, s30_34, s30_37, or_true, true_or, true_and, and_true, mm_o_some, mm_o_none, mm_bk_v, mm_bk_n, Nat.reduceAdd]
    exact H h' (F.trans F') a b c
end
