/-! THE REFERENCE: ITS CALLS -/
section
variable {d : Nat} {h h' : mm_H} {Q : mm_Q} {L n a b q t u i r e j k na bL told p : Nat} {W A : Nat → Int} {m mk : Int} {R bR : zR} {P : Nat → Nat → Int} {sp : Bool} {T : Nat → Prop} {x2 x3 x4 : Int32} {l : List Int} {c : Nat} {h'' : mm_H} {s : zS} {x : Int32} {y z v w : Int} {C : Nat → Int}
theorem nI_tp (hn : n ≤ 8) : (nI n - 1).toInt = (n : Int) - 1 := by
  rw [zI_n, zI_1, zI_sub, zI_toInt]
  simp only [zr]; omega
theorem c115x (H : zMo h W n P mk sp bL bR na A) (hn : n ≤ 8) (hx : x < 0 ∨ (¬ x < 0 ∧ ¬ x < nI n)) : mm_wp (d + 1) 115 0 [.ref 142, .int x] [] h Q ↔ Q (.inl (some (.int 0))) h := by
  have g : ¬ (0 ≤ x.toInt ∧ x.toInt ≤ (n : Int) - 1) := by
    rcases hx with q | ⟨_, q⟩
    · rw [Int32.lt_iff_toInt_lt, i32_0] at q; omega
    · rw [Int32.lt_iff_toInt_lt, nI_toInt (by omega)] at q; omega
  simp only [s115_0, s115_1, s115_2, s115_3, s115_6, s115_7, s115_8, s115_11, or_true, true_or, true_and, and_true, mm_o_some, mm_o_none, mm_bk_v, mm_bk_n, Nat.reduceAdd, kS142 H.1, H.2.1.2.1, c112, i32_0, nI_tp hn, if_neg g]
theorem c115z (H : zMo h W n P mk sp bL bR na A) (hn : n ≤ 8) (hj : j < n) : mm_wp (d + 1) 115 0 [.ref 142, .int (nI j)] [] h Q ↔ Q (.inl (some (.int 1))) h := by
  have g : 0 ≤ (nI j).toInt ∧ (nI j).toInt ≤ (n : Int) - 1 := by rw [nI_toInt (by omega)]; omega
  simp only [s115_0, s115_1, s115_2, s115_3, s115_6, s115_7, s115_8, s115_11, or_true, true_or, true_and, and_true, mm_o_some, mm_o_none, mm_bk_v, mm_bk_n, Nat.reduceAdd, kS142 H.1, H.2.1.2.1, c112, i32_0, nI_tp hn, if_pos g]
theorem c110z (hK : zSK h) : mm_wp d 110 0 [.ref 142] [] h Q ↔ Q (.inl (some (.int (mm_i h 142 0)))) h := by
  simp only [s110_0, s110_1, s110_4, or_true, true_or, true_and, and_true, mm_o_some, mm_o_none, mm_bk_v, mm_bk_n, Nat.reduceAdd, kS142 hK]
theorem c138z (H : zMo h W n P mk sp bL bR na A) : mm_wp d 138 0 [.ref 142] [] h Q ↔ Q (.inl (some (.int (bI (decide (¬ mk = -1) && !sp))))) (mm_pi h 142 0 0) := by
  have e20 : mm_i (mm_pi h 142 0 0) 142 20 = bI (decide (¬ mk = -1)) := by rw [mm_i_pi, if_neg (by omega)]; exact H.2.2.2.1
  have e21 : mm_i (mm_pi h 142 0 0) 142 21 = bI sp := by rw [mm_i_pi, if_neg (by omega)]; exact H.2.2.2.2.1
  simp only [s138_0, s138_1, s138_2, s138_5, s138_6, s138_9, s138_12, s138_13, s138_16, s138_19, s138_20, s138_23, s138_24, or_true, true_or, true_and, and_true, mm_o_some, mm_o_none, mm_bk_v, mm_bk_n, Nat.reduceAdd, kS142 H.1, mm_s_pi, e20, e21]
  cases decide (¬ mk = -1)
  · simp only [bI_f, if_true, Bool.false_and]
  · rw [if_neg (show ¬ bI true = 0 by decide)]
    cases sp
    · simp only [bI_f, if_true, Bool.not_false, Bool.and_self, bI_t]
    · rw [if_neg (show ¬ bI true = 0 by decide)]
      exact Iff.rfl
theorem c139z (H : zMo h W n P mk sp bL bR na A) : mm_wp d 139 0 [.ref 142] [] h Q ↔ Q (.inl (some (.int (zI mk)))) (mm_pi h 142 0 0) := by
  have e20 : mm_i (mm_pi h 142 0 0) 142 20 = bI (decide (¬ mk = -1)) := by rw [mm_i_pi, if_neg (by omega)]; exact H.2.2.2.1
  by_cases g : mk = -1
  · have c : mm_i (mm_pi h 142 0 0) 142 20 = 0 := by rw [e20, g]; rfl
    simp only [s139_0, s139_1, s139_2, s139_5, s139_6, s139_9, s139_12, s139_13, s139_16, s139_19, s139_20, or_true, true_or, true_and, and_true, mm_o_some, mm_o_none, mm_bk_v, mm_bk_n, Nat.reduceAdd, kS142 H.1, mm_s_pi, if_pos c, g]
    exact Iff.rfl
  · have c : ¬ mm_i (mm_pi h 142 0 0) 142 20 = 0 := by rw [e20, decide_eq_true g]; decide
    have e22 : mm_i (mm_pi h 142 0 0) 142 22 = zI mk := by rw [mm_i_pi, if_neg (by omega)]; exact H.2.2.2.2.2.1 g
    simp only [s139_0, s139_1, s139_2, s139_5, s139_6, s139_9, s139_12, s139_13, s139_16, s139_19, s139_20, or_true, true_or, true_and, and_true, mm_o_some, mm_o_none, mm_bk_v, mm_bk_n, Nat.reduceAdd, kS142 H.1, mm_s_pi, if_neg c, e22]
theorem c142z (H : zMo h W n P mk sp bL bR na A) : mm_wp d 142 0 [.ref 142] [] h Q ↔ Q (.inl (some (.long (zL (zMom bL bR))))) (mm_pi h 142 0 0) := by
  simp only [s142_0, s142_1, s142_2, s142_5, s142_6, s142_9, or_true, true_or, true_and, and_true, mm_o_some, mm_o_none, mm_bk_v, mm_bk_n, Nat.reduceAdd, kS142 H.1, mm_s_pi, mm_l_pi, H.2.2.1.2.2.2.1]
theorem c118x (H : zMo h W n P mk sp bL bR na A) (hn : n ≤ 8) (hx : x < 0 ∨ (¬ x < 0 ∧ ¬ x < nI n)) : mm_wp (d + 2) 118 0 [.ref 142, .int x] [] h Q ↔ Q (.inl (some (.int 0))) (mm_pi h 142 0 1) := by
  simp only [s118_0, s118_1, s118_2, s118_3, s118_6, s118_9, s118_10, s118_13, s118_14, s118_17, s118_18, s118_21, s118_24, s118_25, s118_28, s118_29, s118_30, s118_33, or_true, true_or, true_and, and_true, mm_o_some, mm_o_none, mm_bk_v, mm_bk_n, Nat.reduceAdd, kS142 H.1, c115x H hn hx, if_true, mm_s_pi, th0, if_neg (show ¬ (1 : Int32) ≤ 0 by decide)]
theorem c118z (H : zMo h W n P mk sp bL bR na A) (hn : n ≤ 8) (hj : j < n) (wk : zWok W) (hPk : ∀ p, p < n → zPok (P p)) (K : ∀ h', zFr (fun x => 142 ≤ x ∧ x < 167) h h' → zMo h' W n P mk sp bL bR na A → mm_i h' 142 0 = 0 → Q (.inl (some (.int (zI (zFits W (P j)))))) h') : mm_wp (d + 4) 118 0 [.ref 142, .int (nI j)] [] h Q := by
  have H0 := H.th (v := 0)
  simp only [s118_0, s118_1, s118_2, s118_3, s118_6, s118_9, s118_10, s118_13, s118_14, s118_17, s118_18, s118_21, s118_24, s118_25, s118_28, s118_29, s118_30, s118_33, or_true, true_or, true_and, and_true, mm_o_some, mm_o_none, mm_bk_v, mm_bk_n, Nat.reduceAdd, kS142 H.1, c115z H hn hj, if_neg n10, mm_s_pi, th0, if_pos (show (0 : Int32) ≤ 0 by decide)]
  refine c119z H0.1 H0.2.1 (hPk j hj) hj hn wk _ _ (fun h1 F1 => ?_)
  simp only [s118_0, s118_1, s118_2, s118_3, s118_6, s118_9, s118_10, s118_13, s118_14, s118_17, s118_18, s118_21, s118_24, s118_25, s118_28, s118_29, s118_30, s118_33, or_true, true_or, true_and, and_true, mm_o_some, mm_o_none, mm_bk_v, mm_bk_n, Nat.reduceAdd]
  exact K h1 (zFr.th.trans (F1.mono (fun a ha => by omega))) (H0.fm (F1.fm (K := fun _ => False) (by omega)) (fun _ _ _ q => q) (fun x x1 x2 _ => by omega)) (by rw [F1.i (by omega)]; exact th0)
theorem c124_loop (hn : n ≤ 8) (wk : zWok W) (hPk : ∀ p, p < n → zPok (P p)) : ∀ m i h, i + m = n → zMo h W n P mk sp bL bR na A → mm_i h 142 0 = 0 → (∀ h', zFr (fun x => 142 ≤ x ∧ x < 167) h h' → zMo h' W n P mk sp bL bR na A → mm_i h' 142 0 = 0 → mm_wp (d + 4) 124 43 [.ref 142, .int (zI (zFv W P n)), .int (nI n)] [] h' Q) → mm_wp (d + 4) 124 9 [.ref 142, .int (zI (zFv W P i)), .int (nI i)] [] h Q := by
  intro m
  induction m with
  | zero =>
    intro i h hi H t0 K
    obtain rfl : i = n := by omega
    rw [s124_9]
    simp only [s124_10, s124_11, s124_14, s124_17, s124_18, s124_19, s124_20, s124_23, s124_26, s124_27, s124_28, s124_31, s124_34, s124_35, s124_36, s124_37, s124_40, or_true, true_or, true_and, and_true, mm_o_some, mm_o_none, mm_bk_v, mm_bk_n, Nat.reduceAdd, kS142 H.1, H.2.1.2.1, if_pos (Int32.le_refl (nI i))]
    exact K h zFr.refl H t0
  | succ m ih =>
    intro i h hi H t0 K
    have hin : i < n := by omega
    have c : ¬ nI n ≤ nI i := nI_ge hin (by omega)
    have fr := zFits_r (W := W) (p := P i)
    have r1 : zr (zFits W (P i)) := by simp only [zr]; omega
    have r0 : zr 0 := by simp only [zr]; omega
    rw [s124_9]
    simp only [s124_10, s124_11, s124_14, s124_17, s124_18, s124_19, s124_20, s124_23, s124_26, s124_27, s124_28, s124_31, s124_34, s124_35, s124_36, s124_37, s124_40, or_true, true_or, true_and, and_true, mm_o_some, mm_o_none, mm_bk_v, mm_bk_n, Nat.reduceAdd, kS142 H.1, H.2.1.2.1, if_neg c]
    refine c119z H.1 H.2.1 (hPk i hin) hin hn wk _ _ (fun h1 F1 => ?_)
    have H1 : zMo h1 W n P mk sp bL bR na A := H.fm (F1.fm (K := fun _ => False) (by omega)) (fun _ _ _ q => q) (fun x x1 x2 _ => by omega)
    have i0 : zI (zFits W (P i)) ≤ (0 : Int32) ↔ zFits W (P i) ≤ 0 := zI_le r1 r0
    have ih' := ih (i + 1) h1 (by omega) H1 (by rw [F1.i (by omega)]; exact t0) (fun h' F' => K h' ((F1.mono (fun a ha => by omega)).trans F'))
    simp only [s124_10, s124_11, s124_14, s124_17, s124_18, s124_19, s124_20, s124_23, s124_26, s124_27, s124_28, s124_31, s124_34, s124_35, s124_36, s124_37, s124_40, or_true, true_or, true_and, and_true, mm_o_some, mm_o_none, mm_bk_v, mm_bk_n, Nat.reduceAdd, i0, kS142 H1.1, c125z H1.1 H1.2.1 hin hn, zI_add, zI_p0, nI_1]
    by_cases g : zFits W (P i) ≤ 0
    · rw [if_pos g]
      have e : zFv W P (i + 1) = zFv W P i := by simp only [zFv, zSum]; rw [if_neg (show ¬ 0 < zFits W (P i) by omega)]; omega
      rw [e] at ih'
      exact ih'
    · rw [if_neg g]
      have e : zFv W P (i + 1) = zFv W P i + P i 3 * P i 4 * P i 5 := by simp only [zFv, zSum]; rw [if_pos (show 0 < zFits W (P i) by omega)]
      rw [e] at ih'
      exact ih'
theorem c124z (H : zMo h W n P mk sp bL bR na A) (hn : n ≤ 8) (wk : zWok W) (hPk : ∀ p, p < n → zPok (P p)) (v1 v2 : Value) (K : ∀ h', zFr (fun x => 142 ≤ x ∧ x < 167) h h' → zMo h' W n P mk sp bL bR na A → Q (.inl (some (.int (zI (min (W 0 * W 1 * W 2) (zFv W P n)))))) h') : mm_wp (d + 4) 124 0 [.ref 142, v1, v2] [] h Q := by
  have H0 := H.th (v := 0)
  have f1 := zFv_r (W := W) hPk hn
  have f2 := zWv_r wk
  have r1 : zr (zFv W P n) := by simp only [zr]; omega
  have r2 : zr (W 0 * W 1 * W 2) := by simp only [zr]; omega
  simp only [s124_0, s124_1, s124_2, s124_5, s124_6, s124_7, s124_8, or_true, true_or, true_and, and_true, mm_o_some, mm_o_none, mm_bk_v, mm_bk_n, Nat.reduceAdd, kS142 H.1]
  have l := c124_loop (d := d) (Q := Q) hn wk hPk n 0 (mm_pi h 142 0 0) (by omega) H0 th0
  rw [nI_lit0, show zI (zFv W P 0) = 0 from rfl] at l
  refine l (fun h1 F1 H1 _ => ?_)
  simp only [s124_43, s124_44, s124_47, s124_48, s124_49, s124_50, s124_53, s124_54, s124_55, s124_56, s124_57, s124_60, s124_61, s124_62, s124_63, s124_64, s124_65, s124_66, s124_69, s124_70, s124_73, s124_74, or_true, true_or, true_and, and_true, mm_o_some, mm_o_none, mm_bk_v, mm_bk_n, Nat.reduceAdd, kS142 H1.1, kR142_1 H1.1, kS143 H1.1, in3_0, in3_1, in3_2, cl_0, cl_1, cl_2, H1.2.1.1 0 (by decide), H1.2.1.1 1 (by decide), H1.2.1.1 2 (by decide), zI_mul, zI_le r2 r1]
  have K' := K h1 (zFr.th.trans F1) H1
  by_cases g : W 0 * W 1 * W 2 ≤ zFv W P n
  · rw [if_pos g]
    rw [show min (W 0 * W 1 * W 2) (zFv W P n) = W 0 * W 1 * W 2 by omega] at K'
    exact K'
  · rw [if_neg g]
    rw [show min (W 0 * W 1 * W 2) (zFv W P n) = zFv W P n by omega] at K'
    exact K'

theorem c114x (H : zMo h W n P mk sp bL bR na A) (hn : n ≤ 8) (hx : x < 0 ∨ (¬ x < 0 ∧ ¬ x < nI n)) (v3 : Value) : mm_wp (d + 2) 114 0 [.ref 142, .int x, .int x2, v3] [] h Q ↔ Q (.inl (some (.int 0))) (mm_pi h 142 0 1) := by
  simp only [s114_0, s114_1, s114_2, s114_3, s114_6, s114_9, s114_10, s114_13, s114_14, s114_15, s114_16, s114_19, s114_22, s114_23, s114_26, s114_27, s114_30, s114_31, s114_34, s114_37, s114_38, or_true, true_or, true_and, and_true, mm_o_some, mm_o_none, mm_bk_v, mm_bk_n, Nat.reduceAdd, kS142 H.1, c115x H hn hx, if_true, mm_s_pi, th0, if_neg (show ¬ (1 : Int32) ≤ 0 by decide)]
theorem c114y (H : zMo h W n P mk sp bL bR na A) (hn : n ≤ 8) (hj : j < n) (hx : ¬ (0 ≤ x2.toInt ∧ x2.toInt ≤ 3)) (v3 : Value) : mm_wp (d + 2) 114 0 [.ref 142, .int (nI j), .int x2, v3] [] h Q ↔ Q (.inl (some (.int 0))) (mm_pi h 142 0 2) := by
  simp only [s114_0, s114_1, s114_2, s114_3, s114_6, s114_9, s114_10, s114_13, s114_14, s114_15, s114_16, s114_19, s114_22, s114_23, s114_26, s114_27, s114_30, s114_31, s114_34, s114_37, s114_38, or_true, true_or, true_and, and_true, mm_o_some, mm_o_none, mm_bk_v, mm_bk_n, Nat.reduceAdd, kS142 H.1, c115z H hn hj, if_neg n10, c112, i32_0, i32_3, if_neg hx, if_true, mm_s_pi, th0, if_neg (show ¬ (2 : Int32) ≤ 0 by decide)]
theorem c114z (H : zMo h W n P mk sp bL bR na A) (hn : n ≤ 8) (hj : j < n) (hx : 0 ≤ x2.toInt ∧ x2.toInt ≤ 3) (v3 : Value) (K : ∀ h', zFr (fun x => 142 ≤ x ∧ x < 167) h h' → zMo h' W n (zSet P j (zUp1 (P j) 7 x2.toInt)) (-1) sp 0 zR0 na A → mm_i h' 142 0 = 0 → Q (.inl (some (.int (zI (P j 7))))) h') : mm_wp (d + 2) 114 0 [.ref 142, .int (nI j), .int x2, v3] [] h Q := by
  have H0 := H.th (v := 0)
  have hin : mm_in (nI j) 8 = true := mm_inN (by omega) (by omega)
  have hcl : (nI j).toNatClampNeg = j := nI_clamp (by omega)
  have e1 : mm_i (mm_pi h 142 0 0) 146 j = zI (P j 7) := by
    obtain ⟨g1, g2, g3, g4, g5⟩ := H0.2.1.2.2 j hj
    exact g3
  simp only [s114_0, s114_1, s114_2, s114_3, s114_6, s114_9, s114_10, s114_13, s114_14, s114_15, s114_16, s114_19, s114_22, s114_23, s114_26, s114_27, s114_30, s114_31, s114_34, s114_37, s114_38, s114_39, s114_40, s114_43, s114_44, s114_45, s114_46, s114_47, s114_50, s114_51, s114_52, or_true, true_or, true_and, and_true, mm_o_some, mm_o_none, mm_bk_v, mm_bk_n, Nat.reduceAdd, kS142 H.1, c115z H hn hj, if_neg n10, c112, i32_0, i32_3, if_pos hx, mm_s_pi, th0, if_pos (show (0 : Int32) ≤ 0 by decide), mm_r_pi, kR142_5 H.1, kS146 H.1, hin, hcl, e1, Nat.reduceEqDiff, not_false_eq_true]
  have F1 : zFr (fun x => x = 146) (mm_pi h 142 0 0) (mm_pi (mm_pi h 142 0 0) 146 j x2) := zFr.pi rfl
  have F1m : zFm (fun _ => False) (fun x => x = 146) (mm_pi h 142 0 0) (mm_pi (mm_pi h 142 0 0) 146 j x2) := F1.fm (by omega)
  have ev : ∀ i, mm_i (mm_pi (mm_pi h 142 0 0) 146 j x2) 146 i = if i = j then x2 else mm_i (mm_pi h 142 0 0) 146 i := fun i => by rw [mm_i_pi]; by_cases e : i = j; rw [if_pos ⟨rfl, e⟩, if_pos e]; rw [if_neg (fun q => e q.2), if_neg e]
  have t1 : mm_i (mm_pi (mm_pi h 142 0 0) 146 j x2) 142 0 = 0 := by rw [F1.i (by omega)]; exact th0
  generalize mm_pi (mm_pi h 142 0 0) 146 j x2 = h1 at *
  have H1 : zMo h1 W n (zSet P j (zUp1 (P j) 7 x2.toInt)) mk sp bL bR na A := by
    obtain ⟨h1', h2, h3, h4, h5, h6, h7, h8⟩ := H0
    refine ⟨F1m.sk h1', ⟨fun k hk => by rw [F1.i (by omega)]; exact h2.1 k hk, by rw [F1.i (by omega)]; exact h2.2.1, fun p hp => ?_⟩, h3.fm F1m ⟨fun q => q, fun q => q, fun q => q⟩ (fun x x1 x2 => by omega), by rw [F1.i (by omega)]; exact h4, by rw [F1.i (by omega)]; exact h5, fun e => by rw [F1.i (by omega)]; exact h6 e, by rw [F1.i (by omega)]; exact h7, fun i hi => by rw [F1.i (by omega)]; exact h8 i hi⟩
    obtain ⟨g1, g2, g3, g4, g5⟩ := h2.2.2 p hp
    by_cases e : p = j
    · subst e
      have es : zSet P p (zUp1 (P p) 7 x2.toInt) p = zUp1 (P p) 7 x2.toInt := by rw [zSet, if_pos rfl]
      rw [es]
      refine ⟨fun a ha => ?_, by rw [F1.i (by omega), zUp1, if_neg (by decide)]; exact g2, by rw [ev, if_pos rfl, zUp1, if_pos rfl, zI_x], by rw [F1.i (by omega), zUp1, if_neg (by decide)]; exact g4, by rw [F1.i (by omega), zUp1, if_neg (by decide)]; exact g5⟩
      rw [F1.i (by omega), zUp1, if_neg (by omega)]; exact g1 a ha
    · have es : zSet P j (zUp1 (P j) 7 x2.toInt) p = P p := by rw [zSet, if_neg e]
      rw [es]
      exact ⟨fun a ha => by rw [F1.i (by omega)]; exact g1 a ha, by rw [F1.i (by omega)]; exact g2, by rw [ev, if_neg e]; exact g3, by rw [F1.i (by omega)]; exact g4, by rw [F1.i (by omega)]; exact g5⟩
  simp only [s114_53, s114_54, s114_57, s114_58, or_true, true_or, true_and, and_true, mm_o_some, mm_o_none, mm_bk_v, mm_bk_n, Nat.reduceAdd, kS142 H1.1]
  refine c113z H1 (fun h2 F2 H2 => ?_)
  simp only [s114_53, s114_54, s114_57, s114_58, or_true, true_or, true_and, and_true, mm_o_some, mm_o_none, mm_bk_v, mm_bk_n, Nat.reduceAdd]
  exact K h2 ((zFr.th.trans (F1.mono (fun a ha => by omega))).trans (F2.1.mono (fun a ha => by rcases ha with q | q; omega; exact q.elim))) H2 (by rw [(F2.2 0 (by omega)).1]; exact t1)

theorem c116x (H : zMo h W n P mk sp bL bR na A) (hn : n ≤ 8) (hx : x < 0 ∨ (¬ x < 0 ∧ ¬ x < nI n)) (v3 : Value) : mm_wp (d + 2) 116 0 [.ref 142, .int x, .int x2, v3] [] h Q ↔ Q (.inl (some (.int 0))) (mm_pi h 142 0 1) := by
  simp only [s116_0, s116_1, s116_2, s116_3, s116_6, s116_9, s116_10, s116_13, s116_14, s116_15, s116_17, s116_20, s116_23, s116_24, s116_27, s116_28, s116_31, s116_32, s116_35, s116_38, s116_39, or_true, true_or, true_and, and_true, mm_o_some, mm_o_none, mm_bk_v, mm_bk_n, Nat.reduceAdd, kS142 H.1, c115x H hn hx, if_true, mm_s_pi, th0, if_neg (show ¬ (1 : Int32) ≤ 0 by decide)]
theorem c116y (H : zMo h W n P mk sp bL bR na A) (hn : n ≤ 8) (hj : j < n) (hx : ¬ (0 ≤ x2.toInt ∧ x2.toInt ≤ 9)) (v3 : Value) : mm_wp (d + 2) 116 0 [.ref 142, .int (nI j), .int x2, v3] [] h Q ↔ Q (.inl (some (.int 0))) (mm_pi h 142 0 2) := by
  simp only [s116_0, s116_1, s116_2, s116_3, s116_6, s116_9, s116_10, s116_13, s116_14, s116_15, s116_17, s116_20, s116_23, s116_24, s116_27, s116_28, s116_31, s116_32, s116_35, s116_38, s116_39, or_true, true_or, true_and, and_true, mm_o_some, mm_o_none, mm_bk_v, mm_bk_n, Nat.reduceAdd, kS142 H.1, c115z H hn hj, if_neg n10, c112, i32_0, i32_9, if_neg hx, if_true, mm_s_pi, th0, if_neg (show ¬ (2 : Int32) ≤ 0 by decide)]
theorem c116z (H : zMo h W n P mk sp bL bR na A) (hn : n ≤ 8) (hj : j < n) (hx : 0 ≤ x2.toInt ∧ x2.toInt ≤ 9) (v3 : Value) (K : ∀ h', zFr (fun x => 142 ≤ x ∧ x < 167) h h' → zMo h' W n (zSet P j (zUp1 (P j) 8 x2.toInt)) (-1) sp 0 zR0 na A → mm_i h' 142 0 = 0 → Q (.inl (some (.int (zI (P j 8))))) h') : mm_wp (d + 2) 116 0 [.ref 142, .int (nI j), .int x2, v3] [] h Q := by
  have H0 := H.th (v := 0)
  have hin : mm_in (nI j) 8 = true := mm_inN (by omega) (by omega)
  have hcl : (nI j).toNatClampNeg = j := nI_clamp (by omega)
  have e1 : mm_i (mm_pi h 142 0 0) 147 j = zI (P j 8) := by
    obtain ⟨g1, g2, g3, g4, g5⟩ := H0.2.1.2.2 j hj
    exact g4
  simp only [s116_0, s116_1, s116_2, s116_3, s116_6, s116_9, s116_10, s116_13, s116_14, s116_15, s116_17, s116_20, s116_23, s116_24, s116_27, s116_28, s116_31, s116_32, s116_35, s116_38, s116_39, s116_40, s116_41, s116_44, s116_45, s116_46, s116_47, s116_48, s116_51, s116_52, s116_53, or_true, true_or, true_and, and_true, mm_o_some, mm_o_none, mm_bk_v, mm_bk_n, Nat.reduceAdd, kS142 H.1, c115z H hn hj, if_neg n10, c112, i32_0, i32_9, if_pos hx, mm_s_pi, th0, if_pos (show (0 : Int32) ≤ 0 by decide), mm_r_pi, kR142_6 H.1, kS147 H.1, hin, hcl, e1, Nat.reduceEqDiff, not_false_eq_true]
  have F1 : zFr (fun x => x = 147) (mm_pi h 142 0 0) (mm_pi (mm_pi h 142 0 0) 147 j x2) := zFr.pi rfl
  have F1m : zFm (fun _ => False) (fun x => x = 147) (mm_pi h 142 0 0) (mm_pi (mm_pi h 142 0 0) 147 j x2) := F1.fm (by omega)
  have ev : ∀ i, mm_i (mm_pi (mm_pi h 142 0 0) 147 j x2) 147 i = if i = j then x2 else mm_i (mm_pi h 142 0 0) 147 i := fun i => by rw [mm_i_pi]; by_cases e : i = j; rw [if_pos ⟨rfl, e⟩, if_pos e]; rw [if_neg (fun q => e q.2), if_neg e]
  have t1 : mm_i (mm_pi (mm_pi h 142 0 0) 147 j x2) 142 0 = 0 := by rw [F1.i (by omega)]; exact th0
  generalize mm_pi (mm_pi h 142 0 0) 147 j x2 = h1 at *
  have H1 : zMo h1 W n (zSet P j (zUp1 (P j) 8 x2.toInt)) mk sp bL bR na A := by
    obtain ⟨h1', h2, h3, h4, h5, h6, h7, h8⟩ := H0
    refine ⟨F1m.sk h1', ⟨fun k hk => by rw [F1.i (by omega)]; exact h2.1 k hk, by rw [F1.i (by omega)]; exact h2.2.1, fun p hp => ?_⟩, h3.fm F1m ⟨fun q => q, fun q => q, fun q => q⟩ (fun x x1 x2 => by omega), by rw [F1.i (by omega)]; exact h4, by rw [F1.i (by omega)]; exact h5, fun e => by rw [F1.i (by omega)]; exact h6 e, by rw [F1.i (by omega)]; exact h7, fun i hi => by rw [F1.i (by omega)]; exact h8 i hi⟩
    obtain ⟨g1, g2, g3, g4, g5⟩ := h2.2.2 p hp
    by_cases e : p = j
    · subst e
      have es : zSet P p (zUp1 (P p) 8 x2.toInt) p = zUp1 (P p) 8 x2.toInt := by rw [zSet, if_pos rfl]
      rw [es]
      refine ⟨fun a ha => ?_, by rw [F1.i (by omega), zUp1, if_neg (by decide)]; exact g2, by rw [F1.i (by omega), zUp1, if_neg (by decide)]; exact g3, by rw [ev, if_pos rfl, zUp1, if_pos rfl, zI_x], by rw [F1.i (by omega), zUp1, if_neg (by decide)]; exact g5⟩
      rw [F1.i (by omega), zUp1, if_neg (by omega)]; exact g1 a ha
    · have es : zSet P j (zUp1 (P j) 8 x2.toInt) p = P p := by rw [zSet, if_neg e]
      rw [es]
      exact ⟨fun a ha => by rw [F1.i (by omega)]; exact g1 a ha, by rw [F1.i (by omega)]; exact g2, by rw [F1.i (by omega)]; exact g3, by rw [ev, if_neg e]; exact g4, by rw [F1.i (by omega)]; exact g5⟩
  simp only [s116_54, s116_55, s116_58, s116_59, or_true, true_or, true_and, and_true, mm_o_some, mm_o_none, mm_bk_v, mm_bk_n, Nat.reduceAdd, kS142 H1.1]
  refine c113z H1 (fun h2 F2 H2 => ?_)
  simp only [s116_54, s116_55, s116_58, s116_59, or_true, true_or, true_and, and_true, mm_o_some, mm_o_none, mm_bk_v, mm_bk_n, Nat.reduceAdd]
  exact K h2 ((zFr.th.trans (F1.mono (fun a ha => by omega))).trans (F2.1.mono (fun a ha => by rcases ha with q | q; omega; exact q.elim))) H2 (by rw [(F2.2 0 (by omega)).1]; exact t1)

theorem c117x (H : zMo h W n P mk sp bL bR na A) (hn : n ≤ 8) (hx : x < 0 ∨ (¬ x < 0 ∧ ¬ x < nI n)) (v3 : Value) : mm_wp (d + 2) 117 0 [.ref 142, .int x, .int x2, v3] [] h Q ↔ Q (.inl (some (.int 0))) (mm_pi h 142 0 1) := by
  simp only [s117_0, s117_1, s117_2, s117_3, s117_6, s117_9, s117_10, s117_13, s117_14, s117_15, s117_17, s117_20, s117_23, s117_24, s117_27, s117_28, s117_31, s117_32, s117_35, s117_38, s117_39, s117_40, or_true, true_or, true_and, and_true, mm_o_some, mm_o_none, mm_bk_v, mm_bk_n, Nat.reduceAdd, kS142 H.1, c115x H hn hx, if_true, mm_s_pi, th0, if_neg (show ¬ (1 : Int32) ≤ 0 by decide)]
theorem c117y (H : zMo h W n P mk sp bL bR na A) (hn : n ≤ 8) (hj : j < n) (hx : ¬ (0 ≤ x2.toInt ∧ x2.toInt ≤ 100000)) (v3 : Value) : mm_wp (d + 2) 117 0 [.ref 142, .int (nI j), .int x2, v3] [] h Q ↔ Q (.inl (some (.int 0))) (mm_pi h 142 0 2) := by
  simp only [s117_0, s117_1, s117_2, s117_3, s117_6, s117_9, s117_10, s117_13, s117_14, s117_15, s117_17, s117_20, s117_23, s117_24, s117_27, s117_28, s117_31, s117_32, s117_35, s117_38, s117_39, s117_40, or_true, true_or, true_and, and_true, mm_o_some, mm_o_none, mm_bk_v, mm_bk_n, Nat.reduceAdd, kS142 H.1, c115z H hn hj, if_neg n10, c112, i32_0, i32_100000, if_neg hx, if_true, mm_s_pi, th0, if_neg (show ¬ (2 : Int32) ≤ 0 by decide)]
theorem c117z (H : zMo h W n P mk sp bL bR na A) (hn : n ≤ 8) (hj : j < n) (hx : 0 ≤ x2.toInt ∧ x2.toInt ≤ 100000) (v3 : Value) (K : ∀ h', zFr (fun x => 142 ≤ x ∧ x < 167) h h' → zMo h' W n (zSet P j (zUp1 (P j) 9 x2.toInt)) (-1) sp 0 zR0 na A → mm_i h' 142 0 = 0 → Q (.inl (some (.int (zI (P j 9))))) h') : mm_wp (d + 2) 117 0 [.ref 142, .int (nI j), .int x2, v3] [] h Q := by
  have H0 := H.th (v := 0)
  have hin : mm_in (nI j) 8 = true := mm_inN (by omega) (by omega)
  have hcl : (nI j).toNatClampNeg = j := nI_clamp (by omega)
  have e1 : mm_i (mm_pi h 142 0 0) 148 j = zI (P j 9) := by
    obtain ⟨g1, g2, g3, g4, g5⟩ := H0.2.1.2.2 j hj
    exact g5
  simp only [s117_0, s117_1, s117_2, s117_3, s117_6, s117_9, s117_10, s117_13, s117_14, s117_15, s117_17, s117_20, s117_23, s117_24, s117_27, s117_28, s117_31, s117_32, s117_35, s117_38, s117_39, s117_40, s117_41, s117_44, s117_45, s117_46, s117_47, s117_48, s117_51, s117_52, s117_53, or_true, true_or, true_and, and_true, mm_o_some, mm_o_none, mm_bk_v, mm_bk_n, Nat.reduceAdd, kS142 H.1, c115z H hn hj, if_neg n10, c112, i32_0, i32_100000, if_pos hx, mm_s_pi, th0, if_pos (show (0 : Int32) ≤ 0 by decide), mm_r_pi, kR142_7 H.1, kS148 H.1, hin, hcl, e1, Nat.reduceEqDiff, not_false_eq_true]
  have F1 : zFr (fun x => x = 148) (mm_pi h 142 0 0) (mm_pi (mm_pi h 142 0 0) 148 j x2) := zFr.pi rfl
  have F1m : zFm (fun _ => False) (fun x => x = 148) (mm_pi h 142 0 0) (mm_pi (mm_pi h 142 0 0) 148 j x2) := F1.fm (by omega)
  have ev : ∀ i, mm_i (mm_pi (mm_pi h 142 0 0) 148 j x2) 148 i = if i = j then x2 else mm_i (mm_pi h 142 0 0) 148 i := fun i => by rw [mm_i_pi]; by_cases e : i = j; rw [if_pos ⟨rfl, e⟩, if_pos e]; rw [if_neg (fun q => e q.2), if_neg e]
  have t1 : mm_i (mm_pi (mm_pi h 142 0 0) 148 j x2) 142 0 = 0 := by rw [F1.i (by omega)]; exact th0
  generalize mm_pi (mm_pi h 142 0 0) 148 j x2 = h1 at *
  have H1 : zMo h1 W n (zSet P j (zUp1 (P j) 9 x2.toInt)) mk sp bL bR na A := by
    obtain ⟨h1', h2, h3, h4, h5, h6, h7, h8⟩ := H0
    refine ⟨F1m.sk h1', ⟨fun k hk => by rw [F1.i (by omega)]; exact h2.1 k hk, by rw [F1.i (by omega)]; exact h2.2.1, fun p hp => ?_⟩, h3.fm F1m ⟨fun q => q, fun q => q, fun q => q⟩ (fun x x1 x2 => by omega), by rw [F1.i (by omega)]; exact h4, by rw [F1.i (by omega)]; exact h5, fun e => by rw [F1.i (by omega)]; exact h6 e, by rw [F1.i (by omega)]; exact h7, fun i hi => by rw [F1.i (by omega)]; exact h8 i hi⟩
    obtain ⟨g1, g2, g3, g4, g5⟩ := h2.2.2 p hp
    by_cases e : p = j
    · subst e
      have es : zSet P p (zUp1 (P p) 9 x2.toInt) p = zUp1 (P p) 9 x2.toInt := by rw [zSet, if_pos rfl]
      rw [es]
      refine ⟨fun a ha => ?_, by rw [F1.i (by omega), zUp1, if_neg (by decide)]; exact g2, by rw [F1.i (by omega), zUp1, if_neg (by decide)]; exact g3, by rw [F1.i (by omega), zUp1, if_neg (by decide)]; exact g4, by rw [ev, if_pos rfl, zUp1, if_pos rfl, zI_x]⟩
      rw [F1.i (by omega), zUp1, if_neg (by omega)]; exact g1 a ha
    · have es : zSet P j (zUp1 (P j) 9 x2.toInt) p = P p := by rw [zSet, if_neg e]
      rw [es]
      exact ⟨fun a ha => by rw [F1.i (by omega)]; exact g1 a ha, by rw [F1.i (by omega)]; exact g2, by rw [F1.i (by omega)]; exact g3, by rw [F1.i (by omega)]; exact g4, by rw [ev, if_neg e]; exact g5⟩
  simp only [s117_54, s117_55, s117_58, s117_59, or_true, true_or, true_and, and_true, mm_o_some, mm_o_none, mm_bk_v, mm_bk_n, Nat.reduceAdd, kS142 H1.1]
  refine c113z H1 (fun h2 F2 H2 => ?_)
  simp only [s117_54, s117_55, s117_58, s117_59, or_true, true_or, true_and, and_true, mm_o_some, mm_o_none, mm_bk_v, mm_bk_n, Nat.reduceAdd]
  exact K h2 ((zFr.th.trans (F1.mono (fun a ha => by omega))).trans (F2.1.mono (fun a ha => by rcases ha with q | q; omega; exact q.elim))) H2 (by rw [(F2.2 0 (by omega)).1]; exact t1)

end
