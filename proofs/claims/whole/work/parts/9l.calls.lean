/-! THE LAW: EACH CALL -/
section
variable {d : Nat} {h h' h0 : mm_H} {Q : mm_Q} {n na bL c i len j told : Nat} {W A : Nat → Int} {mk : Int} {bR : zR} {P : Nat → Nat → Int} {sp : Bool} {x : Int32}
/-- what holds of the numbers between calls -/
def zOkS (W : Nat → Int) (n : Nat) (P : Nat → Nat → Int) (mk : Int) (bL : Nat) (bR : zR) (na : Nat) (A : Nat → Int) : Prop := zWok W ∧ n ≤ 8 ∧ (∀ p, p < n → zPok (P p)) ∧ zr mk ∧ (∀ i, i < bL → zOk (bR i)) ∧ zRP P n bL bR ∧ zAok na A
/-- the law between calls: c calls have been -/
def zLw (Z : Nat) (h0 h : mm_H) (c : Nat) : Prop := ∃ W n P mk sp bL bR na A, zOkS W n P mk bL bR na A ∧ zCl h W n P mk sp bL bR na A ∧ zMo h W n P mk sp bL bR na A ∧ mm_s h 0 = mm_s h0 0 ∧ (∀ k, mm_i h 0 k = mm_i h0 0 k) ∧ mm_n h ≤ 168 + c ∧ mm_z h ≤ mm_z h0 + Z + 6 * c
theorem zOkS.set {p : Nat → Int} (H : zOkS W n P mk bL bR na A) (hp : zPok p) : zOkS W n (zSet P j p) (-1) 0 zR0 na A := by
  obtain ⟨h1, h2, h3, h4, h5, h6, h7⟩ := H
  refine ⟨h1, h2, fun q hq => ?_, by simp only [zr]; omega, fun i hi => absurd hi (Nat.not_lt_zero i), fun k hk => absurd hk (Nat.not_lt_zero k), h7⟩
  rw [zSet]
  split
  · exact hp
  · exact h3 q hq
theorem zPok.up {p : Nat → Int} {f : Nat} {v : Int} (hp : zPok p) (hf : (f = 7 ∧ 0 ≤ v ∧ v ≤ 3) ∨ (f = 8 ∧ 0 ≤ v ∧ v ≤ 9) ∨ (f = 9 ∧ 0 ≤ v ∧ v ≤ 100000)) : zPok (zUp1 p f v) := by
  rcases hf with ⟨rfl, a⟩ | ⟨rfl, a⟩ | ⟨rfl, a⟩ <;> simp only [zPok, zUp1, Nat.reduceEqDiff, reduceIte] at * <;> omega
theorem zOkS.add {p : Nat → Int} (H : zOkS W n P mk bL bR na A) (hn : n < 8) (hp : zPok p) : zOkS W (n + 1) (zSet P n p) (-1) 0 zR0 na A := by
  obtain ⟨h1, h2, h3, h4, h5, h6, h7⟩ := H
  refine ⟨h1, by omega, fun q hq => ?_, by simp only [zr]; omega, fun i hi => absurd hi (Nat.not_lt_zero i), fun k hk => absurd hk (Nat.not_lt_zero k), h7⟩
  rw [zSet]
  split
  · exact hp
  · exact h3 q (by omega)
theorem zOkS.pk (H : zOkS W n P mk bL bR na A) (ht : told ≤ 1000) : zOkS W n P ((zPack told W n P).1 : Int) (zPack told W n P).2.2.1 (zPack told W n P).2.2.2.1 na A := by
  obtain ⟨h1, h2, h3, h4, h5, h6, h7⟩ := H
  have V0 : zInv W 0 zR0 := ⟨by omega, fun i hi => absurd hi (Nat.not_lt_zero i), fun i k _ hk => absurd hk (Nat.not_lt_zero k)⟩
  have q0 : zSq told ((0, false, 0, zR0, 0, 0) : zS) := ⟨⟨by show (0 : Nat) ≤ 8; omega, fun i hi => absurd hi (Nat.not_lt_zero i), rfl, rfl⟩, Nat.zero_le _⟩
  have q : zSq told (zPack told W n P) := zGo_q h1 h3 h2 8 0 _ _ rfl V0 q0
  have rp : zRP P n (zPack told W n P).2.2.1 (zPack told W n P).2.2.2.1 := zGo_p (f := 0) 8 0 _ _ (fun k hk => absurd hk (Nat.not_lt_zero k)) (fun k hk => absurd hk (Nat.not_lt_zero k))
  refine ⟨h1, h2, h3, ?_, q.1.2.1, rp, h7⟩
  have := q.2
  simp only [zr]
  omega
theorem zOkS.ax (H : zOkS W n P mk bL bR na A) (hx : zAx na A x) (hna : na < 6) : zOkS W n P mk bL bR (na + 1) (zUp1 A na x.toInt) := by
  obtain ⟨h1, h2, h3, h4, h5, h6, a1, a2, a3⟩ := H
  refine ⟨h1, h2, h3, h4, h5, h6, by omega, fun i hi => ?_, fun i hi => ?_⟩
  · rw [zUp1]
    split
    · exact hx.1
    · exact a2 i (by omega)
  · simp only [zUp1]
    by_cases e : i + 1 = na
    · rw [if_neg (by omega), if_pos e]
      have := hx.2
      rw [zLp, if_neg (by omega), show na - 1 = i by omega] at this
      exact this
    · rw [if_neg (by omega), if_neg (by omega)]
      exact a3 i (by omega)
/-- a call that both refuse -/
theorem zLw_ex {Z kd : Nat} {v : Int32} (S : zOkS W n P mk bL bR na A) (C : zCl h W n P mk sp bL bR na A) (M : zMo h W n P mk sp bL bR na A) (l1 : mm_s h 0 = mm_s h0 0) (l2 : ∀ k, mm_i h 0 k = mm_i h0 0 k) (l3 : mm_n h ≤ 168 + c) (l4 : mm_z h ≤ mm_z h0 + Z + 6 * c) : zLw Z h0 (mm_pi (mm_nw h kd 6 6) 142 0 v) (c + 1) := by
  have n0 := C.1.1
  have G := zAg.nw n0 kd 6 6
  refine ⟨W, n, P, mk, sp, bL, bR, na, A, S, (C.ag G S.2.1).fr (zFr.pi (T := fun x => x = 142) rfl) S.2.1 (fun x hx => by omega), (M.ag G).th, ?_, fun k => ?_, ?_, ?_⟩
  · rw [mm_s_pi, mm_s_nw, if_neg (by omega)]; exact l1
  · rw [mm_i_pi, if_neg (by omega), mm_i_nw, if_neg (by omega)]; exact l2 k
  · rw [mm_n_pi, mm_n_nw]; omega
  · rw [mm_z_pi, mm_z_nw]; omega
/-- a call that both take -/
theorem zLw_ok {Z : Nat} {T : Nat → Prop} {h1 h2 : mm_H} (S : zOkS W n P mk bL bR na A) (C : zCl h1 W n P mk sp bL bR na A) (F1 : zFr T h h1) (hT : ¬ T 0) (F2 : zFr (fun x => 142 ≤ x ∧ x < 167) h1 h2) (M : zMo h2 W n P mk sp bL bR na A) (l1 : mm_s h 0 = mm_s h0 0) (l2 : ∀ k, mm_i h 0 k = mm_i h0 0 k) (l3 : mm_n h ≤ 168 + c) (l4 : mm_z h ≤ mm_z h0 + Z + 6 * c) : zLw Z h0 h2 (c + 1) := by
  refine ⟨W, n, P, mk, sp, bL, bR, na, A, S, C.fr F2 S.2.1 (fun x hx => by omega), M, ?_, fun k => ?_, ?_, ?_⟩
  · rw [F2.2.2.1, F1.2.2.1]; exact l1
  · rw [F2.i (by omega), F1.i hT]; exact l2 k
  · rw [F2.1, F1.1]; omega
  · rw [F2.2.1, F1.2.1]; omega
theorem in1_0 : mm_in 0 1 = true := rfl
theorem lcy (v : Int64) : ((if v < v then (1 : Int32) else 0) = 0) = True := eq_true (by rw [if_neg (Int64.lt_irrefl)])
theorem lcz (v : Int64) : ((if v < v then (1 : Int32) else if v = v then 0 else -1) = 0) = True := eq_true (lcmp_eq.mpr rfl)

theorem lw_turn {Z : Nat} (L : zLw Z h0 h c) (hl : mm_s h0 0 = (20, len)) (hlen : len < 2 ^ 31) (hi : i + 5 ≤ len) (v5 v6 v7 : Value) (K : ∀ h' (v5 v6 v7 : Value), zLw Z h0 h' (c + 1) → mm_wp (d + 40) 0 860 [.ref 0, .ref 1, .ref 142, .ref 167, .int (nI i), v5, v6, v7] [] h' Q) : mm_wp (d + 40) 0 232 [.ref 0, .ref 1, .ref 142, .ref 167, .int (nI i), v5, v6, v7] [] h Q := by
  obtain ⟨W, n, P, mk, sp, bL, bR, na, A, S, C, M, l1, l2, l3, l4⟩ := L
  have S0 := S
  obtain ⟨wk, hn, hPk, rmk, hO, hRP, hA⟩ := S
  have s0 : mm_s h 0 = (20, len) := l1.trans hl
  have j1 : mm_in (nI (i + 1)) len = true := mm_inN (by omega) (by omega)
  have c1 : (nI (i + 1)).toNatClampNeg = i + 1 := nI_clamp (by omega)
  have n1 : nI i + (1 : Int32) = nI (i + 1) := nI_add i 1
  have j2 : mm_in (nI (i + 2)) len = true := mm_inN (by omega) (by omega)
  have c2 : (nI (i + 2)).toNatClampNeg = i + 2 := nI_clamp (by omega)
  have n2 : nI i + (2 : Int32) = nI (i + 2) := nI_add i 2
  simp only [s0_232, s0_232o, s0_232n, s0_233, s0_233o, s0_233n, s0_234, s0_236, s0_237, s0_238, s0_239, s0_239o, s0_239n, s0_240, s0_242, s0_243, s0_244, s0_245, s0_245o, s0_245n, s0_246, or_true, true_or, true_and, and_true, mm_o_some, mm_o_none, mm_bk_v, mm_bk_n, Nat.reduceAdd, s0, n1, j1, c1, n2, j2, c2]
  generalize e1 : mm_i h 0 (i + 1) = y1
  generalize e2 : mm_i h 0 (i + 2) = y2
  rcases zix y1 (show n < 2 ^ 31 by omega) with g | ⟨j, hj, rfl⟩
  · rw [w39x C g]
    have G := zAg.nw C.1.1 32 6 6
    have ME := M.ag G
    have fin : zLw Z h0 (mm_pi (mm_nw h 32 6 6) 142 0 1) (c + 1) := zLw_ex S0 C M l1 l2 l3 l4
    have sE : mm_s (mm_nw h 32 6 6) 0 = (20, len) := by rw [G.s (by omega)]; exact s0
    have g1 := (G.i (a := 0) (by omega) (i + 1)).trans e1
    have g2 := (G.i (a := 0) (by omega) (i + 2)).trans e2
    generalize mm_nw h 32 6 6 = hE at *
    have MT := ME.th (v := 1)
    simp only [s0_249, s0_251, s0_251o, s0_251n, s0_252, s0_252o, s0_252n, s0_253, s0_255, s0_256, s0_257, s0_258, s0_258o, s0_258n, s0_259, s0_261, s0_262, s0_263, s0_264, or_true, true_or, true_and, and_true, mm_o_some, mm_o_none, mm_bk_v, mm_bk_n, Nat.reduceAdd, sE, n1, j1, c1, n2, j2, c2, g1, g2, kS142 ME.1, c114x ME hn g]
    simp only [s0_267, s0_269, s0_269o, s0_269n, s0_270, s0_273, s0_275, s0_278, s0_279, s0_280, s0_282, s0_285, s0_285o, s0_285n, s0_286, s0_287, s0_288, s0_290, s0_291, s0_292, s0_295, s0_296, s0_297, or_true, true_or, true_and, and_true, mm_o_some, mm_o_none, mm_bk_v, mm_bk_n, Nat.reduceAdd, kS142 MT.1, c110z MT.1, th0, if_true, if_neg (show ¬ (1 : Int32) = 0 by decide)]
    exact K _ _ _ _ fin
  · by_cases gv : 0 ≤ y2.toInt ∧ y2.toInt ≤ 3
    · refine w39z C hn hj wk hPk gv _ (fun h1 F1 C1 v1 => ?_)
      have M1 := M.fr F1 (fun x x1 x2 => by omega)
      have s1 : mm_s h1 0 = (20, len) := by rw [F1.2.2.1]; exact s0
      have g1 := (F1.i (a := 0) (by omega) (i + 1)).trans e1
      have g2 := (F1.i (a := 0) (by omega) (i + 2)).trans e2
      simp only [s0_249, s0_251, s0_251o, s0_251n, s0_252, s0_252o, s0_252n, s0_253, s0_255, s0_256, s0_257, s0_258, s0_258o, s0_258n, s0_259, s0_261, s0_262, s0_263, s0_264, or_true, true_or, true_and, and_true, mm_o_some, mm_o_none, mm_bk_v, mm_bk_n, Nat.reduceAdd, s1, n1, j1, c1, n2, j2, c2, g1, g2, kS142 M1.1]
      refine c114z M1 hn hj gv _ (fun h2 F2 M2 t2 => ?_)
      have v2 := (F2.l (a := 167) (by omega) 0).trans v1
      simp only [s0_267, s0_269, s0_269o, s0_269n, s0_270, s0_273, s0_275, s0_278, s0_279, s0_280, s0_282, s0_285, s0_285o, s0_285n, s0_286, s0_287, s0_288, s0_290, s0_291, s0_292, s0_295, s0_296, s0_297, or_true, true_or, true_and, and_true, mm_o_some, mm_o_none, mm_bk_v, mm_bk_n, Nat.reduceAdd, kS142 M2.1, c110z M2.1, t2, if_true, kS167 M2.1, in1_0, cl_0, v2, lcz, lcy]
      exact K _ _ _ _ (zLw_ok (S0.set ((hPk j hj).up (Or.inl ⟨rfl, gv⟩))) C1 F1 (by omega) F2 M2 l1 l2 l3 l4)
    · rw [w39y C hn hj gv]
      have G := zAg.nw C.1.1 30 6 6
      have ME := M.ag G
      have fin : zLw Z h0 (mm_pi (mm_nw h 30 6 6) 142 0 2) (c + 1) := zLw_ex S0 C M l1 l2 l3 l4
      have sE : mm_s (mm_nw h 30 6 6) 0 = (20, len) := by rw [G.s (by omega)]; exact s0
      have g1 := (G.i (a := 0) (by omega) (i + 1)).trans e1
      have g2 := (G.i (a := 0) (by omega) (i + 2)).trans e2
      generalize mm_nw h 30 6 6 = hE at *
      have MT := ME.th (v := 2)
      simp only [s0_249, s0_251, s0_251o, s0_251n, s0_252, s0_252o, s0_252n, s0_253, s0_255, s0_256, s0_257, s0_258, s0_258o, s0_258n, s0_259, s0_261, s0_262, s0_263, s0_264, or_true, true_or, true_and, and_true, mm_o_some, mm_o_none, mm_bk_v, mm_bk_n, Nat.reduceAdd, sE, n1, j1, c1, n2, j2, c2, g1, g2, kS142 ME.1, c114y ME hn hj gv]
      simp only [s0_267, s0_269, s0_269o, s0_269n, s0_270, s0_273, s0_275, s0_278, s0_279, s0_280, s0_282, s0_285, s0_285o, s0_285n, s0_286, s0_287, s0_288, s0_290, s0_291, s0_292, s0_295, s0_296, s0_297, or_true, true_or, true_and, and_true, mm_o_some, mm_o_none, mm_bk_v, mm_bk_n, Nat.reduceAdd, kS142 MT.1, c110z MT.1, th0, if_true, if_neg (show ¬ (2 : Int32) = 0 by decide)]
      exact K _ _ _ _ fin

theorem lw_order {Z : Nat} (L : zLw Z h0 h c) (hl : mm_s h0 0 = (20, len)) (hlen : len < 2 ^ 31) (hi : i + 5 ≤ len) (v5 v6 v7 : Value) (K : ∀ h' (v5 v6 v7 : Value), zLw Z h0 h' (c + 1) → mm_wp (d + 40) 0 860 [.ref 0, .ref 1, .ref 142, .ref 167, .int (nI i), v5, v6, v7] [] h' Q) : mm_wp (d + 40) 0 300 [.ref 0, .ref 1, .ref 142, .ref 167, .int (nI i), v5, v6, v7] [] h Q := by
  obtain ⟨W, n, P, mk, sp, bL, bR, na, A, S, C, M, l1, l2, l3, l4⟩ := L
  have S0 := S
  obtain ⟨wk, hn, hPk, rmk, hO, hRP, hA⟩ := S
  have s0 : mm_s h 0 = (20, len) := l1.trans hl
  have j1 : mm_in (nI (i + 1)) len = true := mm_inN (by omega) (by omega)
  have c1 : (nI (i + 1)).toNatClampNeg = i + 1 := nI_clamp (by omega)
  have n1 : nI i + (1 : Int32) = nI (i + 1) := nI_add i 1
  have j2 : mm_in (nI (i + 2)) len = true := mm_inN (by omega) (by omega)
  have c2 : (nI (i + 2)).toNatClampNeg = i + 2 := nI_clamp (by omega)
  have n2 : nI i + (2 : Int32) = nI (i + 2) := nI_add i 2
  simp only [s0_300, s0_300o, s0_300n, s0_301, s0_301o, s0_301n, s0_302, s0_304, s0_305, s0_306, s0_307, s0_307o, s0_307n, s0_308, s0_310, s0_311, s0_312, s0_313, s0_313o, s0_313n, s0_314, or_true, true_or, true_and, and_true, mm_o_some, mm_o_none, mm_bk_v, mm_bk_n, Nat.reduceAdd, s0, n1, j1, c1, n2, j2, c2]
  generalize e1 : mm_i h 0 (i + 1) = y1
  generalize e2 : mm_i h 0 (i + 2) = y2
  rcases zix y1 (show n < 2 ^ 31 by omega) with g | ⟨j, hj, rfl⟩
  · rw [w43x C g]
    have G := zAg.nw C.1.1 32 6 6
    have ME := M.ag G
    have fin : zLw Z h0 (mm_pi (mm_nw h 32 6 6) 142 0 1) (c + 1) := zLw_ex S0 C M l1 l2 l3 l4
    have sE : mm_s (mm_nw h 32 6 6) 0 = (20, len) := by rw [G.s (by omega)]; exact s0
    have g1 := (G.i (a := 0) (by omega) (i + 1)).trans e1
    have g2 := (G.i (a := 0) (by omega) (i + 2)).trans e2
    generalize mm_nw h 32 6 6 = hE at *
    have MT := ME.th (v := 1)
    simp only [s0_317, s0_319, s0_319o, s0_319n, s0_320, s0_320o, s0_320n, s0_321, s0_323, s0_324, s0_325, s0_326, s0_326o, s0_326n, s0_327, s0_329, s0_330, s0_331, s0_332, or_true, true_or, true_and, and_true, mm_o_some, mm_o_none, mm_bk_v, mm_bk_n, Nat.reduceAdd, sE, n1, j1, c1, n2, j2, c2, g1, g2, kS142 ME.1, c116x ME hn g]
    simp only [s0_335, s0_337, s0_337o, s0_337n, s0_338, s0_341, s0_343, s0_346, s0_347, s0_348, s0_350, s0_353, s0_353o, s0_353n, s0_354, s0_355, s0_356, s0_358, s0_359, s0_360, s0_363, s0_364, s0_365, or_true, true_or, true_and, and_true, mm_o_some, mm_o_none, mm_bk_v, mm_bk_n, Nat.reduceAdd, kS142 MT.1, c110z MT.1, th0, if_true, if_neg (show ¬ (1 : Int32) = 0 by decide)]
    exact K _ _ _ _ fin
  · by_cases gv : 0 ≤ y2.toInt ∧ y2.toInt ≤ 9
    · refine w43z C hn hj gv _ (fun h1 F1 C1 v1 => ?_)
      have M1 := M.fr F1 (fun x x1 x2 => by omega)
      have s1 : mm_s h1 0 = (20, len) := by rw [F1.2.2.1]; exact s0
      have g1 := (F1.i (a := 0) (by omega) (i + 1)).trans e1
      have g2 := (F1.i (a := 0) (by omega) (i + 2)).trans e2
      simp only [s0_317, s0_319, s0_319o, s0_319n, s0_320, s0_320o, s0_320n, s0_321, s0_323, s0_324, s0_325, s0_326, s0_326o, s0_326n, s0_327, s0_329, s0_330, s0_331, s0_332, or_true, true_or, true_and, and_true, mm_o_some, mm_o_none, mm_bk_v, mm_bk_n, Nat.reduceAdd, s1, n1, j1, c1, n2, j2, c2, g1, g2, kS142 M1.1]
      refine c116z M1 hn hj gv _ (fun h2 F2 M2 t2 => ?_)
      have v2 := (F2.l (a := 167) (by omega) 0).trans v1
      simp only [s0_335, s0_337, s0_337o, s0_337n, s0_338, s0_341, s0_343, s0_346, s0_347, s0_348, s0_350, s0_353, s0_353o, s0_353n, s0_354, s0_355, s0_356, s0_358, s0_359, s0_360, s0_363, s0_364, s0_365, or_true, true_or, true_and, and_true, mm_o_some, mm_o_none, mm_bk_v, mm_bk_n, Nat.reduceAdd, kS142 M2.1, c110z M2.1, t2, if_true, kS167 M2.1, in1_0, cl_0, v2, lcz, lcy]
      exact K _ _ _ _ (zLw_ok (S0.set ((hPk j hj).up (Or.inr (Or.inl ⟨rfl, gv⟩)))) C1 F1 (by omega) F2 M2 l1 l2 l3 l4)
    · rw [w43y C hn hj gv]
      have G := zAg.nw C.1.1 30 6 6
      have ME := M.ag G
      have fin : zLw Z h0 (mm_pi (mm_nw h 30 6 6) 142 0 2) (c + 1) := zLw_ex S0 C M l1 l2 l3 l4
      have sE : mm_s (mm_nw h 30 6 6) 0 = (20, len) := by rw [G.s (by omega)]; exact s0
      have g1 := (G.i (a := 0) (by omega) (i + 1)).trans e1
      have g2 := (G.i (a := 0) (by omega) (i + 2)).trans e2
      generalize mm_nw h 30 6 6 = hE at *
      have MT := ME.th (v := 2)
      simp only [s0_317, s0_319, s0_319o, s0_319n, s0_320, s0_320o, s0_320n, s0_321, s0_323, s0_324, s0_325, s0_326, s0_326o, s0_326n, s0_327, s0_329, s0_330, s0_331, s0_332, or_true, true_or, true_and, and_true, mm_o_some, mm_o_none, mm_bk_v, mm_bk_n, Nat.reduceAdd, sE, n1, j1, c1, n2, j2, c2, g1, g2, kS142 ME.1, c116y ME hn hj gv]
      simp only [s0_335, s0_337, s0_337o, s0_337n, s0_338, s0_341, s0_343, s0_346, s0_347, s0_348, s0_350, s0_353, s0_353o, s0_353n, s0_354, s0_355, s0_356, s0_358, s0_359, s0_360, s0_363, s0_364, s0_365, or_true, true_or, true_and, and_true, mm_o_some, mm_o_none, mm_bk_v, mm_bk_n, Nat.reduceAdd, kS142 MT.1, c110z MT.1, th0, if_true, if_neg (show ¬ (2 : Int32) = 0 by decide)]
      exact K _ _ _ _ fin

theorem lw_limit {Z : Nat} (L : zLw Z h0 h c) (hl : mm_s h0 0 = (20, len)) (hlen : len < 2 ^ 31) (hi : i + 5 ≤ len) (v5 v6 v7 : Value) (K : ∀ h' (v5 v6 v7 : Value), zLw Z h0 h' (c + 1) → mm_wp (d + 40) 0 860 [.ref 0, .ref 1, .ref 142, .ref 167, .int (nI i), v5, v6, v7] [] h' Q) : mm_wp (d + 40) 0 368 [.ref 0, .ref 1, .ref 142, .ref 167, .int (nI i), v5, v6, v7] [] h Q := by
  obtain ⟨W, n, P, mk, sp, bL, bR, na, A, S, C, M, l1, l2, l3, l4⟩ := L
  have S0 := S
  obtain ⟨wk, hn, hPk, rmk, hO, hRP, hA⟩ := S
  have s0 : mm_s h 0 = (20, len) := l1.trans hl
  have j1 : mm_in (nI (i + 1)) len = true := mm_inN (by omega) (by omega)
  have c1 : (nI (i + 1)).toNatClampNeg = i + 1 := nI_clamp (by omega)
  have n1 : nI i + (1 : Int32) = nI (i + 1) := nI_add i 1
  have j2 : mm_in (nI (i + 2)) len = true := mm_inN (by omega) (by omega)
  have c2 : (nI (i + 2)).toNatClampNeg = i + 2 := nI_clamp (by omega)
  have n2 : nI i + (2 : Int32) = nI (i + 2) := nI_add i 2
  simp only [s0_368, s0_368o, s0_368n, s0_369, s0_369o, s0_369n, s0_370, s0_372, s0_373, s0_374, s0_375, s0_375o, s0_375n, s0_376, s0_378, s0_379, s0_380, s0_381, s0_381o, s0_381n, s0_382, or_true, true_or, true_and, and_true, mm_o_some, mm_o_none, mm_bk_v, mm_bk_n, Nat.reduceAdd, s0, n1, j1, c1, n2, j2, c2]
  generalize e1 : mm_i h 0 (i + 1) = y1
  generalize e2 : mm_i h 0 (i + 2) = y2
  rcases zix y1 (show n < 2 ^ 31 by omega) with g | ⟨j, hj, rfl⟩
  · rw [w45x C g]
    have G := zAg.nw C.1.1 32 6 6
    have ME := M.ag G
    have fin : zLw Z h0 (mm_pi (mm_nw h 32 6 6) 142 0 1) (c + 1) := zLw_ex S0 C M l1 l2 l3 l4
    have sE : mm_s (mm_nw h 32 6 6) 0 = (20, len) := by rw [G.s (by omega)]; exact s0
    have g1 := (G.i (a := 0) (by omega) (i + 1)).trans e1
    have g2 := (G.i (a := 0) (by omega) (i + 2)).trans e2
    generalize mm_nw h 32 6 6 = hE at *
    have MT := ME.th (v := 1)
    simp only [s0_385, s0_387, s0_387o, s0_387n, s0_388, s0_388o, s0_388n, s0_389, s0_391, s0_392, s0_393, s0_394, s0_394o, s0_394n, s0_395, s0_397, s0_398, s0_399, s0_400, or_true, true_or, true_and, and_true, mm_o_some, mm_o_none, mm_bk_v, mm_bk_n, Nat.reduceAdd, sE, n1, j1, c1, n2, j2, c2, g1, g2, kS142 ME.1, c117x ME hn g]
    simp only [s0_403, s0_405, s0_405o, s0_405n, s0_406, s0_409, s0_411, s0_414, s0_415, s0_416, s0_418, s0_421, s0_421o, s0_421n, s0_422, s0_423, s0_424, s0_426, s0_427, s0_428, s0_431, s0_432, s0_433, or_true, true_or, true_and, and_true, mm_o_some, mm_o_none, mm_bk_v, mm_bk_n, Nat.reduceAdd, kS142 MT.1, c110z MT.1, th0, if_true, if_neg (show ¬ (1 : Int32) = 0 by decide)]
    exact K _ _ _ _ fin
  · by_cases gv : 0 ≤ y2.toInt ∧ y2.toInt ≤ 100000
    · refine w45z C hn hj gv _ (fun h1 F1 C1 v1 => ?_)
      have M1 := M.fr F1 (fun x x1 x2 => by omega)
      have s1 : mm_s h1 0 = (20, len) := by rw [F1.2.2.1]; exact s0
      have g1 := (F1.i (a := 0) (by omega) (i + 1)).trans e1
      have g2 := (F1.i (a := 0) (by omega) (i + 2)).trans e2
      simp only [s0_385, s0_387, s0_387o, s0_387n, s0_388, s0_388o, s0_388n, s0_389, s0_391, s0_392, s0_393, s0_394, s0_394o, s0_394n, s0_395, s0_397, s0_398, s0_399, s0_400, or_true, true_or, true_and, and_true, mm_o_some, mm_o_none, mm_bk_v, mm_bk_n, Nat.reduceAdd, s1, n1, j1, c1, n2, j2, c2, g1, g2, kS142 M1.1]
      refine c117z M1 hn hj gv _ (fun h2 F2 M2 t2 => ?_)
      have v2 := (F2.l (a := 167) (by omega) 0).trans v1
      simp only [s0_403, s0_405, s0_405o, s0_405n, s0_406, s0_409, s0_411, s0_414, s0_415, s0_416, s0_418, s0_421, s0_421o, s0_421n, s0_422, s0_423, s0_424, s0_426, s0_427, s0_428, s0_431, s0_432, s0_433, or_true, true_or, true_and, and_true, mm_o_some, mm_o_none, mm_bk_v, mm_bk_n, Nat.reduceAdd, kS142 M2.1, c110z M2.1, t2, if_true, kS167 M2.1, in1_0, cl_0, v2, lcz, lcy]
      exact K _ _ _ _ (zLw_ok (S0.set ((hPk j hj).up (Or.inr (Or.inr ⟨rfl, gv⟩)))) C1 F1 (by omega) F2 M2 l1 l2 l3 l4)
    · rw [w45y C hn hj gv]
      have G := zAg.nw C.1.1 30 6 6
      have ME := M.ag G
      have fin : zLw Z h0 (mm_pi (mm_nw h 30 6 6) 142 0 2) (c + 1) := zLw_ex S0 C M l1 l2 l3 l4
      have sE : mm_s (mm_nw h 30 6 6) 0 = (20, len) := by rw [G.s (by omega)]; exact s0
      have g1 := (G.i (a := 0) (by omega) (i + 1)).trans e1
      have g2 := (G.i (a := 0) (by omega) (i + 2)).trans e2
      generalize mm_nw h 30 6 6 = hE at *
      have MT := ME.th (v := 2)
      simp only [s0_385, s0_387, s0_387o, s0_387n, s0_388, s0_388o, s0_388n, s0_389, s0_391, s0_392, s0_393, s0_394, s0_394o, s0_394n, s0_395, s0_397, s0_398, s0_399, s0_400, or_true, true_or, true_and, and_true, mm_o_some, mm_o_none, mm_bk_v, mm_bk_n, Nat.reduceAdd, sE, n1, j1, c1, n2, j2, c2, g1, g2, kS142 ME.1, c117y ME hn hj gv]
      simp only [s0_403, s0_405, s0_405o, s0_405n, s0_406, s0_409, s0_411, s0_414, s0_415, s0_416, s0_418, s0_421, s0_421o, s0_421n, s0_422, s0_423, s0_424, s0_426, s0_427, s0_428, s0_431, s0_432, s0_433, or_true, true_or, true_and, and_true, mm_o_some, mm_o_none, mm_bk_v, mm_bk_n, Nat.reduceAdd, kS142 MT.1, c110z MT.1, th0, if_true, if_neg (show ¬ (2 : Int32) = 0 by decide)]
      exact K _ _ _ _ fin

theorem lw_at {Z : Nat} (L : zLw Z h0 h c) (hl : mm_s h0 0 = (20, len)) (hlen : len < 2 ^ 31) (hi : i + 5 ≤ len) (v5 v6 v7 : Value) (K : ∀ h' (v5 v6 v7 : Value), zLw Z h0 h' (c + 1) → mm_wp (d + 40) 0 860 [.ref 0, .ref 1, .ref 142, .ref 167, .int (nI i), v5, v6, v7] [] h' Q) : mm_wp (d + 40) 0 587 [.ref 0, .ref 1, .ref 142, .ref 167, .int (nI i), v5, v6, v7] [] h Q := by
  obtain ⟨W, n, P, mk, sp, bL, bR, na, A, S, C, M, l1, l2, l3, l4⟩ := L
  have S0 := S
  obtain ⟨wk, hn, hPk, rmk, hO, hRP, hA⟩ := S
  have s0 : mm_s h 0 = (20, len) := l1.trans hl
  have j1 : mm_in (nI (i + 1)) len = true := mm_inN (by omega) (by omega)
  have c1 : (nI (i + 1)).toNatClampNeg = i + 1 := nI_clamp (by omega)
  have n1 : nI i + (1 : Int32) = nI (i + 1) := nI_add i 1
  have j2 : mm_in (nI (i + 2)) len = true := mm_inN (by omega) (by omega)
  have c2 : (nI (i + 2)).toNatClampNeg = i + 2 := nI_clamp (by omega)
  have n2 : nI i + (2 : Int32) = nI (i + 2) := nI_add i 2
  simp only [s0_587, s0_587o, s0_587n, s0_588, s0_588o, s0_588n, s0_589, s0_591, s0_592, s0_593, s0_594, s0_594o, s0_594n, s0_595, s0_597, s0_598, s0_599, s0_600, s0_600o, s0_600n, s0_601, or_true, true_or, true_and, and_true, mm_o_some, mm_o_none, mm_bk_v, mm_bk_n, Nat.reduceAdd, s0, n1, j1, c1, n2, j2, c2]
  generalize e1 : mm_i h 0 (i + 1) = y1
  generalize e2 : mm_i h 0 (i + 2) = y2
  rcases zix y1 (show n < 2 ^ 31 by omega) with g | ⟨j, hj, rfl⟩
  · rw [w87x C g]
    have G := zAg.nw C.1.1 32 6 6
    have ME := M.ag G
    have fin : zLw Z h0 (mm_pi (mm_nw h 32 6 6) 142 0 1) (c + 1) := zLw_ex S0 C M l1 l2 l3 l4
    have sE : mm_s (mm_nw h 32 6 6) 0 = (20, len) := by rw [G.s (by omega)]; exact s0
    have g1 := (G.i (a := 0) (by omega) (i + 1)).trans e1
    have g2 := (G.i (a := 0) (by omega) (i + 2)).trans e2
    generalize mm_nw h 32 6 6 = hE at *
    have MT := ME.th (v := 1)
    simp only [s0_604, s0_606, s0_606o, s0_606n, s0_607, s0_607o, s0_607n, s0_608, s0_610, s0_611, s0_612, s0_613, s0_613o, s0_613n, s0_614, s0_616, s0_617, s0_618, s0_619, or_true, true_or, true_and, and_true, mm_o_some, mm_o_none, mm_bk_v, mm_bk_n, Nat.reduceAdd, sE, n1, j1, c1, n2, j2, c2, g1, g2, kS142 ME.1, c140x ME hn g]
    simp only [s0_622, s0_624, s0_624o, s0_624n, s0_625, s0_628, s0_630, s0_633, s0_634, s0_635, s0_637, s0_640, s0_640o, s0_640n, s0_641, s0_642, s0_643, s0_645, s0_646, s0_647, s0_650, s0_651, s0_652, or_true, true_or, true_and, and_true, mm_o_some, mm_o_none, mm_bk_v, mm_bk_n, Nat.reduceAdd, kS142 MT.1, c110z MT.1, th0, if_true, if_neg (show ¬ (1 : Int32) = 0 by decide)]
    exact K _ _ _ _ fin
  · by_cases gv : 0 ≤ y2.toInt ∧ y2.toInt ≤ 5
    · rw [w87z C hn hj hO gv]
      have F1 : zFr (fun x => x = 167) h (mm_pl h 167 0 (zI (zAt bL bR j y2.toInt)).toInt64) := zFr.pl rfl
      have v1 : mm_l (mm_pl h 167 0 (zI (zAt bL bR j y2.toInt)).toInt64) 167 0 = (zI (zAt bL bR j y2.toInt)).toInt64 := by rw [mm_l_pl, if_pos ⟨rfl, rfl⟩]
      have C1 := C.fr F1 hn (fun x hx => by omega)
      generalize mm_pl h 167 0 (zI (zAt bL bR j y2.toInt)).toInt64 = h1 at *
      have M1 := M.fr F1 (fun x x1 x2 => by omega)
      have s1 : mm_s h1 0 = (20, len) := by rw [F1.2.2.1]; exact s0
      have g1 := (F1.i (a := 0) (by omega) (i + 1)).trans e1
      have g2 := (F1.i (a := 0) (by omega) (i + 2)).trans e2
      simp only [s0_604, s0_606, s0_606o, s0_606n, s0_607, s0_607o, s0_607n, s0_608, s0_610, s0_611, s0_612, s0_613, s0_613o, s0_613n, s0_614, s0_616, s0_617, s0_618, s0_619, or_true, true_or, true_and, and_true, mm_o_some, mm_o_none, mm_bk_v, mm_bk_n, Nat.reduceAdd, s1, n1, j1, c1, n2, j2, c2, g1, g2, kS142 M1.1]
      rw [c140z M1 hn hj hO gv]
      have M2 := M1.th (v := 0)
      have F2 := zFr.th (h := h1) (v := 0)
      have t2 := th0 (h := h1) (v := 0)
      generalize mm_pi h1 142 0 0 = h2 at *
      have v2 := (F2.l (a := 167) (by omega) 0).trans v1
      simp only [s0_622, s0_624, s0_624o, s0_624n, s0_625, s0_628, s0_630, s0_633, s0_634, s0_635, s0_637, s0_640, s0_640o, s0_640n, s0_641, s0_642, s0_643, s0_645, s0_646, s0_647, s0_650, s0_651, s0_652, or_true, true_or, true_and, and_true, mm_o_some, mm_o_none, mm_bk_v, mm_bk_n, Nat.reduceAdd, kS142 M2.1, c110z M2.1, t2, if_true, kS167 M2.1, in1_0, cl_0, v2, lcz, lcy]
      exact K _ _ _ _ (zLw_ok (S0) C1 F1 (by omega) F2 M2 l1 l2 l3 l4)
    · rw [w87y C hn hj gv]
      have G := zAg.nw C.1.1 30 6 6
      have ME := M.ag G
      have fin : zLw Z h0 (mm_pi (mm_nw h 30 6 6) 142 0 2) (c + 1) := zLw_ex S0 C M l1 l2 l3 l4
      have sE : mm_s (mm_nw h 30 6 6) 0 = (20, len) := by rw [G.s (by omega)]; exact s0
      have g1 := (G.i (a := 0) (by omega) (i + 1)).trans e1
      have g2 := (G.i (a := 0) (by omega) (i + 2)).trans e2
      generalize mm_nw h 30 6 6 = hE at *
      have MT := ME.th (v := 2)
      simp only [s0_604, s0_606, s0_606o, s0_606n, s0_607, s0_607o, s0_607n, s0_608, s0_610, s0_611, s0_612, s0_613, s0_613o, s0_613n, s0_614, s0_616, s0_617, s0_618, s0_619, or_true, true_or, true_and, and_true, mm_o_some, mm_o_none, mm_bk_v, mm_bk_n, Nat.reduceAdd, sE, n1, j1, c1, n2, j2, c2, g1, g2, kS142 ME.1, c140y ME hn hj gv]
      simp only [s0_622, s0_624, s0_624o, s0_624n, s0_625, s0_628, s0_630, s0_633, s0_634, s0_635, s0_637, s0_640, s0_640o, s0_640n, s0_641, s0_642, s0_643, s0_645, s0_646, s0_647, s0_650, s0_651, s0_652, or_true, true_or, true_and, and_true, mm_o_some, mm_o_none, mm_bk_v, mm_bk_n, Nat.reduceAdd, kS142 MT.1, c110z MT.1, th0, if_true, if_neg (show ¬ (2 : Int32) = 0 by decide)]
      exact K _ _ _ _ fin

theorem lw_fits {Z : Nat} (L : zLw Z h0 h c) (hl : mm_s h0 0 = (20, len)) (hlen : len < 2 ^ 31) (hi : i + 5 ≤ len) (v5 v6 v7 : Value) (K : ∀ h' (v5 v6 v7 : Value), zLw Z h0 h' (c + 1) → mm_wp (d + 40) 0 860 [.ref 0, .ref 1, .ref 142, .ref 167, .int (nI i), v5, v6, v7] [] h' Q) : mm_wp (d + 40) 0 436 [.ref 0, .ref 1, .ref 142, .ref 167, .int (nI i), v5, v6, v7] [] h Q := by
  obtain ⟨W, n, P, mk, sp, bL, bR, na, A, S, C, M, l1, l2, l3, l4⟩ := L
  have S0 := S
  obtain ⟨wk, hn, hPk, rmk, hO, hRP, hA⟩ := S
  have s0 : mm_s h 0 = (20, len) := l1.trans hl
  have j1 : mm_in (nI (i + 1)) len = true := mm_inN (by omega) (by omega)
  have c1 : (nI (i + 1)).toNatClampNeg = i + 1 := nI_clamp (by omega)
  have n1 : nI i + (1 : Int32) = nI (i + 1) := nI_add i 1
  simp only [s0_436, s0_436o, s0_436n, s0_437, s0_437o, s0_437n, s0_438, s0_440, s0_441, s0_442, s0_443, s0_443o, s0_443n, s0_444, or_true, true_or, true_and, and_true, mm_o_some, mm_o_none, mm_bk_v, mm_bk_n, Nat.reduceAdd, s0, n1, j1, c1]
  generalize e1 : mm_i h 0 (i + 1) = y1
  rcases zix y1 (show n < 2 ^ 31 by omega) with g | ⟨j, hj, rfl⟩
  · rw [w47x C g]
    have G := zAg.nw C.1.1 32 6 6
    have ME := M.ag G
    have fin : zLw Z h0 (mm_pi (mm_nw h 32 6 6) 142 0 1) (c + 1) := zLw_ex S0 C M l1 l2 l3 l4
    have sE : mm_s (mm_nw h 32 6 6) 0 = (20, len) := by rw [G.s (by omega)]; exact s0
    have g1 := (G.i (a := 0) (by omega) (i + 1)).trans e1
    generalize mm_nw h 32 6 6 = hE at *
    have MT := ME.th (v := 1)
    simp only [s0_447, s0_449, s0_449o, s0_449n, s0_450, s0_450o, s0_450n, s0_451, s0_453, s0_454, s0_455, s0_456, or_true, true_or, true_and, and_true, mm_o_some, mm_o_none, mm_bk_v, mm_bk_n, Nat.reduceAdd, sE, n1, j1, c1, g1, kS142 ME.1, c118x ME hn g]
    simp only [s0_459, s0_461, s0_461o, s0_461n, s0_462, s0_465, s0_467, s0_470, s0_471, s0_472, s0_474, s0_477, s0_477o, s0_477n, s0_478, s0_479, s0_480, s0_482, s0_483, s0_484, s0_487, s0_488, s0_489, or_true, true_or, true_and, and_true, mm_o_some, mm_o_none, mm_bk_v, mm_bk_n, Nat.reduceAdd, kS142 MT.1, c110z MT.1, th0, if_true, if_neg (show ¬ (1 : Int32) = 0 by decide)]
    exact K _ _ _ _ fin
  · rw [w47z C hn hj]
    have F1 : zFr (fun x => x = 167) h (mm_pl h 167 0 (zI (zFits W (P j))).toInt64) := zFr.pl rfl
    have v1 : mm_l (mm_pl h 167 0 (zI (zFits W (P j))).toInt64) 167 0 = (zI (zFits W (P j))).toInt64 := by rw [mm_l_pl, if_pos ⟨rfl, rfl⟩]
    have C1 := C.fr F1 hn (fun x hx => by omega)
    generalize mm_pl h 167 0 (zI (zFits W (P j))).toInt64 = h1 at *
    have M1 := M.fr F1 (fun x x1 x2 => by omega)
    have s1 : mm_s h1 0 = (20, len) := by rw [F1.2.2.1]; exact s0
    have g1 := (F1.i (a := 0) (by omega) (i + 1)).trans e1
    simp only [s0_447, s0_449, s0_449o, s0_449n, s0_450, s0_450o, s0_450n, s0_451, s0_453, s0_454, s0_455, s0_456, or_true, true_or, true_and, and_true, mm_o_some, mm_o_none, mm_bk_v, mm_bk_n, Nat.reduceAdd, s1, n1, j1, c1, g1, kS142 M1.1]
    refine c118z M1 hn hj wk hPk (fun h2 F2 M2 t2 => ?_)
    have v2 := (F2.l (a := 167) (by omega) 0).trans v1
    simp only [s0_459, s0_461, s0_461o, s0_461n, s0_462, s0_465, s0_467, s0_470, s0_471, s0_472, s0_474, s0_477, s0_477o, s0_477n, s0_478, s0_479, s0_480, s0_482, s0_483, s0_484, s0_487, s0_488, s0_489, or_true, true_or, true_and, and_true, mm_o_some, mm_o_none, mm_bk_v, mm_bk_n, Nat.reduceAdd, kS142 M2.1, c110z M2.1, t2, if_true, kS167 M2.1, in1_0, cl_0, v2, lcz, lcy]
    exact K _ _ _ _ (zLw_ok (S0) C1 F1 (by omega) F2 M2 l1 l2 l3 l4)

theorem lw_pack {Z : Nat} (L : zLw Z h0 h c) (hl : mm_s h0 0 = (20, len)) (hlen : len < 2 ^ 31) (hi : i + 5 ≤ len) (v5 v6 v7 : Value) (K : ∀ h' (v5 v6 v7 : Value), zLw Z h0 h' (c + 1) → mm_wp (d + 40) 0 860 [.ref 0, .ref 1, .ref 142, .ref 167, .int (nI i), v5, v6, v7] [] h' Q) : mm_wp (d + 40) 0 492 [.ref 0, .ref 1, .ref 142, .ref 167, .int (nI i), v5, v6, v7] [] h Q := by
  obtain ⟨W, n, P, mk, sp, bL, bR, na, A, S, C, M, l1, l2, l3, l4⟩ := L
  have S0 := S
  obtain ⟨wk, hn, hPk, rmk, hO, hRP, hA⟩ := S
  have s0 : mm_s h 0 = (20, len) := l1.trans hl
  have j1 : mm_in (nI (i + 1)) len = true := mm_inN (by omega) (by omega)
  have c1 : (nI (i + 1)).toNatClampNeg = i + 1 := nI_clamp (by omega)
  have n1 : nI i + (1 : Int32) = nI (i + 1) := nI_add i 1
  simp only [s0_492, s0_492o, s0_492n, s0_493, s0_493o, s0_493n, s0_494, s0_496, s0_497, s0_498, s0_499, s0_499o, s0_499n, s0_500, or_true, true_or, true_and, and_true, mm_o_some, mm_o_none, mm_bk_v, mm_bk_n, Nat.reduceAdd, s0, n1, j1, c1]
  generalize e1 : mm_i h 0 (i + 1) = y1
  by_cases gv : 1 ≤ y1.toInt ∧ y1.toInt ≤ 1000
  · obtain ⟨told, gt, rfl⟩ : ∃ told : Nat, (1 ≤ told ∧ told ≤ 1000) ∧ y1 = nI told := ⟨y1.toInt.toNat, by omega, nI_x (by omega)⟩
    refine w49z C hn wk hPk gt _ (fun h1 F1 C1 v1 => ?_)
    have M1 := M.fr F1 (fun x x1 x2 => by omega)
    have s1 : mm_s h1 0 = (20, len) := by rw [F1.2.2.1]; exact s0
    have g1 := (F1.i (a := 0) (by omega) (i + 1)).trans e1
    simp only [s0_503, s0_505, s0_505o, s0_505n, s0_506, s0_506o, s0_506n, s0_507, s0_509, s0_510, s0_511, s0_512, or_true, true_or, true_and, and_true, mm_o_some, mm_o_none, mm_bk_v, mm_bk_n, Nat.reduceAdd, s1, n1, j1, c1, g1, kS142 M1.1]
    refine c126z M1 hn wk hPk gt _ _ (fun h2 F2 M2 t2 => ?_)
    have v2 := (F2.l (a := 167) (by omega) 0).trans v1
    simp only [s0_515, s0_517, s0_517o, s0_517n, s0_518, s0_521, s0_523, s0_526, s0_527, s0_528, s0_530, s0_533, s0_533o, s0_533n, s0_534, s0_535, s0_536, s0_538, s0_539, s0_540, s0_543, s0_544, s0_545, or_true, true_or, true_and, and_true, mm_o_some, mm_o_none, mm_bk_v, mm_bk_n, Nat.reduceAdd, kS142 M2.1, c110z M2.1, t2, if_true, kS167 M2.1, in1_0, cl_0, v2, lcz, lcy]
    exact K _ _ _ _ (zLw_ok (S0.pk gt.2) C1 F1 (by omega) F2 M2 l1 l2 l3 l4)
  · rw [w49x C gv]
    have G := zAg.nw C.1.1 30 6 6
    have ME := M.ag G
    have fin : zLw Z h0 (mm_pi (mm_nw h 30 6 6) 142 0 1) (c + 1) := zLw_ex S0 C M l1 l2 l3 l4
    have sE : mm_s (mm_nw h 30 6 6) 0 = (20, len) := by rw [G.s (by omega)]; exact s0
    have g1 := (G.i (a := 0) (by omega) (i + 1)).trans e1
    generalize mm_nw h 30 6 6 = hE at *
    have MT := ME.th (v := 1)
    simp only [s0_503, s0_505, s0_505o, s0_505n, s0_506, s0_506o, s0_506n, s0_507, s0_509, s0_510, s0_511, s0_512, or_true, true_or, true_and, and_true, mm_o_some, mm_o_none, mm_bk_v, mm_bk_n, Nat.reduceAdd, sE, n1, j1, c1, g1, kS142 ME.1, c126x ME gv]
    simp only [s0_515, s0_517, s0_517o, s0_517n, s0_518, s0_521, s0_523, s0_526, s0_527, s0_528, s0_530, s0_533, s0_533o, s0_533n, s0_534, s0_535, s0_536, s0_538, s0_539, s0_540, s0_543, s0_544, s0_545, or_true, true_or, true_and, and_true, mm_o_some, mm_o_none, mm_bk_v, mm_bk_n, Nat.reduceAdd, kS142 MT.1, c110z MT.1, th0, if_true, if_neg (show ¬ (1 : Int32) = 0 by decide)]
    exact K _ _ _ _ fin

theorem lw_touch {Z : Nat} (L : zLw Z h0 h c) (hl : mm_s h0 0 = (20, len)) (hlen : len < 2 ^ 31) (hi : i + 5 ≤ len) (v5 v6 v7 : Value) (K : ∀ h' (v5 v6 v7 : Value), zLw Z h0 h' (c + 1) → mm_wp (d + 40) 0 860 [.ref 0, .ref 1, .ref 142, .ref 167, .int (nI i), v5, v6, v7] [] h' Q) : mm_wp (d + 40) 0 669 [.ref 0, .ref 1, .ref 142, .ref 167, .int (nI i), v5, v6, v7] [] h Q := by
  obtain ⟨W, n, P, mk, sp, bL, bR, na, A, S, C, M, l1, l2, l3, l4⟩ := L
  have S0 := S
  obtain ⟨wk, hn, hPk, rmk, hO, hRP, hA⟩ := S
  have s0 : mm_s h 0 = (20, len) := l1.trans hl
  have j1 : mm_in (nI (i + 1)) len = true := mm_inN (by omega) (by omega)
  have c1 : (nI (i + 1)).toNatClampNeg = i + 1 := nI_clamp (by omega)
  have n1 : nI i + (1 : Int32) = nI (i + 1) := nI_add i 1
  have j2 : mm_in (nI (i + 2)) len = true := mm_inN (by omega) (by omega)
  have c2 : (nI (i + 2)).toNatClampNeg = i + 2 := nI_clamp (by omega)
  have n2 : nI i + (2 : Int32) = nI (i + 2) := nI_add i 2
  simp only [s0_669, s0_669o, s0_669n, s0_670, s0_670o, s0_670n, s0_671, s0_673, s0_674, s0_675, s0_676, s0_676o, s0_676n, s0_677, s0_679, s0_680, s0_681, s0_682, s0_682o, s0_682n, s0_683, or_true, true_or, true_and, and_true, mm_o_some, mm_o_none, mm_bk_v, mm_bk_n, Nat.reduceAdd, s0, n1, j1, c1, n2, j2, c2]
  generalize e1 : mm_i h 0 (i + 1) = y1
  generalize e2 : mm_i h 0 (i + 2) = y2
  rcases zix y1 (show n < 2 ^ 31 by omega) with g | ⟨j1', hj1, rfl⟩
  · rw [w90x C g]
    have G := zAg.nw C.1.1 32 6 6
    have ME := M.ag G
    have fin : zLw Z h0 (mm_pi (mm_nw h 32 6 6) 142 0 1) (c + 1) := zLw_ex S0 C M l1 l2 l3 l4
    have sE : mm_s (mm_nw h 32 6 6) 0 = (20, len) := by rw [G.s (by omega)]; exact s0
    have g1 := (G.i (a := 0) (by omega) (i + 1)).trans e1
    have g2 := (G.i (a := 0) (by omega) (i + 2)).trans e2
    generalize mm_nw h 32 6 6 = hE at *
    have MT := ME.th (v := 1)
    simp only [s0_686, s0_688, s0_688o, s0_688n, s0_689, s0_689o, s0_689n, s0_690, s0_692, s0_693, s0_694, s0_695, s0_695o, s0_695n, s0_696, s0_698, s0_699, s0_700, s0_701, or_true, true_or, true_and, and_true, mm_o_some, mm_o_none, mm_bk_v, mm_bk_n, Nat.reduceAdd, sE, n1, j1, c1, n2, j2, c2, g1, g2, kS142 ME.1, c143x ME hn (Or.inl g)]
    simp only [s0_704, s0_706, s0_706o, s0_706n, s0_707, s0_710, s0_712, s0_715, s0_716, s0_717, s0_719, s0_722, s0_722o, s0_722n, s0_723, s0_724, s0_725, s0_727, s0_728, s0_729, s0_732, s0_733, s0_734, or_true, true_or, true_and, and_true, mm_o_some, mm_o_none, mm_bk_v, mm_bk_n, Nat.reduceAdd, kS142 MT.1, c110z MT.1, th0, if_true, if_neg (show ¬ (1 : Int32) = 0 by decide)]
    exact K _ _ _ _ fin
  · rcases zix y2 (show n < 2 ^ 31 by omega) with g | ⟨j2', hj2, rfl⟩
    · rw [w90y C hn hj1 g]
      have G := zAg.nw C.1.1 32 6 6
      have ME := M.ag G
      have fin : zLw Z h0 (mm_pi (mm_nw h 32 6 6) 142 0 1) (c + 1) := zLw_ex S0 C M l1 l2 l3 l4
      have sE : mm_s (mm_nw h 32 6 6) 0 = (20, len) := by rw [G.s (by omega)]; exact s0
      have g1 := (G.i (a := 0) (by omega) (i + 1)).trans e1
      have g2 := (G.i (a := 0) (by omega) (i + 2)).trans e2
      generalize mm_nw h 32 6 6 = hE at *
      have MT := ME.th (v := 1)
      simp only [s0_686, s0_688, s0_688o, s0_688n, s0_689, s0_689o, s0_689n, s0_690, s0_692, s0_693, s0_694, s0_695, s0_695o, s0_695n, s0_696, s0_698, s0_699, s0_700, s0_701, or_true, true_or, true_and, and_true, mm_o_some, mm_o_none, mm_bk_v, mm_bk_n, Nat.reduceAdd, sE, n1, j1, c1, n2, j2, c2, g1, g2, kS142 ME.1, c143x ME hn (Or.inr ⟨j1', ⟨hj1, rfl⟩, g⟩)]
      simp only [s0_704, s0_706, s0_706o, s0_706n, s0_707, s0_710, s0_712, s0_715, s0_716, s0_717, s0_719, s0_722, s0_722o, s0_722n, s0_723, s0_724, s0_725, s0_727, s0_728, s0_729, s0_732, s0_733, s0_734, or_true, true_or, true_and, and_true, mm_o_some, mm_o_none, mm_bk_v, mm_bk_n, Nat.reduceAdd, kS142 MT.1, c110z MT.1, th0, if_true, if_neg (show ¬ (1 : Int32) = 0 by decide)]
      exact K _ _ _ _ fin
    · rw [w90z C hn hj1 hj2 hO]
      have F1 : zFr (fun x => x = 167) h (mm_pl h 167 0 (zI (zTo bL bR j1' j2')).toInt64) := zFr.pl rfl
      have v1 : mm_l (mm_pl h 167 0 (zI (zTo bL bR j1' j2')).toInt64) 167 0 = (zI (zTo bL bR j1' j2')).toInt64 := by rw [mm_l_pl, if_pos ⟨rfl, rfl⟩]
      have C1 := C.fr F1 hn (fun x hx => by omega)
      generalize mm_pl h 167 0 (zI (zTo bL bR j1' j2')).toInt64 = h1 at *
      have M1 := M.fr F1 (fun x x1 x2 => by omega)
      have s1 : mm_s h1 0 = (20, len) := by rw [F1.2.2.1]; exact s0
      have g1 := (F1.i (a := 0) (by omega) (i + 1)).trans e1
      have g2 := (F1.i (a := 0) (by omega) (i + 2)).trans e2
      simp only [s0_686, s0_688, s0_688o, s0_688n, s0_689, s0_689o, s0_689n, s0_690, s0_692, s0_693, s0_694, s0_695, s0_695o, s0_695n, s0_696, s0_698, s0_699, s0_700, s0_701, or_true, true_or, true_and, and_true, mm_o_some, mm_o_none, mm_bk_v, mm_bk_n, Nat.reduceAdd, s1, n1, j1, c1, n2, j2, c2, g1, g2, kS142 M1.1]
      rw [c143z M1 hn hj1 hj2 hO]
      have M2 := M1.th (v := 0)
      have F2 := zFr.th (h := h1) (v := 0)
      have t2 := th0 (h := h1) (v := 0)
      generalize mm_pi h1 142 0 0 = h2 at *
      have v2 := (F2.l (a := 167) (by omega) 0).trans v1
      simp only [s0_704, s0_706, s0_706o, s0_706n, s0_707, s0_710, s0_712, s0_715, s0_716, s0_717, s0_719, s0_722, s0_722o, s0_722n, s0_723, s0_724, s0_725, s0_727, s0_728, s0_729, s0_732, s0_733, s0_734, or_true, true_or, true_and, and_true, mm_o_some, mm_o_none, mm_bk_v, mm_bk_n, Nat.reduceAdd, kS142 M2.1, c110z M2.1, t2, if_true, kS167 M2.1, in1_0, cl_0, v2, lcz, lcy]
      exact K _ _ _ _ (zLw_ok (S0) C1 F1 (by omega) F2 M2 l1 l2 l3 l4)

theorem lw_axle {Z : Nat} (L : zLw Z h0 h c) (hl : mm_s h0 0 = (20, len)) (hlen : len < 2 ^ 31) (hi : i + 5 ≤ len) (v5 v6 v7 : Value) (K : ∀ h' (v5 v6 v7 : Value), zLw Z h0 h' (c + 1) → mm_wp (d + 40) 0 860 [.ref 0, .ref 1, .ref 142, .ref 167, .int (nI i), v5, v6, v7] [] h' Q) : mm_wp (d + 40) 0 737 [.ref 0, .ref 1, .ref 142, .ref 167, .int (nI i), v5, v6, v7] [] h Q := by
  obtain ⟨W, n, P, mk, sp, bL, bR, na, A, S, C, M, l1, l2, l3, l4⟩ := L
  have S0 := S
  obtain ⟨wk, hn, hPk, rmk, hO, hRP, hA⟩ := S
  have s0 : mm_s h 0 = (20, len) := l1.trans hl
  have j1 : mm_in (nI (i + 1)) len = true := mm_inN (by omega) (by omega)
  have c1 : (nI (i + 1)).toNatClampNeg = i + 1 := nI_clamp (by omega)
  have n1 : nI i + (1 : Int32) = nI (i + 1) := nI_add i 1
  simp only [s0_737, s0_737o, s0_737n, s0_738, s0_738o, s0_738n, s0_739, s0_741, s0_742, s0_743, s0_744, s0_744o, s0_744n, s0_745, or_true, true_or, true_and, and_true, mm_o_some, mm_o_none, mm_bk_v, mm_bk_n, Nat.reduceAdd, s0, n1, j1, c1]
  generalize e1 : mm_i h 0 (i + 1) = y1
  by_cases gv : zAx na A y1
  · by_cases g6 : na = 6
    · rw [w92y C g6 hA.2.1 gv]
      have G := zAg.nw C.1.1 31 6 6
      have ME := M.ag G
      have fin : zLw Z h0 (mm_pi (mm_nw h 31 6 6) 142 0 2) (c + 1) := zLw_ex S0 C M l1 l2 l3 l4
      have sE : mm_s (mm_nw h 31 6 6) 0 = (20, len) := by rw [G.s (by omega)]; exact s0
      have g1 := (G.i (a := 0) (by omega) (i + 1)).trans e1
      generalize mm_nw h 31 6 6 = hE at *
      have MT := ME.th (v := 2)
      simp only [s0_748, s0_750, s0_750o, s0_750n, s0_751, s0_751o, s0_751n, s0_752, s0_754, s0_755, s0_756, s0_757, or_true, true_or, true_and, and_true, mm_o_some, mm_o_none, mm_bk_v, mm_bk_n, Nat.reduceAdd, sE, n1, j1, c1, g1, kS142 ME.1, c145y ME g6 hA.2.1 gv]
      simp only [s0_760, s0_762, s0_762o, s0_762n, s0_763, s0_766, s0_768, s0_771, s0_772, s0_773, s0_775, s0_778, s0_778o, s0_778n, s0_779, s0_780, s0_781, s0_783, s0_784, s0_785, s0_788, s0_789, s0_790, or_true, true_or, true_and, and_true, mm_o_some, mm_o_none, mm_bk_v, mm_bk_n, Nat.reduceAdd, kS142 MT.1, c110z MT.1, th0, if_true, if_neg (show ¬ (2 : Int32) = 0 by decide)]
      exact K _ _ _ _ fin
    · have ga : na < 6 := by have := hA.1; omega
      refine w92z C hn ga hA.2.1 gv _ (fun h1 F1 C1 v1 => ?_)
      have M1 := M.fr F1 (fun x x1 x2 => by omega)
      have s1 : mm_s h1 0 = (20, len) := by rw [F1.2.2.1]; exact s0
      have g1 := (F1.i (a := 0) (by omega) (i + 1)).trans e1
      simp only [s0_748, s0_750, s0_750o, s0_750n, s0_751, s0_751o, s0_751n, s0_752, s0_754, s0_755, s0_756, s0_757, or_true, true_or, true_and, and_true, mm_o_some, mm_o_none, mm_bk_v, mm_bk_n, Nat.reduceAdd, s1, n1, j1, c1, g1, kS142 M1.1]
      refine c145z M1 ga hA.2.1 gv _ (fun h2 F2 M2 t2 => ?_)
      have v2 := (F2.l (a := 167) (by omega) 0).trans v1
      simp only [s0_760, s0_762, s0_762o, s0_762n, s0_763, s0_766, s0_768, s0_771, s0_772, s0_773, s0_775, s0_778, s0_778o, s0_778n, s0_779, s0_780, s0_781, s0_783, s0_784, s0_785, s0_788, s0_789, s0_790, or_true, true_or, true_and, and_true, mm_o_some, mm_o_none, mm_bk_v, mm_bk_n, Nat.reduceAdd, kS142 M2.1, c110z M2.1, t2, if_true, kS167 M2.1, in1_0, cl_0, v2, lcz, lcy]
      exact K _ _ _ _ (zLw_ok (S0.ax gv ga) C1 F1 (by omega) F2 M2 l1 l2 l3 l4)
  · rw [w92x C hA.1 hA.2.1 gv]
    have G := zAg.nw C.1.1 30 6 6
    have ME := M.ag G
    have fin : zLw Z h0 (mm_pi (mm_nw h 30 6 6) 142 0 1) (c + 1) := zLw_ex S0 C M l1 l2 l3 l4
    have sE : mm_s (mm_nw h 30 6 6) 0 = (20, len) := by rw [G.s (by omega)]; exact s0
    have g1 := (G.i (a := 0) (by omega) (i + 1)).trans e1
    generalize mm_nw h 30 6 6 = hE at *
    have MT := ME.th (v := 1)
    simp only [s0_748, s0_750, s0_750o, s0_750n, s0_751, s0_751o, s0_751n, s0_752, s0_754, s0_755, s0_756, s0_757, or_true, true_or, true_and, and_true, mm_o_some, mm_o_none, mm_bk_v, mm_bk_n, Nat.reduceAdd, sE, n1, j1, c1, g1, kS142 ME.1, c145x ME hA.1 hA.2.1 gv]
    simp only [s0_760, s0_762, s0_762o, s0_762n, s0_763, s0_766, s0_768, s0_771, s0_772, s0_773, s0_775, s0_778, s0_778o, s0_778n, s0_779, s0_780, s0_781, s0_783, s0_784, s0_785, s0_788, s0_789, s0_790, or_true, true_or, true_and, and_true, mm_o_some, mm_o_none, mm_bk_v, mm_bk_n, Nat.reduceAdd, kS142 MT.1, c110z MT.1, th0, if_true, if_neg (show ¬ (1 : Int32) = 0 by decide)]
    exact K _ _ _ _ fin

theorem lw_load {Z : Nat} (L : zLw Z h0 h c) (hl : mm_s h0 0 = (20, len)) (hlen : len < 2 ^ 31) (hi : i + 5 ≤ len) (v5 v6 v7 : Value) (K : ∀ h' (v5 v6 v7 : Value), zLw Z h0 h' (c + 1) → mm_wp (d + 40) 0 860 [.ref 0, .ref 1, .ref 142, .ref 167, .int (nI i), v5, v6, v7] [] h' Q) : mm_wp (d + 40) 0 793 [.ref 0, .ref 1, .ref 142, .ref 167, .int (nI i), v5, v6, v7] [] h Q := by
  obtain ⟨W, n, P, mk, sp, bL, bR, na, A, S, C, M, l1, l2, l3, l4⟩ := L
  have S0 := S
  obtain ⟨wk, hn, hPk, rmk, hO, hRP, hA⟩ := S
  have s0 : mm_s h 0 = (20, len) := l1.trans hl
  have j1 : mm_in (nI (i + 1)) len = true := mm_inN (by omega) (by omega)
  have c1 : (nI (i + 1)).toNatClampNeg = i + 1 := nI_clamp (by omega)
  have n1 : nI i + (1 : Int32) = nI (i + 1) := nI_add i 1
  have j2 : mm_in (nI (i + 2)) len = true := mm_inN (by omega) (by omega)
  have c2 : (nI (i + 2)).toNatClampNeg = i + 2 := nI_clamp (by omega)
  have n2 : nI i + (2 : Int32) = nI (i + 2) := nI_add i 2
  simp only [s0_793, s0_793o, s0_793n, s0_794, s0_794o, s0_794n, s0_795, s0_797, s0_798, s0_799, s0_800, s0_800o, s0_800n, s0_801, s0_803, s0_804, s0_805, s0_806, s0_806o, s0_806n, s0_807, or_true, true_or, true_and, and_true, mm_o_some, mm_o_none, mm_bk_v, mm_bk_n, Nat.reduceAdd, s0, n1, j1, c1, n2, j2, c2]
  generalize e1 : mm_i h 0 (i + 1) = y1
  generalize e2 : mm_i h 0 (i + 2) = y2
  by_cases g0 : na = 0
  · rw [w97x C g0]
    have G := zAg.nw C.1.1 33 6 6
    have ME := M.ag G
    have fin : zLw Z h0 (mm_pi (mm_nw h 33 6 6) 142 0 1) (c + 1) := zLw_ex S0 C M l1 l2 l3 l4
    have sE : mm_s (mm_nw h 33 6 6) 0 = (20, len) := by rw [G.s (by omega)]; exact s0
    have g1 := (G.i (a := 0) (by omega) (i + 1)).trans e1
    have g2 := (G.i (a := 0) (by omega) (i + 2)).trans e2
    generalize mm_nw h 33 6 6 = hE at *
    have MT := ME.th (v := 1)
    simp only [s0_810, s0_812, s0_812o, s0_812n, s0_813, s0_813o, s0_813n, s0_814, s0_816, s0_817, s0_818, s0_819, s0_819o, s0_819n, s0_820, s0_822, s0_823, s0_824, s0_825, or_true, true_or, true_and, and_true, mm_o_some, mm_o_none, mm_bk_v, mm_bk_n, Nat.reduceAdd, sE, n1, j1, c1, n2, j2, c2, g1, g2, kS142 ME.1, c146x ME g0]
    simp only [s0_828, s0_830, s0_830o, s0_830n, s0_831, s0_834, s0_836, s0_839, s0_840, s0_841, s0_843, s0_846, s0_846o, s0_846n, s0_847, s0_848, s0_849, s0_851, s0_852, s0_855, s0_856, s0_857, or_true, true_or, true_and, and_true, mm_o_some, mm_o_none, mm_bk_v, mm_bk_n, Nat.reduceAdd, kS142 MT.1, c110z MT.1, th0, if_true, if_neg (show ¬ (1 : Int32) = 0 by decide)]
    exact K _ _ _ _ fin
  · have gp : 0 < na := by omega
    rcases zix y1 (show na < 2 ^ 31 by have := hA.1; omega) with g | ⟨j, hj, rfl⟩
    · rw [w97y C gp hA.1 g]
      have G := zAg.nw C.1.1 32 6 6
      have ME := M.ag G
      have fin : zLw Z h0 (mm_pi (mm_nw h 32 6 6) 142 0 2) (c + 1) := zLw_ex S0 C M l1 l2 l3 l4
      have sE : mm_s (mm_nw h 32 6 6) 0 = (20, len) := by rw [G.s (by omega)]; exact s0
      have g1 := (G.i (a := 0) (by omega) (i + 1)).trans e1
      have g2 := (G.i (a := 0) (by omega) (i + 2)).trans e2
      generalize mm_nw h 32 6 6 = hE at *
      have MT := ME.th (v := 2)
      simp only [s0_810, s0_812, s0_812o, s0_812n, s0_813, s0_813o, s0_813n, s0_814, s0_816, s0_817, s0_818, s0_819, s0_819o, s0_819n, s0_820, s0_822, s0_823, s0_824, s0_825, or_true, true_or, true_and, and_true, mm_o_some, mm_o_none, mm_bk_v, mm_bk_n, Nat.reduceAdd, sE, n1, j1, c1, n2, j2, c2, g1, g2, kS142 ME.1, c146y ME gp hA.1 g]
      simp only [s0_828, s0_830, s0_830o, s0_830n, s0_831, s0_834, s0_836, s0_839, s0_840, s0_841, s0_843, s0_846, s0_846o, s0_846n, s0_847, s0_848, s0_849, s0_851, s0_852, s0_855, s0_856, s0_857, or_true, true_or, true_and, and_true, mm_o_some, mm_o_none, mm_bk_v, mm_bk_n, Nat.reduceAdd, kS142 MT.1, c110z MT.1, th0, if_true, if_neg (show ¬ (2 : Int32) = 0 by decide)]
      exact K _ _ _ _ fin
    · by_cases gv : 0 ≤ y2.toInt ∧ y2.toInt ≤ 1
      · rw [w97z C hA hO hj gv]
        have F1 : zFr (fun x => x = 167) h (mm_pl h 167 0 (zLoad na A bL bR j y2.toInt)) := zFr.pl rfl
        have v1 : mm_l (mm_pl h 167 0 (zLoad na A bL bR j y2.toInt)) 167 0 = (zLoad na A bL bR j y2.toInt) := by rw [mm_l_pl, if_pos ⟨rfl, rfl⟩]
        have C1 := C.fr F1 hn (fun x hx => by omega)
        generalize mm_pl h 167 0 (zLoad na A bL bR j y2.toInt) = h1 at *
        have M1 := M.fr F1 (fun x x1 x2 => by omega)
        have s1 : mm_s h1 0 = (20, len) := by rw [F1.2.2.1]; exact s0
        have g1 := (F1.i (a := 0) (by omega) (i + 1)).trans e1
        have g2 := (F1.i (a := 0) (by omega) (i + 2)).trans e2
        simp only [s0_810, s0_812, s0_812o, s0_812n, s0_813, s0_813o, s0_813n, s0_814, s0_816, s0_817, s0_818, s0_819, s0_819o, s0_819n, s0_820, s0_822, s0_823, s0_824, s0_825, or_true, true_or, true_and, and_true, mm_o_some, mm_o_none, mm_bk_v, mm_bk_n, Nat.reduceAdd, s1, n1, j1, c1, n2, j2, c2, g1, g2, kS142 M1.1]
        refine c146z M1 hn hA hO hRP hj gv _ _ _ _ _ _ _ _ _ _ _ _ _ _ ?_
        have M2 := M1.th (v := 0)
        have F2 := zFr.th (h := h1) (v := 0)
        have t2 := th0 (h := h1) (v := 0)
        generalize mm_pi h1 142 0 0 = h2 at *
        have v2 := (F2.l (a := 167) (by omega) 0).trans v1
        simp only [s0_828, s0_830, s0_830o, s0_830n, s0_831, s0_834, s0_836, s0_839, s0_840, s0_841, s0_843, s0_846, s0_846o, s0_846n, s0_847, s0_848, s0_849, s0_851, s0_852, s0_855, s0_856, s0_857, or_true, true_or, true_and, and_true, mm_o_some, mm_o_none, mm_bk_v, mm_bk_n, Nat.reduceAdd, kS142 M2.1, c110z M2.1, t2, if_true, kS167 M2.1, in1_0, cl_0, v2, lcz, lcy]
        exact K _ _ _ _ (zLw_ok (S0) C1 F1 (by omega) F2 M2 l1 l2 l3 l4)
      · rw [w97w C hA.1 hj gv]
        have G := zAg.nw C.1.1 30 6 6
        have ME := M.ag G
        have fin : zLw Z h0 (mm_pi (mm_nw h 30 6 6) 142 0 3) (c + 1) := zLw_ex S0 C M l1 l2 l3 l4
        have sE : mm_s (mm_nw h 30 6 6) 0 = (20, len) := by rw [G.s (by omega)]; exact s0
        have g1 := (G.i (a := 0) (by omega) (i + 1)).trans e1
        have g2 := (G.i (a := 0) (by omega) (i + 2)).trans e2
        generalize mm_nw h 30 6 6 = hE at *
        have MT := ME.th (v := 3)
        simp only [s0_810, s0_812, s0_812o, s0_812n, s0_813, s0_813o, s0_813n, s0_814, s0_816, s0_817, s0_818, s0_819, s0_819o, s0_819n, s0_820, s0_822, s0_823, s0_824, s0_825, or_true, true_or, true_and, and_true, mm_o_some, mm_o_none, mm_bk_v, mm_bk_n, Nat.reduceAdd, sE, n1, j1, c1, n2, j2, c2, g1, g2, kS142 ME.1, c146w ME hA.1 hj gv]
        simp only [s0_828, s0_830, s0_830o, s0_830n, s0_831, s0_834, s0_836, s0_839, s0_840, s0_841, s0_843, s0_846, s0_846o, s0_846n, s0_847, s0_848, s0_849, s0_851, s0_852, s0_855, s0_856, s0_857, or_true, true_or, true_and, and_true, mm_o_some, mm_o_none, mm_bk_v, mm_bk_n, Nat.reduceAdd, kS142 MT.1, c110z MT.1, th0, if_true, if_neg (show ¬ (3 : Int32) = 0 by decide)]
        exact K _ _ _ _ fin

theorem lw_piece {Z : Nat} (L : zLw Z h0 h c) (hl : mm_s h0 0 = (20, len)) (hlen : len < 2 ^ 31) (hi : i + 5 ≤ len) (v5 v6 v7 : Value) (K : ∀ h' (v5 v6 v7 : Value), zLw Z h0 h' (c + 1) → mm_wp (d + 40) 0 860 [.ref 0, .ref 1, .ref 142, .ref 167, .int (nI i), v5, v6, v7] [] h' Q) : mm_wp (d + 40) 0 140 [.ref 0, .ref 1, .ref 142, .ref 167, .int (nI i), v5, v6, v7] [] h Q := by
  obtain ⟨W, n, P, mk, sp, bL, bR, na, A, S, C, M, l1, l2, l3, l4⟩ := L
  have S0 := S
  obtain ⟨wk, hn, hPk, rmk, hO, hRP, hA⟩ := S
  have s0 : mm_s h 0 = (20, len) := l1.trans hl
  have j1 : mm_in (nI (i + 1)) len = true := mm_inN (by omega) (by omega)
  have c1 : (nI (i + 1)).toNatClampNeg = i + 1 := nI_clamp (by omega)
  have n1 : nI i + (1 : Int32) = nI (i + 1) := nI_add i 1
  have j2 : mm_in (nI (i + 2)) len = true := mm_inN (by omega) (by omega)
  have c2 : (nI (i + 2)).toNatClampNeg = i + 2 := nI_clamp (by omega)
  have n2 : nI i + (2 : Int32) = nI (i + 2) := nI_add i 2
  have j3 : mm_in (nI (i + 3)) len = true := mm_inN (by omega) (by omega)
  have c3 : (nI (i + 3)).toNatClampNeg = i + 3 := nI_clamp (by omega)
  have n3 : nI i + (3 : Int32) = nI (i + 3) := nI_add i 3
  have j4 : mm_in (nI (i + 4)) len = true := mm_inN (by omega) (by omega)
  have c4 : (nI (i + 4)).toNatClampNeg = i + 4 := nI_clamp (by omega)
  have n4 : nI i + (4 : Int32) = nI (i + 4) := nI_add i 4
  simp only [s0_140, s0_140o, s0_140n, s0_141, s0_141o, s0_141n, s0_142, s0_144, s0_145, s0_146, s0_147, s0_147o, s0_147n, s0_148, s0_150, s0_151, s0_152, s0_153, s0_153o, s0_153n, s0_154, s0_156, s0_157, s0_158, s0_159, s0_159o, s0_159n, s0_160, s0_162, s0_163, s0_164, s0_165, s0_165o, s0_165n, s0_166, or_true, true_or, true_and, and_true, mm_o_some, mm_o_none, mm_bk_v, mm_bk_n, Nat.reduceAdd, s0, n1, j1, c1, n2, j2, c2, n3, j3, c3, n4, j4, c4]
  generalize e1 : mm_i h 0 (i + 1) = y1
  generalize e2 : mm_i h 0 (i + 2) = y2
  generalize e3 : mm_i h 0 (i + 3) = y3
  generalize e4 : mm_i h 0 (i + 4) = y4
  by_cases gv : zGoodP y1 y2 y3 y4
  · by_cases g8 : n = 8
    · rw [w22y C gv g8]
      have G := zAg.nw C.1.1 31 6 6
      have ME := M.ag G
      have fin : zLw Z h0 (mm_pi (mm_nw h 31 6 6) 142 0 2) (c + 1) := zLw_ex S0 C M l1 l2 l3 l4
      have sE : mm_s (mm_nw h 31 6 6) 0 = (20, len) := by rw [G.s (by omega)]; exact s0
      have g1 := (G.i (a := 0) (by omega) (i + 1)).trans e1
      have g2 := (G.i (a := 0) (by omega) (i + 2)).trans e2
      have g3 := (G.i (a := 0) (by omega) (i + 3)).trans e3
      have g4 := (G.i (a := 0) (by omega) (i + 4)).trans e4
      generalize mm_nw h 31 6 6 = hE at *
      have MT := ME.th (v := 2)
      simp only [s0_169, s0_171, s0_171o, s0_171n, s0_172, s0_172o, s0_172n, s0_173, s0_175, s0_176, s0_177, s0_178, s0_178o, s0_178n, s0_179, s0_181, s0_182, s0_183, s0_184, s0_184o, s0_184n, s0_185, s0_187, s0_188, s0_189, s0_190, s0_190o, s0_190n, s0_191, s0_193, s0_194, s0_195, s0_196, or_true, true_or, true_and, and_true, mm_o_some, mm_o_none, mm_bk_v, mm_bk_n, Nat.reduceAdd, sE, n1, j1, c1, n2, j2, c2, n3, j3, c3, n4, j4, c4, g1, g2, g3, g4, kS142 ME.1, c111y ME gv g8]
      simp only [s0_199, s0_201, s0_201o, s0_201n, s0_202, s0_205, s0_207, s0_210, s0_211, s0_212, s0_214, s0_217, s0_217o, s0_217n, s0_218, s0_219, s0_220, s0_222, s0_223, s0_224, s0_227, s0_228, s0_229, or_true, true_or, true_and, and_true, mm_o_some, mm_o_none, mm_bk_v, mm_bk_n, Nat.reduceAdd, kS142 MT.1, c110z MT.1, th0, if_true, if_neg (show ¬ (2 : Int32) = 0 by decide)]
      exact K _ _ _ _ fin
    · have gn : n < 8 := by omega
      have hk : zPok (zNew y1.toInt y2.toInt y3.toInt y4.toInt) := by
        have gv2 := gv
        simp only [zGoodP] at gv2
        simp only [zPok, zNew, Nat.reduceEqDiff, reduceIte]
        omega
      refine w22z C gv gn wk _ (fun h1 F1 C1 v1 => ?_)
      have M1 := M.fr F1 (fun x x1 x2 => by omega)
      have s1 : mm_s h1 0 = (20, len) := by rw [F1.2.2.1]; exact s0
      have g1 := (F1.i (a := 0) (by omega) (i + 1)).trans e1
      have g2 := (F1.i (a := 0) (by omega) (i + 2)).trans e2
      have g3 := (F1.i (a := 0) (by omega) (i + 3)).trans e3
      have g4 := (F1.i (a := 0) (by omega) (i + 4)).trans e4
      simp only [s0_169, s0_171, s0_171o, s0_171n, s0_172, s0_172o, s0_172n, s0_173, s0_175, s0_176, s0_177, s0_178, s0_178o, s0_178n, s0_179, s0_181, s0_182, s0_183, s0_184, s0_184o, s0_184n, s0_185, s0_187, s0_188, s0_189, s0_190, s0_190o, s0_190n, s0_191, s0_193, s0_194, s0_195, s0_196, or_true, true_or, true_and, and_true, mm_o_some, mm_o_none, mm_bk_v, mm_bk_n, Nat.reduceAdd, s1, n1, j1, c1, n2, j2, c2, n3, j3, c3, n4, j4, c4, g1, g2, g3, g4, kS142 M1.1]
      refine c111z M1 gv gn _ (fun h2 F2 M2 t2 => ?_)
      have v2 := (F2.l (a := 167) (by omega) 0).trans v1
      simp only [s0_199, s0_201, s0_201o, s0_201n, s0_202, s0_205, s0_207, s0_210, s0_211, s0_212, s0_214, s0_217, s0_217o, s0_217n, s0_218, s0_219, s0_220, s0_222, s0_223, s0_224, s0_227, s0_228, s0_229, or_true, true_or, true_and, and_true, mm_o_some, mm_o_none, mm_bk_v, mm_bk_n, Nat.reduceAdd, kS142 M2.1, c110z M2.1, t2, if_true, kS167 M2.1, in1_0, cl_0, v2, lcz, lcy]
      exact K _ _ _ _ (zLw_ok (S0.add gn hk) C1 F1 (by omega) F2 M2 l1 l2 l3 l4)
  · rw [w22x C gv]
    have G := zAg.nw C.1.1 30 6 6
    have ME := M.ag G
    have fin : zLw Z h0 (mm_pi (mm_nw h 30 6 6) 142 0 1) (c + 1) := zLw_ex S0 C M l1 l2 l3 l4
    have sE : mm_s (mm_nw h 30 6 6) 0 = (20, len) := by rw [G.s (by omega)]; exact s0
    have g1 := (G.i (a := 0) (by omega) (i + 1)).trans e1
    have g2 := (G.i (a := 0) (by omega) (i + 2)).trans e2
    have g3 := (G.i (a := 0) (by omega) (i + 3)).trans e3
    have g4 := (G.i (a := 0) (by omega) (i + 4)).trans e4
    generalize mm_nw h 30 6 6 = hE at *
    have MT := ME.th (v := 1)
    simp only [s0_169, s0_171, s0_171o, s0_171n, s0_172, s0_172o, s0_172n, s0_173, s0_175, s0_176, s0_177, s0_178, s0_178o, s0_178n, s0_179, s0_181, s0_182, s0_183, s0_184, s0_184o, s0_184n, s0_185, s0_187, s0_188, s0_189, s0_190, s0_190o, s0_190n, s0_191, s0_193, s0_194, s0_195, s0_196, or_true, true_or, true_and, and_true, mm_o_some, mm_o_none, mm_bk_v, mm_bk_n, Nat.reduceAdd, sE, n1, j1, c1, n2, j2, c2, n3, j3, c3, n4, j4, c4, g1, g2, g3, g4, kS142 ME.1, c111x ME gv]
    simp only [s0_199, s0_201, s0_201o, s0_201n, s0_202, s0_205, s0_207, s0_210, s0_211, s0_212, s0_214, s0_217, s0_217o, s0_217n, s0_218, s0_219, s0_220, s0_222, s0_223, s0_224, s0_227, s0_228, s0_229, or_true, true_or, true_and, and_true, mm_o_some, mm_o_none, mm_bk_v, mm_bk_n, Nat.reduceAdd, kS142 MT.1, c110z MT.1, th0, if_true, if_neg (show ¬ (1 : Int32) = 0 by decide)]
    exact K _ _ _ _ fin

theorem lw_exact {Z : Nat} (L : zLw Z h0 h c) (hl : mm_s h0 0 = (20, len)) (hlen : len < 2 ^ 31) (hi : i + 5 ≤ len) (v5 v6 v7 : Value) (K : ∀ h' (v5 v6 v7 : Value), zLw Z h0 h' (c + 1) → mm_wp (d + 40) 0 860 [.ref 0, .ref 1, .ref 142, .ref 167, .int (nI i), v5, v6, v7] [] h' Q) : mm_wp (d + 40) 0 548 [.ref 0, .ref 1, .ref 142, .ref 167, .int (nI i), v5, v6, v7] [] h Q := by
  obtain ⟨W, n, P, mk, sp, bL, bR, na, A, S, C, M, l1, l2, l3, l4⟩ := L
  have S0 := S
  obtain ⟨wk, hn, hPk, rmk, hO, hRP, hA⟩ := S
  have s0 : mm_s h 0 = (20, len) := l1.trans hl
  simp only [s0_548, s0_548o, s0_548n, s0_549, s0_552, s0_552o, s0_552n, s0_553, s0_556, s0_559, s0_560, or_true, true_or, true_and, and_true, mm_o_some, mm_o_none, mm_bk_v, mm_bk_n, Nat.reduceAdd, kS1 C.1, kS142 M.1, c14z C rmk, c138z M, if_true]
  exact K _ _ _ _ (zLw_ok (T := fun _ => False) S0 C zFr.refl (fun q => q) (zFr.th (h := h) (v := 0)) (M.th (v := 0)) l1 l2 l3 l4)

theorem lw_steps {Z : Nat} (L : zLw Z h0 h c) (hl : mm_s h0 0 = (20, len)) (hlen : len < 2 ^ 31) (hi : i + 5 ≤ len) (v5 v6 v7 : Value) (K : ∀ h' (v5 v6 v7 : Value), zLw Z h0 h' (c + 1) → mm_wp (d + 40) 0 860 [.ref 0, .ref 1, .ref 142, .ref 167, .int (nI i), v5, v6, v7] [] h' Q) : mm_wp (d + 40) 0 561 [.ref 0, .ref 1, .ref 142, .ref 167, .int (nI i), v5, v6, v7] [] h Q := by
  obtain ⟨W, n, P, mk, sp, bL, bR, na, A, S, C, M, l1, l2, l3, l4⟩ := L
  have S0 := S
  obtain ⟨wk, hn, hPk, rmk, hO, hRP, hA⟩ := S
  have s0 : mm_s h 0 = (20, len) := l1.trans hl
  simp only [s0_561, s0_561o, s0_561n, s0_562, s0_565, s0_565o, s0_565n, s0_566, s0_569, s0_572, s0_573, or_true, true_or, true_and, and_true, mm_o_some, mm_o_none, mm_bk_v, mm_bk_n, Nat.reduceAdd, kS1 C.1, kS142 M.1, c15z C, c139z M, if_true]
  exact K _ _ _ _ (zLw_ok (T := fun _ => False) S0 C zFr.refl (fun q => q) (zFr.th (h := h) (v := 0)) (M.th (v := 0)) l1 l2 l3 l4)

theorem lw_moment {Z : Nat} (L : zLw Z h0 h c) (hl : mm_s h0 0 = (20, len)) (hlen : len < 2 ^ 31) (hi : i + 5 ≤ len) (v5 v6 v7 : Value) (K : ∀ h' (v5 v6 v7 : Value), zLw Z h0 h' (c + 1) → mm_wp (d + 40) 0 860 [.ref 0, .ref 1, .ref 142, .ref 167, .int (nI i), v5, v6, v7] [] h' Q) : mm_wp (d + 40) 0 655 [.ref 0, .ref 1, .ref 142, .ref 167, .int (nI i), v5, v6, v7] [] h Q := by
  obtain ⟨W, n, P, mk, sp, bL, bR, na, A, S, C, M, l1, l2, l3, l4⟩ := L
  have S0 := S
  obtain ⟨wk, hn, hPk, rmk, hO, hRP, hA⟩ := S
  have s0 : mm_s h 0 = (20, len) := l1.trans hl
  simp only [s0_655, s0_655o, s0_655n, s0_656, s0_659, s0_659o, s0_659n, s0_660, s0_663, s0_664, s0_667, s0_668, or_true, true_or, true_and, and_true, mm_o_some, mm_o_none, mm_bk_v, mm_bk_n, Nat.reduceAdd, kS1 C.1, kS142 M.1, c20z C, c142z M, lcz, lcy, if_true]
  exact K _ _ _ _ (zLw_ok (T := fun _ => False) S0 C zFr.refl (fun q => q) (zFr.th (h := h) (v := 0)) (M.th (v := 0)) l1 l2 l3 l4)

theorem lw_bound {Z : Nat} (L : zLw Z h0 h c) (hl : mm_s h0 0 = (20, len)) (hlen : len < 2 ^ 31) (hi : i + 5 ≤ len) (v5 v6 v7 : Value) (K : ∀ h' (v5 v6 v7 : Value), zLw Z h0 h' (c + 1) → mm_wp (d + 40) 0 860 [.ref 0, .ref 1, .ref 142, .ref 167, .int (nI i), v5, v6, v7] [] h' Q) : mm_wp (d + 40) 0 574 [.ref 0, .ref 1, .ref 142, .ref 167, .int (nI i), v5, v6, v7] [] h Q := by
  obtain ⟨W, n, P, mk, sp, bL, bR, na, A, S, C, M, l1, l2, l3, l4⟩ := L
  have S0 := S
  obtain ⟨wk, hn, hPk, rmk, hO, hRP, hA⟩ := S
  have s0 : mm_s h 0 = (20, len) := l1.trans hl
  simp only [s0_574, s0_574o, s0_574n, s0_575, s0_578, s0_578o, s0_578n, s0_579, or_true, true_or, true_and, and_true, mm_o_some, mm_o_none, mm_bk_v, mm_bk_n, Nat.reduceAdd, kS1 C.1, kS142 M.1, c16z C hn wk hPk]
  refine c124z M hn wk hPk _ _ (fun h2 F2 M2 => ?_)
  simp only [s0_582, s0_585, s0_586, or_true, true_or, true_and, and_true, mm_o_some, mm_o_none, mm_bk_v, mm_bk_n, Nat.reduceAdd, if_true]
  exact K _ _ _ _ (zLw_ok (T := fun _ => False) S0 C zFr.refl (fun q => q) F2 M2 l1 l2 l3 l4)

end
