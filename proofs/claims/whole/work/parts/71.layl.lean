/-! A FLOOR IS LAID: the loops -/
section
variable {d : Nat} {h h' : mm_H} {Q : mm_Q} {a b r L n : Nat} {R : zR} {y : Int}
theorem zRw.fr {T : Nat → Prop} (hR : zRw h r L R) (F : zFr T h h') (hT : ∀ x, r ≤ x → x < r + 10 → ¬ T x) : zRw h' r L R := by
  obtain ⟨hs, h6, h5, h7⟩ := hR
  refine ⟨hs.of F.2.2.1 F.2.2.2.1, h6, by rw [F.i (hT r (by omega) (by omega))]; exact h5, fun i hi => ⟨by rw [F.2.2.1]; exact (h7 i hi).1, fun k k1 k2 => by rw [F.i (hT (r + 2 + i) (by omega) (by omega))]; exact (h7 i hi).2 k k1 k2⟩⟩
theorem wdH_fr (ar lf rt bk fr : Int) : zFr (fun x => x = a) h (wdH h a ar lf rt bk fr) := by
  have T : (fun x => x = a) a := rfl
  rw [wdH]
  exact zFr.trans (zFr.trans (zFr.trans (zFr.trans (zFr.pi T) (zFr.pi T)) (zFr.pi T)) (zFr.pi T)) (zFr.pi T)
theorem wdH_i (ar lf rt bk fr : Int) : mm_i (wdH h a ar lf rt bk fr) a 0 = mm_i h a 0 ∧ mm_i (wdH h a ar lf rt bk fr) a 1 = zI ar ∧ mm_i (wdH h a ar lf rt bk fr) a 2 = zI lf ∧ mm_i (wdH h a ar lf rt bk fr) a 3 = zI rt ∧ mm_i (wdH h a ar lf rt bk fr) a 4 = zI bk ∧ mm_i (wdH h a ar lf rt bk fr) a 5 = zI fr := by
  refine ⟨?_, ?_, ?_, ?_, ?_, ?_⟩ <;> simp [wdH, mm_i_pi]
theorem zFa_s (e : R n 7 = y) : zFa R y (n + 1) = zFa R y n + R n 9 * R n 11 := by simp only [zFa, zSum, if_pos e]
theorem zFa_k (e : ¬ R n 7 = y) : zFa R y (n + 1) = zFa R y n := by simp only [zFa, zSum, if_neg e]; omega
theorem c57_loop (hL : L ≤ 8) (hO : ∀ i, i < L → zOk (R i)) (hy : zr y) (hra : r + 10 ≤ a) : ∀ m i h, i + m = L → (mm_s h a).1 = 4 → zRw h r L R → zFlo h a y R i → (∀ h', zFr (fun x => x = a) h h' → zFlo h' a y R L → Q (.inl none) h') → mm_wp (d + 2) 57 12 [.ref a, .int (zI y), .ref r, .int (nI i)] [] h Q := by
  intro m
  induction m with
  | zero =>
    intro i h hi ha hR hF H
    have c : nI L ≤ nI i := by rw [show i = L by omega]; exact Int32.le_refl _
    have h1 := hR.1.1
    have h5 := hR.2.2.1
    rw [s57_12]
    simp only [s57_0, s57_1, s57_2, s57_5, s57_6, s57_7, s57_10, s57_11, s57_13, s57_13o, s57_13n, s57_14, s57_17, s57_20, s57_20o, s57_20n, s57_21, s57_24, s57_25, s57_26, s57_29, s57_30, s57_33, s57_34, s57_34o, s57_34n, s57_35, s57_38, s57_39, s57_40, s57_43, s57_46, s57_49, or_true, true_or, true_and, and_true, mm_o_some, mm_o_none, mm_bk_v, mm_bk_n, Nat.reduceAdd, h1, h5, if_pos c]
    rw [show i = L by omega] at hF
    exact H h zFr.refl hF
  | succ m ih =>
    intro i h hi ha hR hF H
    have hR' := hR
    obtain ⟨⟨h1, h2, h3, h4⟩, h6, h5, h7⟩ := hR
    have c : ¬ nI L ≤ nI i := nI_ge (by omega) (by omega)
    have hin : mm_in (nI i) 8 = true := mm_inN (by omega) (by omega)
    have hcl : (nI i).toNatClampNeg = i := nI_clamp (by omega)
    obtain ⟨p1, p2⟩ := h4 i (by omega)
    have hA := h7 i (by omega)
    have oA := hO i (by omega)
    have i7 := hA.2 7 (by decide) (by decide)
    have e7 := zI_eq (oA.r 7 (by decide) (by decide)) hy
    have hab : ¬ r + 2 + i = a := by omega
    have step : ∀ h', zFr (fun x => x = a) h h' → zFlo h' a y R (i + 1) → mm_wp (d + 2) 57 12 [.ref a, .int (zI y), .ref r, .int (nI (i + 1))] [] h' Q := fun h' F G => ih (i + 1) h' (by omega) (by rw [F.2.2.1]; exact ha) (hR'.fr F (fun x x1 x2 => by omega)) G (fun h'' F2 G2 => H h'' (F.trans F2) G2)
    rw [s57_12]
    by_cases e : R i 7 = y
    · by_cases ex : ∃ k, k < i ∧ R k 7 = y
      · obtain ⟨f0, f1, f2⟩ := hF
        obtain ⟨lf, rt, bk, fr, g2, g3, g4, g5, gb⟩ := f2 ex
        have po := zFa_p i (fun k hk => hO k (by omega)) ex
        have bo := zFa_b (y := y) i (fun k hk => hO k (by omega))
        have rg : zr lf ∧ zr rt ∧ zr bk ∧ zr fr := by
          obtain ⟨_, ⟨i1, a1, _, c1⟩, ⟨i2, a2, _, c2⟩, ⟨i3, a3, _, c3⟩, ⟨i4, a4, _, c4⟩⟩ := gb
          rw [c1, c2, c3, c4]
          exact ⟨(hO i1 (by omega)).r 3 (by decide) (by decide), (hO i2 (by omega)).r 6 (by decide) (by decide), (hO i3 (by omega)).r 5 (by decide) (by decide), (hO i4 (by omega)).r 8 (by decide) (by decide)⟩
        simp only [s57_0, s57_1, s57_2, s57_5, s57_6, s57_7, s57_10, s57_11, s57_13, s57_13o, s57_13n, s57_14, s57_17, s57_20, s57_20o, s57_20n, s57_21, s57_24, s57_25, s57_26, s57_29, s57_30, s57_33, s57_34, s57_34o, s57_34n, s57_35, s57_38, s57_39, s57_40, s57_43, s57_46, s57_49, or_true, true_or, true_and, and_true, mm_o_some, mm_o_none, mm_bk_v, mm_bk_n, Nat.reduceAdd, h1, h2, h3, h5, if_neg c, hin, hcl, p1, p2, i7, e7, if_pos e, ha, Nat.reduceLeDiff, c58b ha hA oA hab f1 (show ¬ zFa R y i = 0 by omega) (show zr (zFa R y i) by simp only [zr]; omega) g2 g3 g4 g5 rg.1 rg.2.1 rg.2.2.1 rg.2.2.2, nI_1]
        obtain ⟨w0, w1, w2, w3, w4, w5⟩ := wdH_i (h := h) (a := a) (zFa R y i + R i 9 * R i 11) (min lf (R i 3)) (max rt (R i 6)) (min bk (R i 5)) (max fr (R i 8))
        exact step _ (wdH_fr _ _ _ _ _) ⟨w0.trans f0, by rw [w1, zFa_s e], fun _ => ⟨_, _, _, _, w2, w3, w4, w5, zBd_w gb e⟩⟩
      · have nx : ∀ k, k < i → ¬ R k 7 = y := fun k hk hy => ex ⟨k, hk, hy⟩
        obtain ⟨f0, f1, f2⟩ := hF
        rw [zFa_0 i nx] at f1
        simp only [s57_0, s57_1, s57_2, s57_5, s57_6, s57_7, s57_10, s57_11, s57_13, s57_13o, s57_13n, s57_14, s57_17, s57_20, s57_20o, s57_20n, s57_21, s57_24, s57_25, s57_26, s57_29, s57_30, s57_33, s57_34, s57_34o, s57_34n, s57_35, s57_38, s57_39, s57_40, s57_43, s57_46, s57_49, or_true, true_or, true_and, and_true, mm_o_some, mm_o_none, mm_bk_v, mm_bk_n, Nat.reduceAdd, h1, h2, h3, h5, if_neg c, hin, hcl, p1, p2, i7, e7, if_pos e, ha, Nat.reduceLeDiff, c58a ha hA hab f1, nI_1]
        obtain ⟨w0, w1, w2, w3, w4, w5⟩ := wdH_i (h := h) (a := a) (0 + R i 9 * R i 11) (R i 3) (R i 6) (R i 5) (R i 8)
        exact step _ (wdH_fr _ _ _ _ _) ⟨w0.trans f0, by rw [w1, zFa_s e, zFa_0 i nx], fun _ => ⟨_, _, _, _, w2, w3, w4, w5, zBd_1 nx e⟩⟩
    · simp only [s57_0, s57_1, s57_2, s57_5, s57_6, s57_7, s57_10, s57_11, s57_13, s57_13o, s57_13n, s57_14, s57_17, s57_20, s57_20o, s57_20n, s57_21, s57_24, s57_25, s57_26, s57_29, s57_30, s57_33, s57_34, s57_34o, s57_34n, s57_35, s57_38, s57_39, s57_40, s57_43, s57_46, s57_49, or_true, true_or, true_and, and_true, mm_o_some, mm_o_none, mm_bk_v, mm_bk_n, Nat.reduceAdd, h1, h2, h3, h5, if_neg c, hin, hcl, p1, p2, i7, e7, if_neg e, Nat.reduceLeDiff, nI_1]
      obtain ⟨f0, f1, f2⟩ := hF
      refine step h zFr.refl ⟨f0, by rw [zFa_k e]; exact f1, fun ⟨k, k1, k2⟩ => ?_⟩
      have : ¬ k = i := fun H => e (H ▸ k2)
      obtain ⟨lf, rt, bk, fr, g2, g3, g4, g5, gb⟩ := f2 ⟨k, by omega, k2⟩
      exact ⟨lf, rt, bk, fr, g2, g3, g4, g5, zBd_k gb e⟩
end
