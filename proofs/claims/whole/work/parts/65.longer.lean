/-! A ROW IS LENGTHENED, AND SHORTENED -/
section
variable {d : Nat} {h h' : mm_H} {Q : mm_Q} {a b c r L t e j i q : Nat} {x x2 x3 : Int32} {p A C : Nat → Int} {R : zR} {l : List Int} {y v sg : Int}
theorem rkE_s : mm_s (rkE h r L C R sg) = mm_s h := (rkH_s L 0 _).1
theorem rkE_r : mm_r (rkE h r L C R sg) = mm_r h := (rkH_s L 0 _).2.1
theorem rkE_n : mm_n (rkE h r L C R sg) = mm_n h := (rkH_s L 0 _).2.2.2.1
theorem rkE_z : mm_z (rkE h r L C R sg) = mm_z h := (rkH_s L 0 _).2.2.2.2
theorem rkE_l (b k : Nat) : mm_l (rkE h r L C R sg) b k = if b = r ∧ k = 3 then mm_l h r 3 + zL (sg * C 12 * (2 * C 4 + C 10)) else mm_l h b k := by
  rw [rkE, (rkH_s L 0 _).2.2.1, mm_l_pl]
  rfl
theorem rkE_i (b k : Nat) (hk : ¬ k = 15 ∨ b < r + 2 ∨ r + 2 + L ≤ b) : mm_i (rkE h r L C R sg) b k = if b = r ∧ k = 2 then mm_i h r 2 + zI (sg * C 9 * C 10 * C 11) else mm_i h b k := by
  rw [rkE, rkH_o L 0 _ b k (by omega), mm_i_pl, mm_i_pi]
theorem rkE_b (j : Nat) (hj : j < L) : mm_i (rkE h r L C R sg) (r + 2 + j) 15 = if zOv C (R j) = true then zI (R j 15 + sg * C 12) else mm_i h (r + 2 + j) 15 := by
  rw [rkE, rkH_b L 0 _ j (by omega) (by omega), mm_i_pl, mm_i_pi, if_neg (show ¬ (r + 2 + j = r ∧ 15 = 2) by omega)]
def zRv (h : mm_H) (r L : Nat) (R : zR) : Prop := zRw h r L R ∧ mm_i h r 2 = zI (zVol L R) ∧ mm_l h r 3 = zL (zMom L R)
/-- all but a row's own numbers, and what its first L pieces bear -/
def zRq (r L : Nat) (h h' : mm_H) : Prop := mm_n h' = mm_n h ∧ mm_z h' = mm_z h ∧ mm_s h' = mm_s h ∧ mm_r h' = mm_r h ∧ (∀ a k, ¬ a = r → ¬ (k = 15 ∧ r + 2 ≤ a ∧ a < r + 2 + L) → mm_i h' a k = mm_i h a k) ∧ ∀ a k, ¬ a = r → mm_l h' a k = mm_l h a k
theorem zOv_push {i : Nat} {D : Nat → Int} (hi : i < L) : zOv D (zPush L R C i) = zOv D (R i) := by
  simp only [zOv, zPush, if_neg (show ¬ i = L by omega), Nat.reduceEqDiff, false_and, if_false]
theorem zPush_k {i k : Nat} (hi : i < L) (hk : ¬ k = 15) : zPush L R C i k = R i k := by
  simp only [zPush, if_neg (show ¬ i = L by omega), hk, false_and, if_false]
theorem zPush_15 {i : Nat} (hi : i < L) : zPush L R C i 15 = if zOv C (R i) = true then R i 15 + C 12 else R i 15 := by
  simp only [zPush, if_neg (show ¬ i = L by omega), hi, true_and]
theorem zPush_L : zPush L R C L = C := by simp only [zPush, if_true]
theorem zVol_push : zVol (L + 1) (zPush L R C) = zVol L R + C 9 * C 10 * C 11 := by
  simp only [zVol, zSum, zPush_L]
  rw [zSum_congr L (fun i hi => by rw [zPush_k hi (by decide), zPush_k hi (by decide), zPush_k hi (by decide)])]
theorem zMom_push : zMom (L + 1) (zPush L R C) = zMom L R + C 12 * (2 * C 4 + C 10) := by
  simp only [zMom, zSum, zPush_L]
  rw [zSum_congr L (fun i hi => by rw [zPush_k hi (by decide), zPush_k hi (by decide), zPush_k hi (by decide)])]
theorem zSk.of (hs : zSk h r) (e1 : mm_s h' = mm_s h) (e2 : mm_r h' = mm_r h) : zSk h' r := by
  simp only [zSk, e1, e2]
  exact hs
theorem c80z (hR : zRv h r L R) (hO : ∀ i, i < L → zOk (R i)) (hC : zRec h (r + 2 + L) C) (oC : zOk C) (h8 : L < 8) (H : ∀ h', zRv h' r (L + 1) (zPush L R C) → zRq r L h h' → Q (.inl none) h') : mm_wp (d + 2) 80 0 [.ref r] [] h Q := by
  obtain ⟨hW, hv, hm⟩ := hR
  have hW' := hW
  obtain ⟨hs, h6, h5, h7⟩ := hW
  have hs' := hs
  obtain ⟨h1, h2, h3, h4⟩ := hs
  have e : ¬ (8 : Int32) ≤ nI L := nI_ge (b := 8) h8 (by omega)
  have hin : mm_in (nI L) 8 = true := mm_inN (by omega) (by omega)
  have hcl : (nI L).toNatClampNeg = L := nI_clamp (by omega)
  obtain ⟨p1, p2⟩ := h4 L (by omega)
  have ca := fun Q => c81z (d := d) (Q := Q) (sg := 1) hW' hO hC oC rfl (Or.inl rfl) mm_j
  simp only [← zI_1] at ca
  have r1 : mm_i (rkE h r L C R 1) r 1 = nI L := by rw [rkE_i r 1 (by omega), if_neg (by omega)]; exact h5
  simp only [s80_0, s80_1, s80_4, s80_6, s80_9, s80_10, s80_11, s80_14, s80_15, s80_18, s80_19, s80_20, s80_23, s80_24, s80_25, s80_28, s80_29, s80_30, s80_33, or_true, true_or, true_and, and_true, mm_o_some, mm_o_none, mm_bk_v, mm_bk_n, Nat.reduceAdd, h1, h2, h3, h5, if_neg e, hin, hcl, p1, p2, Nat.reduceLeDiff, ca, rkE_s, r1, nI_1]
  refine H _ ⟨⟨hs'.of (by rw [mm_s_pi, rkE_s]) (by rw [mm_r_pi, rkE_r]), by omega, by rw [mm_i_pi, if_pos ⟨rfl, rfl⟩], fun i hi => ⟨by rw [mm_s_pi, rkE_s]; exact (h4 i (by omega)).2, fun k k1 k2 => ?_⟩⟩, ?_, ?_⟩ ⟨?_, ?_, ?_, ?_, ?_, ?_⟩
  · rw [mm_i_pi, if_neg (by omega)]
    by_cases hiL : i = L
    · subst hiL
      rw [rkE_i _ k (by omega), if_neg (by omega), zPush_L]
      exact hC.2 k k1 k2
    · by_cases hk : k = 15
      · subst hk
        rw [rkE_b i (by omega), zPush_15 (by omega), Int.one_mul, (h7 i (by omega)).2 15 k1 k2]
        split <;> rfl
      · rw [rkE_i _ k (by omega), if_neg (by omega), zPush_k (by omega) hk]
        exact (h7 i (by omega)).2 k k1 k2
  · rw [mm_i_pi, if_neg (by omega), rkE_i r 2 (by omega), if_pos ⟨rfl, rfl⟩, hv, zI_add, zVol_push, Int.one_mul]
  · rw [mm_l_pi, rkE_l, if_pos ⟨rfl, rfl⟩, hm, zL_add, zMom_push, Int.one_mul]
  · rw [mm_n_pi, rkE_n]
  · rw [mm_z_pi, rkE_z]
  · rw [mm_s_pi, rkE_s]
  · rw [mm_r_pi, rkE_r]
  · intro a k ha hk
    rw [mm_i_pi, if_neg (by omega), rkE_i a k (by omega), if_neg (by omega)]
  · intro a k ha
    rw [mm_l_pi, rkE_l, if_neg (by omega)]
theorem c86z (hR : zRv h r (L + 1) (zPush L R C)) (hO : ∀ i, i < L → zOk (R i)) (hO' : ∀ i, i < L → zOk (zPush L R C i)) (oC : zOk C) (H : ∀ h', zRv h' r L R → zRq r L h h' → Q (.inl none) h') : mm_wp (d + 2) 86 0 [.ref r] [] h Q := by
  obtain ⟨hW, hv, hm⟩ := hR
  obtain ⟨hs, h6, h5, h7⟩ := hW
  have hs' := hs
  obtain ⟨h1, h2, h3, h4⟩ := hs
  have e : ¬ nI (L + 1) ≤ 0 := nI_nle (by omega) (by omega)
  have hin : mm_in (nI L) 8 = true := mm_inN (by omega) (by omega)
  have hcl : (nI L).toNatClampNeg = L := nI_clamp (by omega)
  obtain ⟨p1, p2⟩ := h4 L (by omega)
  have hC : zRec h (r + 2 + L) C := by have := h7 L (by omega); rw [zPush_L] at this; exact this
  have hW2 : zRw (mm_pi h r 1 (nI L)) r L (zPush L R C) := ⟨hs', by omega, by rw [mm_i_pi, if_pos ⟨rfl, rfl⟩], fun i hi => (h7 i (by omega)).pi (by omega) _ _⟩
  have ca := fun Q => c81z (d := d) (Q := Q) (sg := -1) hW2 hO' (hC.pi (by omega) 1 (nI L)) oC rfl (Or.inr rfl) mm_j
  simp only [← zI_m1] at ca
  simp only [s86_0, s86_1, s86_4, s86_7, s86_8, s86_9, s86_12, s86_13, s86_14, s86_17, s86_18, s86_19, s86_22, s86_23, s86_26, s86_27, s86_28, s86_31, or_true, true_or, true_and, and_true, mm_o_some, mm_o_none, mm_bk_v, mm_bk_n, Nat.reduceAdd, h1, h2, h3, h5, if_neg e, nI_pred, mm_s_pi, mm_r_pi, mm_i_pi, and_true, if_true, hin, hcl, p1, p2, Nat.reduceLeDiff, ca]
  refine H _ ⟨⟨hs'.of (by rw [rkE_s, mm_s_pi]) (by rw [rkE_r, mm_r_pi]), by omega, by rw [rkE_i r 1 (by omega), if_neg (by omega), mm_i_pi, if_pos ⟨rfl, rfl⟩], fun i hi => ⟨by rw [rkE_s, mm_s_pi]; exact (h4 i (by omega)).2, fun k k1 k2 => ?_⟩⟩, ?_, ?_⟩ ⟨?_, ?_, ?_, ?_, ?_, ?_⟩
  · by_cases hk : k = 15
    · subst hk
      have g := (h7 i (by omega)).2 15 k1 k2
      rw [zPush_15 hi] at g
      rw [rkE_b i hi, zOv_push hi, zPush_15 hi, mm_i_pi, if_neg (show ¬ (r + 2 + i = r ∧ 15 = 1) by omega), g]
      by_cases hz : zOv C (R i) = true
      · rw [if_pos hz, if_pos hz, show R i 15 + C 12 + -1 * C 12 = R i 15 by omega]
      · rw [if_neg hz, if_neg hz]
    · rw [rkE_i _ k (by omega), if_neg (by omega), mm_i_pi, if_neg (by omega)]
      have := (h7 i (by omega)).2 k k1 k2
      rw [zPush_k hi hk] at this
      exact this
  · rw [rkE_i r 2 (by omega), if_pos ⟨rfl, rfl⟩, mm_i_pi, if_neg (by omega), hv, zVol_push, zI_add]
    congr 1
    rw [Int.neg_one_mul, Int.neg_mul, Int.neg_mul]
    omega
  · rw [rkE_l, if_pos ⟨rfl, rfl⟩, mm_l_pi, hm, zMom_push, zL_add]
    congr 1
    rw [Int.mul_assoc, Int.neg_one_mul]
    omega
  · rw [rkE_n, mm_n_pi]
  · rw [rkE_z, mm_z_pi]
  · rw [rkE_s, mm_s_pi]
  · rw [rkE_r, mm_r_pi]
  · intro a k ha hk
    rw [rkE_i a k (by omega), if_neg (by omega), mm_i_pi, if_neg (by omega)]
  · intro a k ha
    rw [rkE_l, if_neg (by omega), mm_l_pi]

end
