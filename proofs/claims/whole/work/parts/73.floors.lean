/-! THE FLOORS OF A LEVEL -/
section
variable {d : Nat} {h h' : mm_H} {Q : mm_Q} {a b r L n : Nat} {R : zR} {y : Int} {W : Nat → Int} {l : List Int}
theorem nI_8 (L : Nat) : nI L * (8 : Int32) = nI (8 * L) := by
  rw [zI_n, zI_n, show (8 : Int32) = zI 8 from rfl, zI_mul, show ((L : Int) * 8) = ((8 * L : Nat) : Int) by omega]
theorem kSe_rights (H : zSK h) : zSe h 42 := ⟨by rw [kS42 H], kR42_0 H, kR42_1 H, kS43 H, kS52 H, fun i hi => ⟨kR_rights H hi, kS_rights H hi⟩⟩
theorem kSe_tops (H : zSK h) : zSe h 53 := ⟨by rw [kS53 H], kR53_0 H, kR53_1 H, kS54 H, kS63 H, fun i hi => ⟨kR_tops H hi, kS_tops H hi⟩⟩
theorem kSe_fronts (H : zSK h) : zSe h 64 := ⟨by rw [kS64 H], kR64_0 H, kR64_1 H, kS65 H, kS74 H, fun i hi => ⟨kR_fronts H hi, kS_fronts H hi⟩⟩
theorem zEd.fr {T : Nat → Prop} {e j : Nat} (hE : zEd h e j l) (F : zFr T h h') (h1 : ¬ T (e + 10)) (h2 : ¬ T (e + 2 + j)) : zEd h' e j l := ⟨by rw [F.i h1]; exact hE.1, hE.2.1, fun i hi => by rw [F.i h2]; exact hE.2.2 i hi⟩
theorem zFlo.fr {T : Nat → Prop} (hF : zFlo h a y R n) (F : zFr T h h') (h1 : ¬ T a) : zFlo h' a y R n := by
  simp only [zFlo, F.i h1]
  exact hF
theorem c53_loop (hL8 : L < 8) (hO : ∀ i, i < L → zOk (R i)) (hl : ∀ i, i < l.length → zr (l.getD i 0)) : ∀ m i h, 1 ≤ i → i + m = l.length → zSK h → zRw h 22 L R → zEd h 53 L l → (∀ k, 1 ≤ k → k < i → zFlo h (76 + (8 * L + k)) (l.getD k 0) R L) → (∀ h', zFr (fun x => 76 + 8 * L < x ∧ x < 84 + 8 * L) h h' → (∀ k, 1 ≤ k → k < l.length → zFlo h' (76 + (8 * L + k)) (l.getD k 0) R L) → Q (.inl none) h') → mm_wp (d + 3) 53 18 [.ref 21, .int (nI L), .int (nI i)] [] h Q := by
  intro m
  induction m with
  | zero =>
    intro i h hi1 hi hK hR hE hF H
    have c : nI l.length ≤ nI i := by rw [show i = l.length by omega]; exact Int32.le_refl _
    rw [s53_18]
    simp only [s53_0, s53_1, s53_4, s53_5, s53_7, s53_8, s53_9, s53_10, s53_13, s53_16, s53_17, s53_19, s53_20, s53_23, s53_24, s53_27, s53_30, s53_31, s53_34, s53_35, s53_37, s53_38, s53_39, s53_40, s53_41, s53_42, s53_45, s53_46, s53_47, s53_50, s53_51, s53_54, s53_57, s53_60, s53_63, or_true, true_or, true_and, and_true, mm_o_some, mm_o_none, mm_bk_v, mm_bk_n, Nat.reduceAdd, kS21 hK, kS53 hK, kR21_5 hK, c55z (kSe_tops hK) hL8, hE.1, if_pos c]
    exact H h zFr.refl (fun k k1 k2 => hF k k1 (by omega))
  | succ m ih =>
    intro i h hi1 hi hK hR hE hF H
    have hlen := hE.2.1
    have c : ¬ nI l.length ≤ nI i := nI_ge (by omega) (by omega)
    have hin : mm_in (nI (8 * L + i)) 64 = true := mm_inN (by omega) (by omega)
    have hcl : (nI (8 * L + i)).toNatClampNeg = 8 * L + i := nI_clamp (by omega)
    have sF := kS_floor hK (i := 8 * L + i) (by omega)
    rw [s53_18]
    simp only [s53_0, s53_1, s53_4, s53_5, s53_7, s53_8, s53_9, s53_10, s53_13, s53_16, s53_17, s53_19, s53_20, s53_23, s53_24, s53_27, s53_30, s53_31, s53_34, s53_35, s53_37, s53_38, s53_39, s53_40, s53_41, s53_42, s53_45, s53_46, s53_47, s53_50, s53_51, s53_54, s53_57, s53_60, s53_63, or_true, true_or, true_and, and_true, mm_o_some, mm_o_none, mm_bk_v, mm_bk_n, Nat.reduceAdd, kS21 hK, kS53 hK, kR21_5 hK, kR21_7 hK, kR21_2 hK, kS75 hK, c55z (kSe_tops hK) hL8, hE.1, if_neg c, nI_8, nI_add, hin, hcl, kR_floors hK (i := 8 * L + i) (by omega), sF, c56z (kSe_tops hK) hL8 hE (show i < l.length by omega), Nat.reduceLeDiff]
    refine c57z hO (hl i (by omega)) (by omega) (by rw [sF]) hR _ (fun h' F G => ?_)
    simp only [s53_0, s53_1, s53_4, s53_5, s53_7, s53_8, s53_9, s53_10, s53_13, s53_16, s53_17, s53_19, s53_20, s53_23, s53_24, s53_27, s53_30, s53_31, s53_34, s53_35, s53_37, s53_38, s53_39, s53_40, s53_41, s53_42, s53_45, s53_46, s53_47, s53_50, s53_51, s53_54, s53_57, s53_60, s53_63, or_true, true_or, true_and, and_true, mm_o_some, mm_o_none, mm_bk_v, mm_bk_n, Nat.reduceAdd, nI_1]
    have F' : zFr (fun x => 76 + 8 * L < x ∧ x < 84 + 8 * L) h h' := F.mono (fun a ha => by omega)
    refine ih (i + 1) h' (by omega) (by omega) (zFr.sk hK F) (hR.fr F (fun x x1 x2 => by omega)) (hE.fr F (by omega) (by omega)) (fun k k1 k2 => ?_) (fun h'' F2 G2 => H h'' (F'.trans F2) G2)
    by_cases e : k = i
    · rw [e]; exact G
    · exact (hF k k1 (by omega)).fr F (by omega)
theorem c53z (hL8 : L < 8) (hO : ∀ i, i < L → zOk (R i)) (hl : ∀ i, i < l.length → zr (l.getD i 0)) (hl1 : 1 ≤ l.length) (hK : zSK h) (hR : zRw h 22 L R) (hE : zEd h 53 L l) (hW : ∀ k, k < 3 → mm_i h 2 k = zI (W k)) (v2 : Value) (H : ∀ h', zFr (fun x => 76 + 8 * L ≤ x ∧ x < 84 + 8 * L) h h' → zFl0 h' (76 + 8 * L) W → (∀ k, 1 ≤ k → k < l.length → zFlo h' (76 + (8 * L + k)) (l.getD k 0) R L) → Q (.inl none) h') : mm_wp (d + 3) 53 0 [.ref 21, .int (nI L), v2] [] h Q := by
  have hin : mm_in (nI (8 * L)) 64 = true := mm_inN (by omega) (by omega)
  have hcl : (nI (8 * L)).toNatClampNeg = 8 * L := nI_clamp (by omega)
  have sF := kS_floor hK (i := 8 * L) (by omega)
  simp only [s53_0, s53_1, s53_4, s53_5, s53_7, s53_8, s53_9, s53_10, s53_13, s53_16, s53_17, s53_19, s53_20, s53_23, s53_24, s53_27, s53_30, s53_31, s53_34, s53_35, s53_37, s53_38, s53_39, s53_40, s53_41, s53_42, s53_45, s53_46, s53_47, s53_50, s53_51, s53_54, s53_57, s53_60, s53_63, or_true, true_or, true_and, and_true, mm_o_some, mm_o_none, mm_bk_v, mm_bk_n, Nat.reduceAdd, kS21 hK, kR21_7 hK, kR21_0 hK, kS75 hK, nI_8, hin, hcl, kR_floors hK (i := 8 * L) (by omega), sF, Nat.reduceLeDiff]
  refine c54z (by rw [sF]) (by rw [kS2 hK]) (by omega) hW (fun h' F G => ?_)
  simp only [s53_0, s53_1, s53_4, s53_5, s53_7, s53_8, s53_9, s53_10, s53_13, s53_16, s53_17, s53_19, s53_20, s53_23, s53_24, s53_27, s53_30, s53_31, s53_34, s53_35, s53_37, s53_38, s53_39, s53_40, s53_41, s53_42, s53_45, s53_46, s53_47, s53_50, s53_51, s53_54, s53_57, s53_60, s53_63, or_true, true_or, true_and, and_true, mm_o_some, mm_o_none, mm_bk_v, mm_bk_n, Nat.reduceAdd]
  rw [← nI_lit1]
  have F' : zFr (fun x => 76 + 8 * L ≤ x ∧ x < 84 + 8 * L) h h' := F.mono (fun a ha => by omega)
  refine c53_loop hL8 hO hl (l.length - 1) 1 h' (by omega) (by omega) (zFr.sk hK F) (hR.fr F (fun x x1 x2 => by omega)) (hE.fr F (by omega) (by omega)) (fun k k1 k2 => by omega) (fun h'' F2 G2 => H h'' (F'.trans (F2.mono (fun a ha => by omega))) ?_ G2)
  simp only [zFl0, F2.i (show ¬ (76 + 8 * L < 76 + 8 * L ∧ 76 + 8 * L < 84 + 8 * L) by omega)]
  exact G
end
