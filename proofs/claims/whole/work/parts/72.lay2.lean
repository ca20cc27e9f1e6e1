/-! A FLOOR IS LAID: over a row, over the box -/
section
variable {d : Nat} {h h' : mm_H} {Q : mm_Q} {a b r L n : Nat} {R : zR} {y : Int} {W : Nat → Int}
theorem c57z (hO : ∀ i, i < L → zOk (R i)) (hy : zr y) (hra : r + 10 ≤ a) (ha : (mm_s h a).1 = 4) (hR : zRw h r L R) (v3 : Value) (H : ∀ h', zFr (fun x => x = a) h h' → zFlo h' a y R L → Q (.inl none) h') : mm_wp (d + 2) 57 0 [.ref a, .int (zI y), .ref r, v3] [] h Q := by
  have T : (fun x => x = a) a := rfl
  have F : zFr (fun x => x = a) h (mm_pi (mm_pi h a 0 (zI y)) a 1 0) := zFr.trans (zFr.pi T) (zFr.pi T)
  have lp := c57_loop (d := d) (Q := Q) hR.2.1 hO hy hra L 0 (mm_pi (mm_pi h a 0 (zI y)) a 1 0) (by omega) ha (hR.fr F (fun x x1 x2 => by omega)) ⟨by simp [mm_i_pi], by simp [mm_i_pi, zFa, zSum, zI], fun ⟨i, hi, _⟩ => by omega⟩ (fun h' F2 G => H h' (F.trans F2) G)
  rw [nI_0] at lp
  simp only [s57_0, s57_1, s57_2, s57_5, s57_6, s57_7, s57_10, s57_11, or_true, true_or, true_and, and_true, mm_o_some, mm_o_none, mm_bk_v, mm_bk_n, Nat.reduceAdd, mm_s_pi, ha]
  exact lp
/-- the box's floor -/
def zFl0 (h : mm_H) (a : Nat) (W : Nat → Int) : Prop := mm_i h a 0 = zI 0 ∧ mm_i h a 1 = zI (W 0 * W 2) ∧ mm_i h a 2 = zI 0 ∧ mm_i h a 3 = zI (W 0) ∧ mm_i h a 4 = zI 0 ∧ mm_i h a 5 = zI (W 2)
theorem c54z (ha : (mm_s h a).1 = 4) (hb : (mm_s h b).1 = 1) (hab : ¬ b = a) (hW : ∀ k, k < 3 → mm_i h b k = zI (W k)) (H : ∀ h', zFr (fun x => x = a) h h' → zFl0 h' a W → Q (.inl none) h') : mm_wp d 54 0 [.ref a, .ref b] [] h Q := by
  have w0 := hW 0 (by decide)
  have w2 := hW 2 (by decide)
  have T : (fun x => x = a) a := rfl
  simp only [s54_0, s54_1, s54_2, s54_5, s54_6, s54_6o, s54_6n, s54_7, s54_10, s54_10o, s54_10n, s54_11, s54_14, s54_15, s54_18, s54_19, s54_20, s54_23, s54_24, s54_24o, s54_24n, s54_25, s54_28, s54_31, s54_32, s54_33, s54_36, s54_37, s54_37o, s54_37n, s54_38, s54_41, s54_44, or_true, true_or, true_and, and_true, mm_o_some, mm_o_none, mm_bk_v, mm_bk_n, Nat.reduceAdd, mm_s_pi, ha, hb, mm_i_pi, hab, false_and, if_false, w0, w2, zI_mul]
  refine H _ ?_ ⟨?_, ?_, ?_, ?_, ?_, ?_⟩
  · exact zFr.trans (zFr.trans (zFr.trans (zFr.trans (zFr.trans (zFr.pi T) (zFr.pi T)) (zFr.pi T)) (zFr.pi T)) (zFr.pi T)) (zFr.pi T)
  all_goals simp [mm_i_pi, zI]
end
