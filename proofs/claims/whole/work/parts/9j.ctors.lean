/-! MAKING THE CLASS -/
section
variable {d : Nat} {h h' h0 : mm_H} {Q : mm_Q} {N z a b k r e i : Nat} {S S' T T' : Nat → Nat → Prop} {w0 w1 w2 : Int32}
theorem kV_0 (h1 : ¬ (a = 2 ∨ a = 143)) (h2 : ¬ (a = 21 ∧ k = 9)) (h3 : ¬ (24 ≤ a ∧ a < 32 ∧ k = 0)) (h4 : ¬ (34 ≤ a ∧ a < 42 ∧ k = 0)) (h5 : ¬ ((a = 52 ∨ a = 63 ∨ a = 74) ∧ k = 0)) : kV w0 w1 w2 a k = 0 := by
  rw [kV, if_neg h1, if_neg h2, if_neg h3, if_neg h4, if_neg h5]
theorem kR_w (e : ¬ kR a k = none) : ∃ b, kRP a k b = true := by
  cases q : kR a k with
  | none => exact absurd q e
  | some b => exact ⟨b, kR_p q⟩
theorem kRP_iff : (kRP a k b = true) ↔ ((a = 1 ∧ (k = 0 ∧ b = 2 ∨ k = 1 ∧ b = 3 ∨ k = 2 ∧ b = 21 ∨ k = 3 ∧ b = 140)) ∨ (a = 3 ∧ k = 0 ∧ b = 4) ∨ (a = 4 ∧ k < 8 ∧ b = 5 + 2 * k) ∨ (5 ≤ a ∧ a < 21 ∧ a % 2 = 1 ∧ (k = 0 ∧ b = 2 ∨ k = 1 ∧ b = a + 1))) ∨ (a = 21 ∧ (k = 0 ∧ b = 2 ∨ k = 1 ∧ b = 3 ∨ k = 2 ∧ b = 22 ∨ k = 3 ∧ b = 32 ∨ k = 4 ∧ b = 42 ∨ k = 5 ∧ b = 53 ∨ k = 6 ∧ b = 64 ∨ k = 7 ∧ b = 75)) ∨ (((a = 22 ∨ a = 32) ∧ k = 0 ∧ b = a + 1) ∨ ((a = 23 ∨ a = 33) ∧ k < 8 ∧ b = a + 1 + k) ∨ ((a = 42 ∨ a = 53 ∨ a = 64) ∧ (k = 0 ∧ b = a + 1 ∨ k = 1 ∧ b = a + 10)) ∨ ((a = 43 ∨ a = 54 ∨ a = 65) ∧ k < 8 ∧ b = a + 1 + k)) ∨ ((a = 75 ∧ k < 64 ∧ b = 76 + k) ∨ (a = 140 ∧ k = 0 ∧ b = 141) ∨ (a = 142 ∧ 143 ≤ b ∧ b < 167)) := by
  simp only [kRP, kRP1, kRP2, kRP3, kRP4, Bool.or_eq_true, decide_eq_true_eq]
theorem c2z {x : Int32} : mm_wp (d + 1) 2 0 [.int x] [] h Q ↔ Q (.inl (some (.int (zI (max 1 (min 200 x.toInt)))))) h := by
  have r1 : zr 200 := by simp only [zr]; omega
  have r2 : zr 1 := by simp only [zr]; omega
  have rx := zr_x x
  have rm : zr (min 200 x.toInt) := by simp only [zr] at *; omega
  have e1 : (if x < (200 : Int32) then x else 200) = zI (min 200 x.toInt) := by
    have := zI_min r1 rx
    rw [zI_x] at this
    exact this
  have e2 : (if (1 : Int32) < zI (min 200 x.toInt) then zI (min 200 x.toInt) else 1) = zI (max 1 (min 200 x.toInt)) := zI_max r2 rm
  simp only [s2_0, s2_1, s2_4, s2_5, s2_8, s2_11, or_true, true_or, true_and, and_true, mm_o_some, mm_o_none, mm_bk_v, mm_bk_n, Nat.reduceAdd, c3, c4, e1, e2]
theorem c109z {x : Int32} : mm_wp d 109 0 [.int x] [] h Q ↔ Q (.inl (some (.int (zI (max 1 (min 200 x.toInt)))))) h := by
  have i1 : (1 : Int32) ≤ x ↔ 1 ≤ x.toInt := Int32.le_iff_toInt_le
  have i2 : x ≤ (200 : Int32) ↔ x.toInt ≤ 200 := Int32.le_iff_toInt_le
  simp only [s109_0, s109_1, s109_2, s109_5, s109_6, s109_9, s109_10, s109_13, s109_16, s109_19, s109_22, s109_23, or_true, true_or, true_and, and_true, mm_o_some, mm_o_none, mm_bk_v, mm_bk_n, Nat.reduceAdd, i1, i2]
  by_cases g1 : 1 ≤ x.toInt
  · rw [if_pos g1]
    by_cases g2 : x.toInt ≤ 200
    · rw [if_pos g2, show max 1 (min 200 x.toInt) = x.toInt by omega, zI_x]
    · rw [if_neg g2, show max 1 (min 200 x.toInt) = 200 by omega]; exact Iff.rfl
  · rw [if_neg g1, show max 1 (min 200 x.toInt) = 1 by omega]; exact Iff.rfl
theorem c5z {x x2 x3 : Int32} (hs : (mm_s h a).1 = 1) : mm_wp d 5 0 [.ref a, .int x, .int x2, .int x3] [] h Q ↔ Q (.inl none) (mm_pi (mm_pi (mm_pi h a 0 x) a 1 x2) a 2 x3) := by
  simp only [s5_0, s5_1, s5_4, s5_5, s5_6, s5_9, s5_10, s5_11, s5_14, s5_15, s5_16, s5_19, or_true, true_or, true_and, and_true, mm_o_some, mm_o_none, mm_bk_v, mm_bk_n, Nat.reduceAdd, mm_s_pi, hs]
theorem c7z (hN : mm_n h = a + 1) (hs : (mm_s h a).1 = 5) : mm_wp d 7 0 [.ref a, .ref b] [] h Q ↔ Q (.inl none) (mm_pr (mm_pr (mm_nw h 22 6 6) a 1 (some (a + 1))) a 0 (some b)) := by
  have e1 : (mm_s (mm_nw h 22 6 6) a).1 = 5 := by rw [mm_s_nw, if_neg (by omega)]; exact hs
  have l1 : (0 : Int32) ≤ 6 ∧ (6 : Int32) ≤ 1000 := by decide
  simp only [s7_0, s7_1, s7_4, s7_5, s7_7, s7_9, s7_12, s7_13, s7_13o, s7_13n, s7_14, s7_17, or_true, true_or, true_and, and_true, mm_o_some, mm_o_none, mm_bk_v, mm_bk_n, Nat.reduceAdd, l1, show (6 : Int32).toNatClampNeg = 6 from rfl, hN, mm_s_pr, e1]
theorem c6_loop : ∀ m i h z, i + m = 8 → zBI w0 w1 w2 h0 h (5 + 2 * i) z (fun a k => S a k ∨ (a = 4 ∧ i ≤ k ∧ k < 8)) T → (∀ a k, 3 ≤ a → ¬ S a k) → (∀ h', zBI w0 w1 w2 h0 h' 21 (z + 16 * m) S T → Q (.inl none) h') → mm_wp (d + 1) 6 15 [.ref 3, .ref 2, .int (nI i)] [] h Q := by
  intro m
  induction m with
  | zero =>
    intro i h z hi H h3 K
    obtain rfl : i = 8 := by omega
    rw [s6_15]
    simp only [s6_16, s6_18, s6_21, s6_22, s6_25, s6_26, s6_29, s6_30, s6_30o, s6_30n, s6_31, s6_34, s6_35, s6_38, s6_41, or_true, true_or, true_and, and_true, mm_o_some, mm_o_none, mm_bk_v, mm_bk_n, Nat.reduceAdd, if_pos (show (8 : Int32) ≤ nI 8 by decide)]
    exact K h (H.mono (fun a k ha q => q.resolve_right (fun p => by omega)) (fun _ _ _ q => q))
  | succ m ih =>
    intro i h z hi H h3 K
    have hi8 : i < 8 := by omega
    have c : ¬ (8 : Int32) ≤ nI i := nI_ge (b := 8) hi8 (by omega)
    have hin : mm_in (nI i) 8 = true := mm_inN (by omega) (by omega)
    have hcl : (nI i).toNatClampNeg = i := nI_clamp (by omega)
    have s3 : mm_s h 3 = (2, 2) := H.s (by omega) (by omega)
    have r3 : mm_r h 3 0 = some 4 := H.re (by omega) (by omega) rfl (by intro q; rcases q with q | q; exact h3 3 0 (by omega) q; omega)
    have k1 : kS (5 + 2 * i) = (5, 10) := (show ∀ i, i < 8 → kS (5 + 2 * i) = (5, 10) by decide) i hi8
    have k2 : kS (6 + 2 * i) = (22, 6) := (show ∀ i, i < 8 → kS (6 + 2 * i) = (22, 6) by decide) i hi8
    have H1 := H.nw (sl := 10) k1
    have n1 : mm_n (mm_nw h 5 10 10) = 5 + 2 * i + 1 := H1.1
    have s1 : (mm_s (mm_nw h 5 10 10) (5 + 2 * i)).1 = 5 := by rw [H1.s (by omega) (by omega), k1]
    rw [s6_15]
    simp only [s6_16, s6_18, s6_21, s6_22, s6_25, s6_26, s6_29, s6_30, s6_30o, s6_30n, s6_31, s6_34, s6_35, s6_38, s6_41, or_true, true_or, true_and, and_true, mm_o_some, mm_o_none, mm_bk_v, mm_bk_n, Nat.reduceAdd, if_neg c, s3, r3, H.1, c7z n1 s1]
    have H2 := H1.nw0 (sl := 6) (kd := 22) (len := 6) (by rw [show 5 + 2 * i + 1 = 6 + 2 * i by omega]; exact k2) (fun k => by rw [show 5 + 2 * i + 1 = 6 + 2 * i by omega]; exact kR_no (fun b => by simp only [kRP, kRP1, kRP2, kRP3, kRP4, Bool.or_eq_false_iff, decide_eq_false_iff_not]; omega)) (fun k => kV_0 (by omega) (by omega) (by omega) (by omega) (by omega))
    rw [show 5 + 2 * i + 1 + 1 = 7 + 2 * i by omega, show z + 10 + 6 = z + 16 by omega] at H2
    have q1 : kR (5 + 2 * i) 1 = some (5 + 2 * i + 1) := (show ∀ i, i < 8 → kR (5 + 2 * i) 1 = some (5 + 2 * i + 1) by decide) i hi8
    have q0 : kR (5 + 2 * i) 0 = some 2 := (show ∀ i, i < 8 → kR (5 + 2 * i) 0 = some 2 by decide) i hi8
    have H3 := (H2.pr (by omega) q1).pr (by omega) q0
    have H4 : zBI w0 w1 w2 h0 (mm_pr (mm_pr (mm_nw (mm_nw h 5 10 10) 22 6 6) (5 + 2 * i) 1 (some (5 + 2 * i + 1))) (5 + 2 * i) 0 (some 2)) (7 + 2 * i) (z + 16) (fun a k => S a k ∨ (a = 4 ∧ i ≤ k ∧ k < 8)) T := H3.mono (fun a k ha q => by
      rcases q.1.1 with p | ⟨p, e⟩
      · exact p
      · subst p
        obtain ⟨b, e⟩ := kR_w e
        rw [kRP_iff] at e
        have := q.1.2
        have := q.2
        omega) (fun a k ha q => by
      rcases q with p | ⟨p, e⟩
      · exact p
      · exact absurd (kV_0 (by omega) (by omega) (by omega) (by omega) (by omega)) e)
    have s4 : mm_s (mm_pr (mm_pr (mm_nw (mm_nw h 5 10 10) 22 6 6) (5 + 2 * i) 1 (some (5 + 2 * i + 1))) (5 + 2 * i) 0 (some 2)) 4 = (23, 8) := H4.s (by omega) (by omega)
    have s5 : mm_s (mm_pr (mm_pr (mm_nw (mm_nw h 5 10 10) 22 6 6) (5 + 2 * i) 1 (some (5 + 2 * i + 1))) (5 + 2 * i) 0 (some 2)) (5 + 2 * i) = (5, 10) := by rw [H4.s (by omega) (by omega), k1]
    have q4 : kR 4 i = some (5 + 2 * i) := (show ∀ i, i < 8 → kR 4 i = some (5 + 2 * i) by decide) i hi8
    have H5 := H4.pr (a := 4) (by omega) q4
    simp only [s6_16, s6_18, s6_21, s6_22, s6_25, s6_26, s6_29, s6_30, s6_30o, s6_30n, s6_31, s6_34, s6_35, s6_38, s6_41, or_true, true_or, true_and, and_true, mm_o_some, mm_o_none, mm_bk_v, mm_bk_n, Nat.reduceAdd, s4, s5, hin, hcl, nI_1]
    generalize mm_pr (mm_pr (mm_nw (mm_nw h 5 10 10) 22 6 6) (5 + 2 * i) 1 (some (5 + 2 * i + 1))) (5 + 2 * i) 0 (some 2) = g at *
    refine ih (i + 1) _ (z + 16) (by omega) (by
      rw [show 5 + 2 * (i + 1) = 7 + 2 * i by omega]
      refine H5.mono (fun a k ha q => ?_) (fun _ _ _ q => q)
      rcases q.1 with p | p
      · exact Or.inl p
      · have := q.2
        exact Or.inr (by omega)) h3 (fun h' H' => K h' (by
      rw [show z + 16 * (m + 1) = z + 16 + 16 * m by omega]
      exact H'))
theorem c6z (H : zBI w0 w1 w2 h0 h 4 z (fun a k => S a k ∨ (a = 3 ∧ k = 0)) T) (h3 : ∀ a k, 3 ≤ a → ¬ S a k) (v2 : Value) (K : ∀ h', zBI w0 w1 w2 h0 h' 21 (z + 136) S T → Q (.inl none) h') : mm_wp (d + 1) 6 0 [.ref 3, .ref 2, v2] [] h Q := by
  have l1 : (0 : Int32) ≤ 8 ∧ (8 : Int32) ≤ 1000 := by decide
  have H1 := H.nw (sl := 8) (kd := 23) (len := 8) rfl
  have s3 : mm_s (mm_nw h 23 8 8) 3 = (2, 2) := H1.s (by omega) (by omega)
  have H2 := H1.pr (a := 3) (k := 0) (b := 4) (by omega) rfl
  simp only [s6_0, s6_1, s6_4, s6_5, s6_7, s6_10, s6_13, s6_14, or_true, true_or, true_and, and_true, mm_o_some, mm_o_none, mm_bk_v, mm_bk_n, Nat.reduceAdd, l1, show (8 : Int32).toNatClampNeg = 8 from rfl, s3, H.1]
  rw [← nI_lit0]
  refine c6_loop 8 0 _ (z + 8) (by omega) (H2.mono (fun a k ha q => ?_) (fun a k ha q => ?_)) h3 (fun h' H' => K h' (by
    rw [show z + 136 = z + 8 + 16 * 8 by omega]; exact H'))
  · rcases q.1 with p | ⟨p, e⟩
    · rcases p with p | p
      · exact Or.inl p
      · exact absurd p q.2
    · subst p
      obtain ⟨b, e⟩ := kR_w e
      rw [kRP_iff] at e
      exact Or.inr (by omega)
  · rcases q with p | ⟨p, e⟩
    · exact p
    · subst p
      exact absurd (kV_0 (by omega) (by omega) (by omega) (by omega) (by omega)) e
theorem c10z {x : Int32} (hs : (mm_s h a).1 = 6) : mm_wp d 10 0 [.ref a, .int x] [] h Q ↔ Q (.inl none) (mm_pi h a 0 x) := by
  simp only [s10_0, s10_1, s10_4, s10_5, s10_6, s10_9, or_true, true_or, true_and, and_true, mm_o_some, mm_o_none, mm_bk_v, mm_bk_n, Nat.reduceAdd, hs]
theorem kS_row (hr : r = 22 ∨ r = 32) : kS r = (7, 4) ∧ kS (r + 1) = (24, 8) ∧ (∀ i, i < 8 → kS (r + 2 + i) = (6, 16)) ∧ kR r 0 = some (r + 1) ∧ (∀ i, i < 8 → kR (r + 1) i = some (r + 2 + i)) ∧ ∀ i, i < 8 → kV w0 w1 w2 (r + 2 + i) 0 = nI i := by
  rcases hr with rfl | rfl
  · refine ⟨rfl, rfl, by decide, rfl, by decide, fun i hi => ?_⟩
    rw [kV, if_neg (by omega), if_neg (by omega), if_pos (by omega), show 22 + 2 + i - 24 = i by omega]
  · refine ⟨rfl, rfl, by decide, rfl, by decide, fun i hi => ?_⟩
    rw [kV, if_neg (by omega), if_neg (by omega), if_neg (by omega), if_pos (by omega), show 32 + 2 + i - 34 = i by omega]
theorem c9_loop (hr : r = 22 ∨ r = 32) : ∀ m i h z, i + m = 8 → zBI w0 w1 w2 h0 h (r + 2 + i) z (fun a k => S a k ∨ (a = r + 1 ∧ i ≤ k ∧ k < 8)) T → (∀ a k, r ≤ a → ¬ S a k) → (∀ a k, r ≤ a → ¬ T a k) → (∀ h', zBI w0 w1 w2 h0 h' (r + 10) (z + 16 * m) S T → Q (.inl none) h') → mm_wp (d + 1) 9 15 [.ref r, .int (nI i)] [] h Q := by
  obtain ⟨kr, kr1, kri, kR0, kRi, kVi⟩ := kS_row (w0 := w0) (w1 := w1) (w2 := w2) hr
  intro m
  induction m with
  | zero =>
    intro i h z hi H h3 hT K
    obtain rfl : i = 8 := by omega
    rw [s9_15]
    simp only [s9_16, s9_18, s9_21, s9_22, s9_25, s9_26, s9_29, s9_30, s9_31, s9_34, s9_35, s9_38, s9_41, or_true, true_or, true_and, and_true, mm_o_some, mm_o_none, mm_bk_v, mm_bk_n, Nat.reduceAdd, if_pos (show (8 : Int32) ≤ nI 8 by decide)]
    exact K h (H.mono (fun a k ha q => q.resolve_right (fun p => by omega)) (fun _ _ _ q => q))
  | succ m ih =>
    intro i h z hi H h3 hT K
    have hi8 : i < 8 := by omega
    have c : ¬ (8 : Int32) ≤ nI i := nI_ge (b := 8) hi8 (by omega)
    have hin : mm_in (nI i) 8 = true := mm_inN (by omega) (by omega)
    have hcl : (nI i).toNatClampNeg = i := nI_clamp (by omega)
    have s3 : mm_s h r = (7, 4) := by rw [H.s (by omega) (by omega), kr]
    have r3 : mm_r h r 0 = some (r + 1) := H.re (by omega) (by omega) kR0 (by intro q; rcases q with q | q; exact h3 r 0 (by omega) q; omega)
    have H1 := H.nw (sl := 16) (kri i hi8)
    have s1 : (mm_s (mm_nw h 6 16 16) (r + 2 + i)).1 = 6 := by rw [H1.s (by omega) (by omega), kri i hi8]
    have H2 := H1.pi (a := r + 2 + i) (k := 0) (by omega) (kVi i hi8)
    have H3 : zBI w0 w1 w2 h0 (mm_pi (mm_nw h 6 16 16) (r + 2 + i) 0 (nI i)) (r + 2 + i + 1) (z + 16) (fun a k => S a k ∨ (a = r + 1 ∧ i ≤ k ∧ k < 8)) T := H2.mono (fun a k ha q => by
      rcases q with p | ⟨p, e⟩
      · exact p
      · subst p
        obtain ⟨b, e⟩ := kR_w e
        rw [kRP_iff] at e
        omega) (fun a k ha q => by
      rcases q.1 with p | ⟨p, e⟩
      · exact p
      · subst p
        have := q.2
        exact absurd (kV_0 (by omega) (by omega) (by omega) (by omega) (by omega)) e)
    rw [s9_15]
    simp only [s9_16, s9_18, s9_21, s9_22, s9_25, s9_26, s9_29, s9_30, s9_31, s9_34, s9_35, s9_38, s9_41, or_true, true_or, true_and, and_true, mm_o_some, mm_o_none, mm_bk_v, mm_bk_n, Nat.reduceAdd, if_neg c, s3, r3, H.1, c10z s1]
    have s4 : mm_s (mm_pi (mm_nw h 6 16 16) (r + 2 + i) 0 (nI i)) (r + 1) = (24, 8) := by rw [H3.s (by omega) (by omega), kr1]
    have s5 : mm_s (mm_pi (mm_nw h 6 16 16) (r + 2 + i) 0 (nI i)) (r + 2 + i) = (6, 16) := by rw [H3.s (by omega) (by omega), kri i hi8]
    have H5 := H3.pr (a := r + 1) (by omega) (kRi i hi8)
    simp only [s9_16, s9_18, s9_21, s9_22, s9_25, s9_26, s9_29, s9_30, s9_31, s9_34, s9_35, s9_38, s9_41, or_true, true_or, true_and, and_true, mm_o_some, mm_o_none, mm_bk_v, mm_bk_n, Nat.reduceAdd, s4, s5, hin, hcl, nI_1, or_false, false_or, Nat.reduceEqDiff, false_and, and_self]
    generalize mm_pi (mm_nw h 6 16 16) (r + 2 + i) 0 (nI i) = g at *
    refine ih (i + 1) _ (z + 16) (by omega) (by
      rw [show r + 2 + (i + 1) = r + 2 + i + 1 by omega]
      refine H5.mono (fun a k ha q => ?_) (fun _ _ _ q => q)
      rcases q.1 with p | p
      · exact Or.inl p
      · have := q.2
        exact Or.inr (by omega)) h3 hT (fun h' H' => K h' (by
      rw [show z + 16 * (m + 1) = z + 16 + 16 * m by omega]
      exact H'))
theorem c9z (hr : r = 22 ∨ r = 32) (H : zBI w0 w1 w2 h0 h (r + 1) z (fun a k => S a k ∨ (a = r ∧ k = 0)) T) (h3 : ∀ a k, r ≤ a → ¬ S a k) (hT : ∀ a k, r ≤ a → ¬ T a k) (v1 : Value) (K : ∀ h', zBI w0 w1 w2 h0 h' (r + 10) (z + 136) S T → Q (.inl none) h') : mm_wp (d + 1) 9 0 [.ref r, v1] [] h Q := by
  obtain ⟨kr, kr1, kri, kR0, kRi, kVi⟩ := kS_row (w0 := w0) (w1 := w1) (w2 := w2) hr
  have l1 : (0 : Int32) ≤ 8 ∧ (8 : Int32) ≤ 1000 := by decide
  have H1 := H.nw (sl := 8) kr1
  have s3 : mm_s (mm_nw h 24 8 8) r = (7, 4) := by rw [H1.s (by omega) (by omega), kr]
  have H2 := H1.pr (a := r) (k := 0) (by omega) kR0
  simp only [s9_0, s9_1, s9_4, s9_5, s9_7, s9_10, s9_13, s9_14, or_true, true_or, true_and, and_true, mm_o_some, mm_o_none, mm_bk_v, mm_bk_n, Nat.reduceAdd, l1, show (8 : Int32).toNatClampNeg = 8 from rfl, s3, H.1]
  rw [← nI_lit0]
  refine c9_loop hr 8 0 _ (z + 8) (by omega) (H2.mono (fun a k ha q => ?_) (fun a k ha q => ?_)) h3 hT (fun h' H' => K h' (by
    rw [show z + 136 = z + 8 + 16 * 8 by omega]; exact H'))
  · rcases q.1 with p | ⟨p, e⟩
    · rcases p with p | p
      · exact Or.inl p
      · exact absurd p q.2
    · subst p
      obtain ⟨b, e⟩ := kR_w e
      rw [kRP_iff] at e
      exact Or.inr (by omega)
  · rcases q with p | ⟨p, e⟩
    · exact p
    · subst p
      exact absurd (kV_0 (by omega) (by omega) (by omega) (by omega) (by omega)) e
theorem c11z (he : e = 42 ∨ e = 53 ∨ e = 64) (H : zBI w0 w1 w2 h0 h (e + 1) z (fun a k => S a k ∨ (a = e ∧ k < 2)) T) (h3 : ∀ a k, e ≤ a → ¬ S a k) (hT : ∀ a k, e ≤ a → ¬ T a k) (K : ∀ h', zBI w0 w1 w2 h0 h' (e + 11) (z + 80) S T → Q (.inl none) h') : mm_wp d 11 0 [.ref e] [] h Q := by
  have l1 : (0 : Int32) ≤ 8 ∧ (8 : Int32) ≤ 1000 := by decide
  have l2 : (0 : Int32) ≤ 8 ∧ (8 : Int32) ≤ 1000 ∧ (0 : Int32) ≤ 8 ∧ (8 : Int32) ≤ 1000 := by decide
  have ke : kS e = (3, 2) ∧ kS (e + 1) = (26, 8) ∧ (∀ i, i < 8 → kS (e + 1 + 1 + i) = (20, 8)) ∧ kS (e + 10) = (20, 8) ∧ kR e 0 = some (e + 1) ∧ kR e 1 = some (e + 10) := by
    rcases he with rfl | rfl | rfl
    · exact ⟨rfl, rfl, by decide, rfl, rfl, rfl⟩
    · exact ⟨rfl, rfl, by decide, rfl, rfl, rfl⟩
    · exact ⟨rfl, rfl, by decide, rfl, rfl, rfl⟩
  obtain ⟨k0, k1, k2, k3, q0, q1⟩ := ke
  have H1 := H.nw2 k1 k2 (fun k b q => by have := kR_p q; rw [kRP_iff] at this; omega) (fun i k hi => kR_no (fun b => by simp only [kRP, kRP1, kRP2, kRP3, kRP4, Bool.or_eq_false_iff, decide_eq_false_iff_not]; omega)) (fun i k hi => kV_0 (by omega) (by omega) (by omega) (by omega) (by omega))
  have H2 := H1.pr (a := e) (k := 0) (by omega) q0
  have H3 := H2.nw (sl := 8) (kd := 20) (len := 8) (by rw [show e + 1 + 9 = e + 10 by omega]; exact k3)
  have H4 := H3.pr (a := e) (k := 1) (b := e + 10) (by omega) q1
  have v1 : kV w0 w1 w2 (e + 10) 0 = 1 := by rw [kV, if_neg (by omega), if_neg (by omega), if_neg (by omega), if_neg (by omega), if_pos (by omega)]
  have H5 := H4.pi (a := e + 10) (k := 0) (by omega) v1
  have s1 : mm_s (mm_nw2 h 26 20 8 8) e = (3, 2) := by rw [H1.s (by omega) (by omega), k0]
  have n2 : mm_n (mm_pr (mm_nw2 h 26 20 8 8) e 0 (some (e + 1))) = e + 10 := by rw [H2.1]
  have s3 : mm_s (mm_nw (mm_pr (mm_nw2 h 26 20 8 8) e 0 (some (e + 1))) 20 8 8) e = (3, 2) := by rw [H3.s (by omega) (by omega), k0]
  have s4 : mm_s (mm_nw (mm_pr (mm_nw2 h 26 20 8 8) e 0 (some (e + 1))) 20 8 8) (e + 10) = (20, 8) := by rw [H3.s (by omega) (by omega), k3]
  have r4 : mm_r (mm_pr (mm_nw (mm_pr (mm_nw2 h 26 20 8 8) e 0 (some (e + 1))) 20 8 8) e 1 (some (e + 10))) e 1 = some (e + 10) := by rw [mm_r_pr, if_pos ⟨rfl, rfl⟩]
  have ne : ¬ e + 10 = 0 := by omega
  simp only [s11_0, s11_1, s11_4, s11_5, s11_7, s11_9, s11_13, s11_16, s11_17, s11_19, s11_21, s11_24, s11_25, s11_28, s11_29, s11_30, s11_31, or_true, true_or, true_and, and_true, mm_o_some, mm_o_none, mm_bk_v, mm_bk_n, Nat.reduceAdd, l1, l2, show (8 : Int32).toNatClampNeg = 8 from rfl, H.1, s1, n2, s3, mm_s_pr, r4, s4, ne, not_false_eq_true, show mm_in 0 8 = true from rfl, cl_0]
  refine K _ ?_
  rw [show e + 1 + 9 + 1 = e + 11 by omega, show z + 72 + 8 = z + 80 by omega] at H5
  refine H5.mono (fun a k ha q => ?_) (fun a k ha q => ?_)
  · rcases q.1 with p | ⟨p, e'⟩
    · rcases p.1 with p2 | p2
      · exact p2
      · have := p.2
        have := q.2
        omega
    · obtain ⟨b, e'⟩ := kR_w e'
      rw [kRP_iff] at e'
      omega
  · rcases q.1 with p | ⟨p, e'⟩
    · exact p
    · have := q.2
      exact absurd (kV_0 (by omega) (by omega) (by omega) (by omega) (by omega)) e'
theorem c12z : mm_wp d 12 0 [.ref a] [] h Q ↔ Q (.inl none) h := by
  simp only [s12_0, s12_1, s12_4, or_true, true_or, true_and, and_true, mm_o_some, mm_o_none, mm_bk_v, mm_bk_n, Nat.reduceAdd]
theorem c8_loop : ∀ m i h z, i + m = 64 → zBI w0 w1 w2 h0 h (76 + i) z (fun a k => S a k ∨ (a = 75 ∧ i ≤ k ∧ k < 64)) T → (∀ a k, 21 ≤ a → ¬ S a k) → (∀ h', zBI w0 w1 w2 h0 h' 140 (z + 6 * m) S T → Q (.inl none) h') → ∀ v1 v2 : Value, mm_wp (d + 1) 8 85 [.ref 21, v1, v2, .int (nI i)] [] h Q := by
  intro m
  induction m with
  | zero =>
    intro i h z hi H h3 K v1 v2
    obtain rfl : i = 64 := by omega
    rw [s8_85]
    simp only [s8_86, s8_88, s8_91, s8_92, s8_95, s8_96, s8_99, s8_100, s8_103, s8_104, s8_107, s8_110, or_true, true_or, true_and, and_true, mm_o_some, mm_o_none, mm_bk_v, mm_bk_n, Nat.reduceAdd, if_pos (show (64 : Int32) ≤ nI 64 by decide)]
    exact K h (H.mono (fun a k ha q => q.resolve_right (fun p => by omega)) (fun _ _ _ q => q))
  | succ m ih =>
    intro i h z hi H h3 K v1 v2
    have hi8 : i < 64 := by omega
    have c : ¬ (64 : Int32) ≤ nI i := nI_ge (b := 64) hi8 (by omega)
    have hin : mm_in (nI i) 64 = true := mm_inN (by omega) (by omega)
    have hcl : (nI i).toNatClampNeg = i := nI_clamp (by omega)
    have k1 : kS (76 + i) = (4, 6) := (show ∀ i, i < 64 → kS (76 + i) = (4, 6) by decide) i hi8
    have s3 : mm_s h 21 = (8, 11) := H.s (by omega) (by omega)
    have r3 : mm_r h 21 7 = some 75 := H.re (by omega) (by omega) rfl (by intro q; rcases q with q | q; exact h3 21 7 (by omega) q; omega)
    have H1 := H.nw0 (sl := 6) k1 (fun k => kR_no (fun b => by simp only [kRP, kRP1, kRP2, kRP3, kRP4, Bool.or_eq_false_iff, decide_eq_false_iff_not]; omega)) (fun k => kV_0 (by omega) (by omega) (by omega) (by omega) (by omega))
    have s4 : mm_s (mm_nw h 4 6 6) 75 = (25, 64) := H1.s (by omega) (by omega)
    have s5 : mm_s (mm_nw h 4 6 6) (76 + i) = (4, 6) := by rw [H1.s (by omega) (by omega), k1]
    have q4 : kR 75 i = some (76 + i) := (show ∀ i, i < 64 → kR 75 i = some (76 + i) by decide) i hi8
    have H5 := H1.pr (a := 75) (by omega) q4
    rw [s8_85]
    simp only [s8_86, s8_88, s8_91, s8_92, s8_95, s8_96, s8_99, s8_100, s8_103, s8_104, s8_107, s8_110, or_true, true_or, true_and, and_true, mm_o_some, mm_o_none, mm_bk_v, mm_bk_n, Nat.reduceAdd, if_neg c, s3, r3, H.1, c12z, s4, s5, hin, hcl, nI_1]
    generalize mm_nw h 4 6 6 = g at *
    refine ih (i + 1) _ (z + 6) (by omega) (by
      rw [show 76 + (i + 1) = 76 + i + 1 by omega]
      refine H5.mono (fun a k ha q => ?_) (fun _ _ _ q => q)
      rcases q.1 with p | p
      · exact Or.inl p
      · have := q.2
        exact Or.inr (by omega)) h3 (fun h' H' => K h' (by
      rw [show z + 6 * (m + 1) = z + 6 + 6 * m by omega]
      exact H')) _ _
end
