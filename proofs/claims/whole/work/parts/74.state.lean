/-! WHAT A ROW KEEPS, AND THE STATE OF THE SEARCH -/
/-- pieces and box in their ranges -/
def zPok (p : Nat → Int) : Prop := (1 ≤ p 3 ∧ p 3 ≤ 200) ∧ (1 ≤ p 4 ∧ p 4 ≤ 200) ∧ (1 ≤ p 5 ∧ p 5 ≤ 200) ∧ (1 ≤ p 6 ∧ p 6 ≤ 10000) ∧ (0 ≤ p 7 ∧ p 7 ≤ 3) ∧ (0 ≤ p 8 ∧ p 8 ≤ 9) ∧ (0 ≤ p 9 ∧ p 9 ≤ 100000)
def zWok (W : Nat → Int) : Prop := (1 ≤ W 0 ∧ W 0 ≤ 200) ∧ (1 ≤ W 1 ∧ W 1 ≤ 200) ∧ 1 ≤ W 2 ∧ W 2 ≤ 200
/-- a row of the search: numbers in range (what a piece bears: at most 10000 for each piece above), in the box, none share room -/
def zInv (W : Nat → Int) (L : Nat) (R : zR) : Prop := L ≤ 8 ∧ (∀ i, i < L → zOk (R i) ∧ R i 15 ≤ 10000 * (L : Int) ∧ R i 6 ≤ W 0 ∧ R i 7 ≤ W 1 ∧ R i 8 ≤ W 2) ∧ ∀ i k, i < k → k < L → zSh (R k) (R i) = false
theorem zInv.ok {W : Nat → Int} {L : Nat} {R : zR} (H : zInv W L R) : ∀ i, i < L → zOk (R i) := fun i hi => (H.2.1 i hi).1
theorem zSh_no {a b : Nat → Int} (h : zSh a b = false) : ¬ ((a 3 < b 6 ∧ b 3 < a 6) ∧ (a 5 < b 8 ∧ b 5 < a 8) ∧ a 4 < b 7 ∧ b 4 < a 7) := by
  intro H
  simp only [zSh, decide_eq_false_iff_not] at h
  exact h H
theorem zInv.flat {W : Nat → Int} {L : Nat} {R : zR} (H : zInv W L R) (y : Int) : zFlat L R y := by
  intro i j hi hj yi yj hij hc
  have oi := H.ok i hi
  have oj := H.ok j hj
  simp only [zOk] at oi oj
  rcases Nat.lt_or_gt_of_ne hij with q | q
  · exact zSh_no (H.2.2 i j q hj) (by omega)
  · exact zSh_no (H.2.2 j i q hi) (by omega)
theorem zSh_push {L i : Nat} {R : zR} {C D : Nat → Int} (hi : i < L) : zSh D (zPush L R C i) = zSh D (R i) := by
  simp only [zSh, zPush, if_neg (show ¬ i = L by omega), Nat.reduceEqDiff, false_and, if_false]
theorem zSh_pushL {L i : Nat} {R : zR} {C D : Nat → Int} (hi : i < L) : zSh (zPush L R C i) D = zSh (R i) D := by
  simp only [zSh, zPush, if_neg (show ¬ i = L by omega), Nat.reduceEqDiff, false_and, if_false]
theorem zInv_push {W : Nat → Int} {L : Nat} {R : zR} {C : Nat → Int} (H : zInv W L R) (h8 : L < 8) (oC : zOk C) (c15 : C 15 = 0) (hB : zInB W C = true) (hA : zAdm L R C = true) : zInv W (L + 1) (zPush L R C) := by
  obtain ⟨h1, h2, h3⟩ := H
  simp only [zInB, decide_eq_true_eq] at hB
  simp only [zAdm, Bool.and_eq_true] at hA
  have hsh := (zAll_iff _ L).mp hA.2.2.1
  refine ⟨by omega, fun i hi => ?_, fun i k hik hk => ?_⟩
  · by_cases e : i = L
    · rw [e, zPush_L]
      exact ⟨oC, by omega, hB.1, hB.2.1, hB.2.2⟩
    · have hi' : i < L := by omega
      obtain ⟨g1, g2, g3⟩ := h2 i hi'
      have p15 := zPush_15 (R := R) (C := C) hi'
      have o := oC
      simp only [zOk] at o g1
      have b15 : 0 ≤ zPush L R C i 15 ∧ zPush L R C i 15 ≤ 10000 * ((L + 1 : Nat) : Int) := by
        rw [p15]
        split <;> omega
      refine ⟨?_, b15.2, ?_⟩
      · simp only [zOk, zPush_k (R := R) (C := C) (L := L) hi' (k := 1) (by decide), zPush_k (R := R) (C := C) (L := L) hi' (k := 2) (by decide), zPush_k (R := R) (C := C) (L := L) hi' (k := 3) (by decide), zPush_k (R := R) (C := C) (L := L) hi' (k := 4) (by decide), zPush_k (R := R) (C := C) (L := L) hi' (k := 5) (by decide), zPush_k (R := R) (C := C) (L := L) hi' (k := 6) (by decide), zPush_k (R := R) (C := C) (L := L) hi' (k := 7) (by decide), zPush_k (R := R) (C := C) (L := L) hi' (k := 8) (by decide), zPush_k (R := R) (C := C) (L := L) hi' (k := 9) (by decide), zPush_k (R := R) (C := C) (L := L) hi' (k := 10) (by decide), zPush_k (R := R) (C := C) (L := L) hi' (k := 11) (by decide), zPush_k (R := R) (C := C) (L := L) hi' (k := 12) (by decide), zPush_k (R := R) (C := C) (L := L) hi' (k := 13) (by decide), zPush_k (R := R) (C := C) (L := L) hi' (k := 14) (by decide)]
        omega
      · rw [zPush_k hi' (by decide), zPush_k hi' (by decide), zPush_k hi' (by decide)]
        exact g3
  · have hiL : i < L := by omega
    rw [zSh_push hiL]
    by_cases e : k = L
    · rw [e, zPush_L]
      have := hsh i hiL
      simpa using this
    · rw [zSh_pushL (by omega)]
      exact h3 i k hik (by omega)
