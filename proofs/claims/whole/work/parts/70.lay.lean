/-! A FLOOR IS LAID -/
def zFa (R : zR) (y : Int) (n : Nat) : Int := zSum (fun i => if R i 7 = y then R i 9 * R i 11 else 0) n
def zBd (R : zR) (y : Int) (n : Nat) (lf rt bk fr : Int) : Prop := (∀ i, i < n → R i 7 = y → lf ≤ R i 3 ∧ R i 6 ≤ rt ∧ bk ≤ R i 5 ∧ R i 8 ≤ fr) ∧ (∃ i, i < n ∧ R i 7 = y ∧ lf = R i 3) ∧ (∃ i, i < n ∧ R i 7 = y ∧ rt = R i 6) ∧ (∃ i, i < n ∧ R i 7 = y ∧ bk = R i 5) ∧ ∃ i, i < n ∧ R i 7 = y ∧ fr = R i 8
def zFlo (h : mm_H) (a : Nat) (y : Int) (R : zR) (n : Nat) : Prop := mm_i h a 0 = zI y ∧ mm_i h a 1 = zI (zFa R y n) ∧ ((∃ i, i < n ∧ R i 7 = y) → ∃ lf rt bk fr, mm_i h a 2 = zI lf ∧ mm_i h a 3 = zI rt ∧ mm_i h a 4 = zI bk ∧ mm_i h a 5 = zI fr ∧ zBd R y n lf rt bk fr)
theorem zFa_0 {R : zR} {y : Int} : ∀ n, (∀ i, i < n → ¬ R i 7 = y) → zFa R y n = 0 := by
  intro n hn
  rw [zFa, zSum_congr n (fun i hi => if_neg (hn i hi)), zSum_zero]
theorem zFa_b {R : zR} {y : Int} (n : Nat) (hO : ∀ i, i < n → zOk (R i)) : 0 ≤ zFa R y n ∧ zFa R y n ≤ n * 40000 := by
  refine zSum_b n (fun i hi => ?_)
  have o := hO i hi
  simp only [zOk] at o
  have := zMul_b (a := R i 9) (b := R i 11) (m := 200) (n := 200) (by omega) (by omega) (by omega) (by omega)
  split <;> omega
theorem zFa_p {R : zR} {y : Int} : ∀ n, (∀ i, i < n → zOk (R i)) → (∃ i, i < n ∧ R i 7 = y) → 0 < zFa R y n := by
  intro n
  induction n with
  | zero => rintro _ ⟨i, hi, _⟩; omega
  | succ n ih =>
    rintro hO ⟨i, hi, hy⟩
    have b := zFa_b (y := y) n (fun i hi => hO i (by omega))
    simp only [zFa, zSum] at b ih ⊢
    have o := hO n (by omega)
    simp only [zOk] at o
    have m : 0 < R n 9 * R n 11 := Int.mul_pos (by omega) (by omega)
    by_cases e : R n 7 = y
    · rw [if_pos e]; omega
    · rw [if_neg e]
      have : i ≠ n := fun H => e (H ▸ hy)
      have := ih (fun i hi => hO i (by omega)) ⟨i, by omega, hy⟩
      omega
theorem zBd_1 {R : zR} {y : Int} {n : Nat} (hn : ∀ i, i < n → ¬ R i 7 = y) (e : R n 7 = y) : zBd R y (n + 1) (R n 3) (R n 6) (R n 5) (R n 8) := by
  refine ⟨fun i hi hy => ?_, ⟨n, by omega, e, rfl⟩, ⟨n, by omega, e, rfl⟩, ⟨n, by omega, e, rfl⟩, ⟨n, by omega, e, rfl⟩⟩
  by_cases ei : i = n
  · subst ei; omega
  · exact absurd hy (hn i (by omega))
theorem zBd_k {R : zR} {y : Int} {n : Nat} {lf rt bk fr : Int} (hb : zBd R y n lf rt bk fr) (e : ¬ R n 7 = y) : zBd R y (n + 1) lf rt bk fr := by
  obtain ⟨h0, ⟨i1, a1, b1, c1⟩, ⟨i2, a2, b2, c2⟩, ⟨i3, a3, b3, c3⟩, ⟨i4, a4, b4, c4⟩⟩ := hb
  refine ⟨fun i hi hy => ?_, ⟨i1, by omega, b1, c1⟩, ⟨i2, by omega, b2, c2⟩, ⟨i3, by omega, b3, c3⟩, ⟨i4, by omega, b4, c4⟩⟩
  by_cases ei : i = n
  · subst ei; exact absurd hy e
  · exact h0 i (by omega) hy
theorem zBd_w {R : zR} {y : Int} {n : Nat} {lf rt bk fr : Int} (hb : zBd R y n lf rt bk fr) (e : R n 7 = y) : zBd R y (n + 1) (min lf (R n 3)) (max rt (R n 6)) (min bk (R n 5)) (max fr (R n 8)) := by
  obtain ⟨h0, ⟨i1, a1, b1, c1⟩, ⟨i2, a2, b2, c2⟩, ⟨i3, a3, b3, c3⟩, ⟨i4, a4, b4, c4⟩⟩ := hb
  refine ⟨fun i hi hy => ?_, ?_, ?_, ?_, ?_⟩
  · by_cases ei : i = n
    · subst ei; omega
    · have := h0 i (by omega) hy
      omega
  · by_cases q : lf ≤ R n 3
    · exact ⟨i1, by omega, b1, by omega⟩
    · exact ⟨n, by omega, e, by omega⟩
  · by_cases q : R n 6 ≤ rt
    · exact ⟨i2, by omega, b2, by omega⟩
    · exact ⟨n, by omega, e, by omega⟩
  · by_cases q : bk ≤ R n 5
    · exact ⟨i3, by omega, b3, by omega⟩
    · exact ⟨n, by omega, e, by omega⟩
  · by_cases q : R n 8 ≤ fr
    · exact ⟨i4, by omega, b4, by omega⟩
    · exact ⟨n, by omega, e, by omega⟩
