/-! THE FLOORS' TESTS TAKE NOTHING AWAY -/
theorem zRe_le {A C : Nat → Int} (oA : zOk A) (oC : zOk C) : zRe A C ≤ if C 7 = A 4 then C 9 * C 11 else 0 := by
  simp only [zRe]
  split
  · rename_i H
    rw [if_pos H.1.symm]
    have h1 : zLn (A 3) (A 6) (C 3) (C 6) ≤ C 9 := by simp only [zOk] at oC; simp only [zLn]; omega
    have h2 : zLn (A 5) (A 8) (C 5) (C 8) ≤ C 11 := by simp only [zOk] at oC; simp only [zLn]; omega
    exact Int.mul_le_mul h1 h2 (by omega) (by simp only [zOk] at oC; omega)
  · split
    · simp only [zOk] at oC
      exact Int.mul_nonneg (by omega) (by omega)
    · exact Int.le_refl _
def zLh (L : Nat) (R : zR) : Int := if L = 0 then 0 else R (L - 1) 4
def zLd (L : Nat) (R : zR) (y : Int) : Int := if 0 < L ∧ R (L - 1) 4 = y then R (L - 1) 5 else 0
theorem zAdm_past {L : Nat} {R : zR} {C : Nat → Int} (oC : zOk C) (hA : zAdm L R C = true) : zLh L R ≤ C 4 ∧ zLd L R (C 4) ≤ C 5 := by
  simp only [zAdm, Bool.and_eq_true, Bool.or_eq_true, decide_eq_true_eq] at hA
  simp only [zOk] at oC
  simp only [zLh, zLd]
  rcases hA.1 with e | e
  · rw [if_pos e, if_neg (by omega)]; omega
  · simp only [zPast, decide_eq_true_eq] at e
    constructor
    · split <;> omega
    · split <;> omega
theorem zPrune {W : Nat → Int} {L : Nat} {R : zR} {C : Nat → Int} {lf rt bk fr : Int} (H : zInv W L R) (oC : zOk C) (hy : ¬ C 4 = 0) (hb : zBd R (C 4) L lf rt bk fr) : ((zLh L R ≤ C 4 ∧ C 7 ≤ W 1 ∧ C 9 * C 11 ≤ zFa R (C 4) L) ∧ (max bk (zLd L R (C 4)) ≤ C 5 ∧ C 8 ≤ fr) ∧ lf ≤ C 3 ∧ C 6 ≤ rt) ∧ zAdm L R C = true ↔ (zInB W C && zAdm L R C) = true := by
  rw [Bool.and_eq_true]
  constructor
  · rintro ⟨⟨⟨a1, a2, a3⟩, ⟨a4, a5⟩, a6, a7⟩, hA⟩
    refine ⟨?_, hA⟩
    obtain ⟨_, _, ⟨i2, b2, _, c2⟩, _, ⟨i4, b4, _, c4⟩⟩ := hb
    have q2 := (H.2.1 i2 b2).2.2
    have q4 := (H.2.1 i4 b4).2.2
    simp only [zInB, decide_eq_true_eq]
    omega
  · rintro ⟨hB, hA⟩
    refine ⟨?_, hA⟩
    obtain ⟨p1, p2⟩ := zAdm_past oC hA
    simp only [zInB, decide_eq_true_eq] at hB
    have hA' := hA
    simp only [zAdm, Bool.and_eq_true, decide_eq_true_eq] at hA'
    have hs := hA'.2.1.resolve_left hy
    have fl := H.flat (C 4)
    have oC' := oC
    simp only [zOk] at oC'
    have hs2 : zSum (fun i => zRe C (R i)) L = (C 6 - C 3) * (C 8 - C 5) := by
      rw [hs, show C 6 - C 3 = C 9 by omega, show C 8 - C 5 = C 11 by omega]
    have ar : C 9 * C 11 ≤ zFa R (C 4) L := by
      rw [← hs, zFa]
      exact zSum_le L (fun i hi => zRe_le oC (H.ok i hi))
    have s3 : lf ≤ C 3 := zStand fl (by omega) (by omega) hs2 3 (by omega) lf (fun i hi hy => (hb.1 i hi hy).1)
    have s6 : C 6 ≤ rt := zStand fl (by omega) (by omega) hs2 6 (by omega) rt (fun i hi hy => (hb.1 i hi hy).2.1)
    have s5 : bk ≤ C 5 := zStand fl (by omega) (by omega) hs2 5 (by omega) bk (fun i hi hy => (hb.1 i hi hy).2.2.1)
    have s8 : C 8 ≤ fr := zStand fl (by omega) (by omega) hs2 8 (by omega) fr (fun i hi hy => (hb.1 i hi hy).2.2.2)
    exact ⟨⟨p1, hB.2.1, ar⟩, ⟨by omega, s8⟩, s3, s6⟩
/-- the same at the box's floor -/
theorem zPrune0 {W : Nat → Int} {L : Nat} {R : zR} {C : Nat → Int} (oC : zOk C) (hy : C 4 = 0) : ((zLh L R ≤ C 4 ∧ C 7 ≤ W 1 ∧ C 9 * C 11 ≤ W 0 * W 2) ∧ (max 0 (zLd L R (C 4)) ≤ C 5 ∧ C 8 ≤ W 2) ∧ 0 ≤ C 3 ∧ C 6 ≤ W 0) ∧ zAdm L R C = true ↔ (zInB W C && zAdm L R C) = true := by
  rw [Bool.and_eq_true]
  have oC' := oC
  simp only [zOk] at oC'
  constructor
  · rintro ⟨⟨⟨a1, a2, a3⟩, ⟨a4, a5⟩, a6, a7⟩, hA⟩
    refine ⟨?_, hA⟩
    simp only [zInB, decide_eq_true_eq]
    omega
  · rintro ⟨hB, hA⟩
    refine ⟨?_, hA⟩
    obtain ⟨p1, p2⟩ := zAdm_past oC hA
    simp only [zInB, decide_eq_true_eq] at hB
    have ar : C 9 * C 11 ≤ W 0 * W 2 := Int.mul_le_mul (by omega) (by omega) (by omega) (by omega)
    exact ⟨⟨p1, hB.2.1, ar⟩, ⟨by omega, hB.2.2⟩, by omega, hB.1⟩
