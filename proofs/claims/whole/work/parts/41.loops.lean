/-! LOOPS OVER A ROW -/
theorem mm_inN {n N : Nat} (h : n < N) (hN : N < 2 ^ 31) : mm_in (nI n) N = true := by
  rw [mm_inI, nI_toInt (by omega)]
  omega
section
variable {d : Nat} {h : mm_H} {Q : mm_Q} {a b c r sA L : Nat} {x x2 x3 : Int32} {p : Nat → Nat}
/-- a row at r: its array sA, its slots p 0 .. p 7, its length L -/
def rowAt (h : mm_H) (r sA L : Nat) (p : Nat → Nat) : Prop := (mm_s h r).1 = 7 ∧ mm_r h r 0 = some sA ∧ mm_s h sA = (24, 8) ∧ (∀ i, i < 8 → mm_r h sA i = some (p i) ∧ (mm_s h (p i)).1 = 6) ∧ mm_i h r 1 = nI L ∧ L ≤ 8
def fdR (h : mm_H) (p : Nat → Nat) (x : Int32) : Nat → Nat → Option Nat
  | _, 0 => none
  | i, n + 1 => if mm_i h (p i) 1 = x then some (p i) else fdR h p x (i + 1) n
theorem c59_loop (hR : rowAt h r sA L p) : ∀ n i, i + n = L → (mm_wp d 59 2 [.ref r, .int x, .int (nI i)] [] h Q ↔ Q (.inl (some (mm_o (fdR h p x i n)))) h) := by
  obtain ⟨h1, h2, h3, h4, h5, h6⟩ := hR
  intro n
  induction n with
  | zero =>
    intro i hi
    have e : nI L ≤ nI i := by rw [show i = L by omega]; exact Int32.le_refl _
    rw [s59_2]
    simp only [s59_0, s59_1, s59_3, s59_4, s59_7, s59_10, s59_11, s59_14, s59_15, s59_16, s59_19, s59_20, s59_23, s59_24, s59_27, s59_28, s59_29, s59_29o, s59_29n, s59_30, s59_33, s59_36, s59_37, s59_37o, s59_37n, or_true, true_or, true_and, and_true, mm_o_some, mm_o_none, mm_bk_v, mm_bk_n, Nat.reduceAdd, h1, h5, if_pos e, fdR]
  | succ n ih =>
    intro i hi
    have e : ¬ nI L ≤ nI i := nI_ge (by omega) (by omega)
    have hin : mm_in (nI i) 8 = true := mm_inN (by omega) (by omega)
    have hcl : (nI i).toNatClampNeg = i := nI_clamp (by omega)
    obtain ⟨p1, p2⟩ := h4 i (by omega)
    rw [s59_2]
    simp only [s59_0, s59_1, s59_3, s59_4, s59_7, s59_10, s59_11, s59_14, s59_15, s59_16, s59_19, s59_20, s59_23, s59_24, s59_27, s59_28, s59_29, s59_29o, s59_29n, s59_30, s59_33, s59_36, s59_37, s59_37o, s59_37n, or_true, true_or, true_and, and_true, mm_o_some, mm_o_none, mm_bk_v, mm_bk_n, Nat.reduceAdd, h1, h2, h3, h5, if_neg e, hin, hcl, p1, p2, Nat.reduceLeDiff, nI_1, ih (i + 1) (by omega), fdR]
    split <;> rfl
end
