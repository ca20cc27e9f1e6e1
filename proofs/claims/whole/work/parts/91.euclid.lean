/-! LOADS: the numbers, and Euclid -/
section
variable {d : Nat} {h h' : mm_H} {Q : mm_Q} {L n a b q t u i r e j na bL told : Nat} {W p A : Nat → Int} {m mk : Int} {R bR : zR} {P : Nat → Nat → Int} {sp : Bool} {T : Nat → Prop} {x x2 x3 x4 : Int32} {l : List Int}
/-- the first one of the two axles that take a weight: the last i, at most k, with twice its place at most m -/
def zG1 (A : Nat → Int) (m : Int) : Nat → Nat
  | 0 => 0
  | k + 1 => if 2 * A (k + 1) ≤ m then k + 1 else zG1 A m k
def zMd (c : Nat → Int) : Int := 2 * c 5 + c 11
def zSB (na : Nat) (A : Nat → Int) (R : zR) (ax : Nat) (L : Nat) : Int := zSum (fun i => if 1 ≤ ax ∧ zG1 A (zMd (R i)) (na - 2) = ax - 1 then R i 12 * (zMd (R i) - 2 * A (ax - 1)) else 0) L
def zSH (na : Nat) (A : Nat → Int) (R : zR) (ax : Nat) (L : Nat) : Int := zSum (fun i => if na = 1 then R i 12 else if ax + 1 < na ∧ zG1 A (zMd (R i)) (na - 2) = ax then R i 12 * (2 * A (ax + 1) - zMd (R i)) else 0) L
def zGp (na : Nat) (A : Nat → Int) (k : Nat) : Int := if k + 1 < na then 2 * (A (k + 1) - A k) else 1
def zBe (na : Nat) (A : Nat → Int) (ax : Nat) : Int := if ax = 0 then 1 else zGp na A (ax - 1)
def zAbv (na : Nat) (A : Nat → Int) (L : Nat) (R : zR) (ax : Nat) : Int := zSB na A R ax L * zGp na A ax + zSH na A R ax L * zBe na A ax
def zBlw (na : Nat) (A : Nat → Int) (ax : Nat) : Int := zBe na A ax * zGp na A ax
def zLoad (na : Nat) (A : Nat → Int) (L : Nat) (R : zR) (ax : Nat) (pt : Int) : Int64 := zL (if pt = 0 then zAbv na A L R ax else zBlw na A ax) / zL (Nat.gcd (zAbv na A L R ax).natAbs (zBlw na A ax).natAbs : Nat)
/-- the axles' places: rising -/
def zAok (na : Nat) (A : Nat → Int) : Prop := na ≤ 6 ∧ (∀ i, i < na → 0 ≤ A i ∧ A i ≤ 1000) ∧ ∀ i, i + 1 < na → A i < A (i + 1)
theorem zGp_r (hA : zAok na A) : 1 ≤ zGp na A j ∧ zGp na A j ≤ 2000 := by
  simp only [zGp]
  split
  · rename_i g
    have h1 := hA.2.1 j (by omega)
    have h2 := hA.2.1 (j + 1) g
    have h3 := hA.2.2 j g
    omega
  · omega
theorem zBe_r (hA : zAok na A) : 1 ≤ zBe na A j ∧ zBe na A j ≤ 2000 := by
  simp only [zBe]
  split
  · omega
  · exact zGp_r hA
theorem zBlw_r (hA : zAok na A) : 1 ≤ zBlw na A j ∧ zBlw na A j ≤ 4000000 := by
  have h1 := zGp_r (j := j) hA
  have h2 := zBe_r (j := j) hA
  have m1 := Int.mul_le_mul (a := zBe na A j) (b := zGp na A j) (c := 2000) (d := 2000) (by omega) (by omega) (by omega) (by omega)
  have m2 := Int.mul_le_mul (a := 1) (b := 1) (c := zBe na A j) (d := zGp na A j) (by omega) (by omega) (by omega) (by omega)
  simp only [zBlw]
  omega
theorem zSum_a {f : Nat → Int} {c : Int} : ∀ n : Nat, (∀ i, i < n → -c ≤ f i ∧ f i ≤ c) → -((n : Int) * c) ≤ zSum f n ∧ zSum f n ≤ (n : Int) * c := by
  intro n
  induction n with
  | zero => intro _; simp only [zSum]; omega
  | succ n ih =>
    intro H
    have h1 := ih (fun i hi => H i (by omega))
    have h2 := H n (by omega)
    have e : ((n + 1 : Nat) : Int) * c = (n : Int) * c + c := by rw [Int.natCast_add, Int.add_mul]; simp
    simp only [zSum]
    rw [e]
    omega
theorem zMd_r {c : Nat → Int} (o : zOk c) : 1 ≤ zMd c ∧ zMd c ≤ 1000 := by
  simp only [zOk] at o
  simp only [zMd]
  omega
theorem mul_ab {a b : Int} (ha : 1 ≤ a ∧ a ≤ 10000) (hb : -3000 ≤ b ∧ b ≤ 3000) : -30000000 ≤ a * b ∧ a * b ≤ 30000000 := by
  have h1 : a * b ≤ a * 3000 := Int.mul_le_mul_of_nonneg_left hb.2 (by omega)
  have h2 : a * (-3000) ≤ a * b := Int.mul_le_mul_of_nonneg_left hb.1 (by omega)
  omega
theorem zSB_r (hA : zAok na A) (hL : L ≤ 8) (hO : ∀ i, i < L → zOk (R i)) (hj : j < na) : -240000000 ≤ zSB na A R j L ∧ zSB na A R j L ≤ 240000000 := by
  have := zSum_a (f := fun i => if 1 ≤ j ∧ zG1 A (zMd (R i)) (na - 2) = j - 1 then R i 12 * (zMd (R i) - 2 * A (j - 1)) else 0) (c := 30000000) L (fun i hi => by
    split
    · have o := hO i hi
      have m := zMd_r o
      have a := hA.2.1 (j - 1) (by omega)
      simp only [zOk] at o
      exact mul_ab (by omega) (by omega)
    · omega)
  simp only [zSB]
  omega
theorem zSH_r (hA : zAok na A) (hL : L ≤ 8) (hO : ∀ i, i < L → zOk (R i)) : -240000000 ≤ zSH na A R j L ∧ zSH na A R j L ≤ 240000000 := by
  have := zSum_a (f := fun i => if na = 1 then R i 12 else if j + 1 < na ∧ zG1 A (zMd (R i)) (na - 2) = j then R i 12 * (2 * A (j + 1) - zMd (R i)) else 0) (c := 30000000) L (fun i hi => by
    have o := hO i hi
    have m := zMd_r o
    simp only [zOk] at o
    split
    · omega
    · split
      · have a := hA.2.1 (j + 1) (by omega)
        exact mul_ab (by omega) (by omega)
      · omega)
  simp only [zSH]
  omega
theorem mul_gb {a b : Int} (ha : -240000000 ≤ a ∧ a ≤ 240000000) (hb : 1 ≤ b ∧ b ≤ 2000) : -480000000000 ≤ a * b ∧ a * b ≤ 480000000000 := by
  have h1 : a * b ≤ 240000000 * b := Int.mul_le_mul_of_nonneg_right ha.2 (by omega)
  have h2 : -240000000 * b ≤ a * b := Int.mul_le_mul_of_nonneg_right ha.1 (by omega)
  omega
theorem zAbv_r (hA : zAok na A) (hL : L ≤ 8) (hO : ∀ i, i < L → zOk (R i)) (hj : j < na) : -960000000000 ≤ zAbv na A L R j ∧ zAbv na A L R j ≤ 960000000000 := by
  have h1 := mul_gb (zSB_r hA hL hO hj) (zGp_r (j := j) hA)
  have h2 := mul_gb (zSH_r (j := j) hA hL hO) (zBe_r (j := j) hA)
  simp only [zAbv]
  omega
/-! Euclid -/
theorem zL_sub (a b : Int) : zL a - zL b = zL (a - b) := (Int64.ofInt_sub a b).symm
theorem zL_rem {a b : Nat} (ha : a < 2 ^ 62) (h0 : 0 < b) (hb : b < 2 ^ 62) : zL (a : Int) - zL (a : Int) / zL (b : Int) * zL (b : Int) = zL ((a % b : Nat) : Int) := by
  have e : zL (a : Int) / zL (b : Int) = zL ((a / b : Nat) : Int) := by
    have h1 : Int64.minValue.toInt = -9223372036854775808 := rfl
    have h2 : Int64.maxValue.toInt = 9223372036854775807 := rfl
    have := Int64.ofInt_tdiv (a := (a : Int)) (b := (b : Int)) (by rw [h1]; omega) (by rw [h2]; omega) (by rw [h1]; omega) (by rw [h2]; omega)
    simp only [zL]
    rw [← this, ← Int.ofNat_tdiv]
  rw [e, zL_mul, zL_sub]
  congr 1
  have := Nat.div_add_mod a b
  have h3 : ((a / b * b + a % b : Nat) : Int) = (a : Int) := by rw [Nat.mul_comm, this]
  rw [Int.natCast_add, Int.natCast_mul] at h3
  omega
theorem zL_n0 {b : Nat} (hb : b < 2 ^ 62) : zL (b : Int) = 0 ↔ b = 0 := by
  rw [show (0 : Int64) = zL 0 from rfl, zL_eq (by omega) (by omega)]
  omega
theorem half_rem {b r : Nat} (hr : r < b) (h0 : 0 < r) : 2 * (b % r) < b := by
  have h1 := Nat.mod_lt b h0
  have h2 := Nat.div_add_mod b r
  have h3 : 1 ≤ b / r := Nat.div_pos (by omega) h0
  have h4 : r * 1 ≤ r * (b / r) := Nat.mul_le_mul_left r h3
  omega
theorem lcmp_0 {a : Int64} : ((if (0 : Int64) < a then (1 : Int32) else if a = 0 then 0 else -1) = 0) ↔ a = 0 := by
  by_cases h : a = 0
  · subst h; decide
  · simp only [h, if_false, iff_false]
    split <;> decide
theorem c107_step {a b i : Nat} (ha : a < 2 ^ 62) (h0 : 0 < b) (hb : b < 2 ^ 62) (hi : i < 1000) (l0 l1 l2 l3 l9 l10 : Value) : mm_wp d 107 9 [l0, l1, l2, l3, .long (zL a), mm_j, .long (zL b), mm_j, .int (nI i), l9, l10] [] h Q ↔ mm_wp d 107 9 [l0, l1, l2, l3, .long (zL b), mm_j, .long (zL (a % b : Nat)), mm_j, .int (nI (i + 1)), .long (zL (a % b : Nat)), mm_j] [] h Q := by
  have c : ¬ (1000 : Int32) ≤ nI i := nI_ge (b := 1000) hi (by omega)
  have e : ¬ zL (b : Int) = 0 := fun q => by rw [zL_n0 hb] at q; omega
  rw [s107_9]
  simp only [s107_11, s107_14, s107_17, s107_19, s107_20, s107_21, s107_24, s107_26, s107_28, s107_29, s107_31, s107_33, s107_35, s107_37, s107_39, s107_42, s107_45, s107_47, or_true, true_or, true_and, and_true, mm_o_some, mm_o_none, mm_bk_v, mm_bk_n, Nat.reduceAdd, if_neg c, zL_rem ha h0 hb, nI_1]
  rw [if_neg (fun q => e (lcmp_0.mp q))]
  exact ⟨fun q => q.2, fun q => ⟨e, q⟩⟩
theorem c107_end {a i : Nat} (l0 l1 l2 l3 l9 l10 : Value) : mm_wp d 107 9 [l0, l1, l2, l3, .long (zL a), mm_j, .long (zL (0 : Nat)), mm_j, .int (nI i), l9, l10] [] h Q ↔ Q (.inl (some (.long (zL a)))) h := by
  have e : zL ((0 : Nat) : Int) = 0 := rfl
  rw [s107_9]
  simp only [s107_11, s107_14, s107_17, s107_19, s107_20, s107_21, s107_24, s107_26, s107_28, s107_29, s107_31, s107_33, s107_35, s107_37, s107_39, s107_42, s107_45, s107_47, or_true, true_or, true_and, and_true, mm_o_some, mm_o_none, mm_bk_v, mm_bk_n, Nat.reduceAdd]
  by_cases c : (1000 : Int32) ≤ nI i
  · rw [if_pos c]
  · rw [if_neg c, if_pos (lcmp_0.mpr e)]
theorem c107_loop : ∀ k a b i : Nat, b < 2 ^ k → k ≤ 60 → i + 2 * k ≤ 1000 → a < 2 ^ 62 → ∀ l0 l1 l2 l3 l9 l10 : Value, (mm_wp d 107 9 [l0, l1, l2, l3, .long (zL a), mm_j, .long (zL b), mm_j, .int (nI i), l9, l10] [] h Q ↔ Q (.inl (some (.long (zL (Nat.gcd a b : Nat))))) h) := by
  intro k
  induction k with
  | zero =>
    intro a b i hb _ hi ha l0 l1 l2 l3 l9 l10
    have e : b = 0 := by simpa using hb
    subst e
    rw [c107_end, Nat.gcd_zero_right]
  | succ k ih =>
    intro a b i hb hk hi ha l0 l1 l2 l3 l9 l10
    have hb2 : b < 2 ^ 62 := Nat.lt_of_lt_of_le hb (Nat.pow_le_pow_right (by omega) (by omega))
    by_cases e : b = 0
    · subst e
      rw [c107_end, Nat.gcd_zero_right]
    · have h0 : 0 < b := by omega
      have hr := Nat.mod_lt a h0
      rw [c107_step ha h0 hb2 (by omega), Nat.gcd_comm a b, Nat.gcd_rec b a]
      by_cases e2 : a % b = 0
      · rw [e2, c107_end, Nat.gcd_zero_left]
      · have hr0 : 0 < a % b := by omega
        rw [c107_step hb2 hr0 (by omega) (by omega), Nat.gcd_rec (a % b) b, Nat.gcd_comm (b % (a % b))]
        have hh := half_rem hr hr0
        exact ih (a % b) (b % (a % b)) (i + 1 + 1) (by rw [Nat.pow_succ] at hb; omega) (by omega) (by omega) (by omega) l0 l1 l2 l3 _ _
theorem c107z {a b : Nat} (ha : a < 2 ^ 62) (hb : b < 2 ^ 60) (v4 v5 v6 v7 v8 v9 v10 : Value) : mm_wp d 107 0 [.long (zL a), mm_j, .long (zL b), mm_j, v4, v5, v6, v7, v8, v9, v10] [] h Q ↔ Q (.inl (some (.long (zL (Nat.gcd a b : Nat))))) h := by
  simp only [s107_0, s107_1, s107_3, s107_4, s107_6, s107_7, or_true, true_or, true_and, and_true, mm_o_some, mm_o_none, mm_bk_v, mm_bk_n, Nat.reduceAdd]
  rw [← nI_lit0]
  exact c107_loop 60 a b 0 hb (by omega) (by omega) ha _ _ _ _ _ _
theorem c106z {a : Int} (ha : -960000000000 ≤ a ∧ a ≤ 960000000000) (v1 : Value) : mm_wp d 106 0 [.long (zL a), v1] [] h Q ↔ Q (.inl (some (.long (zL (a.natAbs : Nat))))) h := by
  have e0 : (0 : Int64) = zL 0 := rfl
  by_cases g : a < 0
  · have c1 : ¬ zL 0 < zL a := by rw [zL_lt (by omega) (by omega)]; omega
    have c2 : ¬ zL a = zL 0 := by rw [zL_eq (by omega) (by omega)]; omega
    have c3 : ¬ (0 : Int32) ≤ -1 := by decide
    have e1 : -zL a = zL (a.natAbs : Nat) := by
      rw [show ((a.natAbs : Nat) : Int) = -a by omega, zL, zL, Int64.ofInt_neg]
    simp only [s106_0, s106_1, s106_2, s106_3, s106_6, s106_7, s106_8, s106_11, s106_12, or_true, true_or, true_and, and_true, mm_o_some, mm_o_none, mm_bk_v, mm_bk_n, Nat.reduceAdd, e0, if_neg c1, if_neg c2, if_neg c3, e1]
  · have e1 : ((a.natAbs : Nat) : Int) = a := by omega
    by_cases g2 : a = 0
    · subst g2
      simp only [s106_0, s106_1, s106_2, s106_3, s106_6, s106_7, s106_8, s106_11, s106_12, or_true, true_or, true_and, and_true, mm_o_some, mm_o_none, mm_bk_v, mm_bk_n, Nat.reduceAdd, e0]
      exact Iff.rfl
    · have c1 : zL 0 < zL a := by rw [zL_lt (by omega) (by omega)]; omega
      have c3 : (0 : Int32) ≤ 1 := by decide
      simp only [s106_0, s106_1, s106_2, s106_3, s106_6, s106_7, s106_8, s106_11, s106_12, or_true, true_or, true_and, and_true, mm_o_some, mm_o_none, mm_bk_v, mm_bk_n, Nat.reduceAdd, e0, if_pos c1, if_pos c3, e1]
theorem c105z {a b : Int} (ha : -960000000000 ≤ a ∧ a ≤ 960000000000) (hb : 1 ≤ b ∧ b ≤ 4000000) {pt : Int} (hp : pt = 0 ∨ pt = 1) (v5 v6 v7 v8 : Value) : mm_wp (d + 1) 105 0 [.long (zL a), mm_j, .long (zL b), mm_j, .int (zI pt), v5, v6, v7, v8] [] h Q ↔ Q (.inl (some (.long (zL (if pt = 0 then a else b) / zL (Nat.gcd a.natAbs b.natAbs : Nat))))) h := by
  have eb : zL b = zL (b.natAbs : Nat) := by rw [show ((b.natAbs : Nat) : Int) = b by omega]
  have gp : 0 < Nat.gcd a.natAbs b.natAbs := Nat.gcd_pos_of_pos_right _ (by omega)
  have gl : Nat.gcd a.natAbs b.natAbs ≤ b.natAbs := Nat.le_of_dvd (by omega) (Nat.gcd_dvd_right _ _)
  have l107 : ∀ (Q : mm_Q) (v4 v5 v6 v7 v8 v9 v10 : Value), mm_wp d 107 0 [.long (zL (a.natAbs : Nat)), mm_j, .long (zL b), mm_j, v4, v5, v6, v7, v8, v9, v10] [] h Q ↔ Q (.inl (some (.long (zL (Nat.gcd a.natAbs b.natAbs : Nat))))) h := by
    intro Q v4 v5 v6 v7 v8 v9 v10
    rw [eb]
    exact c107z (by omega) (by omega) _ _ _ _ _ _ _
  generalize Nat.gcd a.natAbs b.natAbs = g at *
  have e1 : (1 : Int64) = zL 1 := rfl
  have fin : ∀ w : Int64, ((if (if zL 1 < zL (g : Int) then (1 : Int32) else if zL (g : Int) = zL 1 then 0 else -1) ≤ 0 then Q (.inl (some (.long w))) h else Q (.inl (some (.long (w / zL (g : Int))))) h) ↔ Q (.inl (some (.long (w / zL (g : Int))))) h) := by
    intro w
    by_cases g1 : g = 1
    · have c1 : ¬ zL 1 < zL (g : Int) := by rw [zL_lt (by omega) (by omega)]; omega
      have c2 : zL (g : Int) = zL 1 := by rw [g1]; rfl
      rw [if_neg c1, if_pos c2, if_pos (by decide), c2, ← e1, Int64.div_one]
    · have c1 : zL 1 < zL (g : Int) := by rw [zL_lt (by omega) (by omega)]; omega
      rw [if_pos c1, if_neg (by decide)]
  have ne : ¬ zL (g : Int) = 0 := fun q => by rw [zL_n0 (by omega)] at q; omega
  rcases hp with rfl | rfl
  · simp only [s105_0, s105_2, s105_5, s105_6, s105_9, s105_10, s105_12, s105_13, s105_16, s105_17, s105_20, s105_22, s105_24, s105_25, s105_26, s105_29, s105_31, s105_33, s105_34, s105_37, s105_39, or_true, true_or, true_and, and_true, mm_o_some, mm_o_none, mm_bk_v, mm_bk_n, Nat.reduceAdd, show zI 0 = (0 : Int32) from rfl, if_true, c106z ha, l107, e1, ne, not_false_eq_true]
    exact fin (zL a)
  · simp only [s105_0, s105_2, s105_5, s105_6, s105_9, s105_10, s105_12, s105_13, s105_16, s105_17, s105_20, s105_22, s105_24, s105_25, s105_26, s105_29, s105_31, s105_33, s105_34, s105_37, s105_39, or_true, true_or, true_and, and_true, mm_o_some, mm_o_none, mm_bk_v, mm_bk_n, Nat.reduceAdd, show zI 1 = (1 : Int32) from rfl, if_neg n10, if_neg (show ¬ (1 : Int) = 0 by decide), c106z ha, l107, e1, ne, not_false_eq_true]
    exact fin (zL b)
end
