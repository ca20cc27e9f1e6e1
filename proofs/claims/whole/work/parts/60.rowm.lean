/-! NUMBERS: whole numbers as ints -/
def zI (v : Int) : Int32 := Int32.ofInt v
def zr (v : Int) : Prop := -2147483648 ≤ v ∧ v < 2147483648
theorem zI_toInt {v : Int} (h : zr v) : (zI v).toInt = v := Int32.toInt_ofInt_of_le (by have := h.1; omega) (by have := h.2; omega)
theorem zI_add (a b : Int) : zI a + zI b = zI (a + b) := (Int32.ofInt_add a b).symm
theorem zI_sub (a b : Int) : zI a - zI b = zI (a - b) := (Int32.ofInt_sub a b).symm
theorem zI_mul (a b : Int) : zI a * zI b = zI (a * b) := (Int32.ofInt_mul a b).symm
theorem zI_0 : (0 : Int32) = zI 0 := rfl
theorem zI_1 : (1 : Int32) = zI 1 := rfl
theorem zI_lt {a b : Int} (ha : zr a) (hb : zr b) : zI a < zI b ↔ a < b := by rw [Int32.lt_iff_toInt_lt, zI_toInt ha, zI_toInt hb]
theorem zI_le {a b : Int} (ha : zr a) (hb : zr b) : zI a ≤ zI b ↔ a ≤ b := by rw [Int32.le_iff_toInt_le, zI_toInt ha, zI_toInt hb]
theorem zI_eq {a b : Int} (ha : zr a) (hb : zr b) : zI a = zI b ↔ a = b := by
  constructor
  · intro e
    rw [← zI_toInt ha, ← zI_toInt hb, e]
  · intro e; rw [e]
theorem zI_min {a b : Int} (ha : zr a) (hb : zr b) : (if zI b < zI a then zI b else zI a) = zI (min a b) := by
  by_cases h : b < a
  · rw [if_pos ((zI_lt hb ha).mpr h), show min a b = b by omega]
  · rw [if_neg (fun H => h ((zI_lt hb ha).mp H)), show min a b = a by omega]
theorem zI_max {a b : Int} (ha : zr a) (hb : zr b) : (if zI a < zI b then zI b else zI a) = zI (max a b) := by
  by_cases h : a < b
  · rw [if_pos ((zI_lt ha hb).mpr h), show max a b = b by omega]
  · rw [if_neg (fun H => h ((zI_lt ha hb).mp H)), show max a b = a by omega]
def bI (b : Bool) : Int32 := if b = true then 1 else 0
theorem bI_t : bI true = 1 := rfl
theorem bI_f : bI false = 0 := rfl
theorem bI_0 (b : Bool) : (bI b = 0) = (b = false) := by cases b <;> simp [bI]
theorem bI_01 (b : Bool) : bI b = 0 ∨ bI b = 1 := by cases b <;> simp [bI]
def zAllF (f : Nat → Bool) : Nat → Nat → Bool
  | _, 0 => true
  | i, n + 1 => f i && zAllF f (i + 1) n
theorem zAllF_snoc (f : Nat → Bool) : ∀ n i, zAllF f i (n + 1) = (zAllF f i n && f (i + n)) := by
  intro n
  induction n with
  | zero => intro i; simp only [zAllF, Bool.and_true, Bool.true_and, Nat.add_zero]
  | succ n ih =>
    intro i
    rw [zAllF, ih (i + 1), zAllF, Bool.and_assoc, show i + 1 + n = i + (n + 1) by omega]
theorem zAllF_all (f : Nat → Bool) : ∀ n, zAllF f 0 n = zAll f n := by
  intro n
  induction n with
  | zero => rfl
  | succ n ih => rw [zAllF_snoc, ih, zAll, Nat.zero_add]
def zSumF (f : Nat → Int) : Nat → Nat → Int → Int
  | _, 0, s => s
  | i, n + 1, s => zSumF f (i + 1) n (s + f i)
theorem zSumF_snoc (f : Nat → Int) : ∀ n i s, zSumF f i (n + 1) s = zSumF f i n s + f (i + n) := by
  intro n
  induction n with
  | zero => intro i s; rfl
  | succ n ih =>
    intro i s
    rw [zSumF, ih (i + 1), zSumF, show i + 1 + n = i + (n + 1) by omega]
theorem zSumF_sum (f : Nat → Int) : ∀ n, zSumF f 0 n 0 = zSum f n := by
  intro n
  induction n with
  | zero => rfl
  | succ n ih => rw [zSumF_snoc, ih, zSum, Nat.zero_add]
/-! A PLACED PIECE, A ROW -/
def zRec (h : mm_H) (a : Nat) (A : Nat → Int) : Prop := (mm_s h a).1 = 6 ∧ ∀ k, 1 ≤ k → k ≤ 15 → mm_i h a k = zI (A k)
/-- what the numbers of a placed piece keep to -/
def zOk (A : Nat → Int) : Prop := (0 ≤ A 1 ∧ A 1 < 8) ∧ (0 ≤ A 2 ∧ A 2 < 6) ∧ (0 ≤ A 3 ∧ A 3 ≤ 400) ∧ (0 ≤ A 4 ∧ A 4 ≤ 400) ∧ (0 ≤ A 5 ∧ A 5 ≤ 400) ∧ A 6 = A 3 + A 9 ∧ A 7 = A 4 + A 10 ∧ A 8 = A 5 + A 11 ∧ (1 ≤ A 9 ∧ A 9 ≤ 200) ∧ (1 ≤ A 10 ∧ A 10 ≤ 200) ∧ (1 ≤ A 11 ∧ A 11 ≤ 200) ∧ (1 ≤ A 12 ∧ A 12 ≤ 10000) ∧ (0 ≤ A 13 ∧ A 13 ≤ 9) ∧ (0 ≤ A 14 ∧ A 14 ≤ 100000) ∧ (0 ≤ A 15 ∧ A 15 ≤ 1000000)
theorem zOk.r {A : Nat → Int} (h : zOk A) (k : Nat) (h1 : 1 ≤ k) (h2 : k ≤ 15) : zr (A k) := by
  simp only [zOk] at h
  simp only [zr]
  have : k = 1 ∨ k = 2 ∨ k = 3 ∨ k = 4 ∨ k = 5 ∨ k = 6 ∨ k = 7 ∨ k = 8 ∨ k = 9 ∨ k = 10 ∨ k = 11 ∨ k = 12 ∨ k = 13 ∨ k = 14 ∨ k = 15 := by omega
  rcases this with rfl | rfl | rfl | rfl | rfl | rfl | rfl | rfl | rfl | rfl | rfl | rfl | rfl | rfl | rfl <;> omega
section
variable {d : Nat} {h : mm_H} {Q : mm_Q} {a b c r L : Nat} {x x2 x3 : Int32} {A C : Nat → Int} {R : zR}
theorem zRec.f (hA : zRec h a A) (o : zOk A) : ∀ k, 1 ≤ k → k ≤ 15 → fI h a k = A k := fun k h1 h2 => by rw [fI, hA.2 k h1 h2, zI_toInt (o.r k h1 h2)]
def zSk (h : mm_H) (r : Nat) : Prop := (mm_s h r).1 = 7 ∧ mm_r h r 0 = some (r + 1) ∧ mm_s h (r + 1) = (24, 8) ∧ (∀ i, i < 8 → mm_r h (r + 1) i = some (r + 2 + i) ∧ (mm_s h (r + 2 + i)).1 = 6)
def zRw (h : mm_H) (r L : Nat) (R : zR) : Prop := zSk h r ∧ L ≤ 8 ∧ mm_i h r 1 = nI L ∧ ∀ i, i < L → zRec h (r + 2 + i) (R i)

theorem c74z (hA : zRec h a A) (oA : zOk A) (hC : zRec h c C) (oC : zOk C) : mm_wp d 74 0 [.ref a, .ref c] [] h Q ↔ Q (.inl (some (.int (bI (zSh A C))))) h := by
  rw [c74 hA.1 hC.1]
  simp only [hA.f oA, hC.f oC, zSh, bI, decide_eq_true_eq, Nat.reduceLeDiff, Nat.le_refl]

theorem c76z (hA : zRec h a A) (oA : zOk A) (hC : zRec h c C) (oC : zOk C) : mm_wp d 76 0 [.ref a, .ref c] [] h Q ↔ Q (.inl (some (.int (bI (zOv A C))))) h := by
  rw [c76 hA.1 hC.1]
  simp only [hA.f oA, hC.f oC, zOv, bI, decide_eq_true_eq, Nat.reduceLeDiff, Nat.le_refl]

theorem c78z (hA : zRec h a A) (oA : zOk A) (hC : zRec h c C) (oC : zOk C) : mm_wp d 78 0 [.ref a, .ref c] [] h Q ↔ Q (.inl (some (.int (bI (zSt A C))))) h := by
  rw [c78 hA.1 hC.1]
  simp only [hA.f oA, hC.f oC, zSt, bI, decide_eq_true_eq, Nat.reduceLeDiff, Nat.le_refl]

theorem c72z (hA : zRec h a A) (oA : zOk A) (hC : zRec h c C) (oC : zOk C) (j2 j3 : Value) : mm_wp (d + 1) 72 0 [.ref a, .ref c, j2, j3] [] h Q ↔ Q (.inl (some (.int (zI (zRe A C))))) h := by
  have iA := hA.2
  have iC := hC.2
  have e1 := zI_min (oA.r 6 (by decide) (by decide)) (oC.r 6 (by decide) (by decide))
  have e2 := zI_max (oA.r 3 (by decide) (by decide)) (oC.r 3 (by decide) (by decide))
  have e3 := zI_min (oA.r 8 (by decide) (by decide)) (oC.r 8 (by decide) (by decide))
  have e4 := zI_max (oA.r 5 (by decide) (by decide)) (oC.r 5 (by decide) (by decide))
  have e5 := zI_eq (oA.r 4 (by decide) (by decide)) (oC.r 7 (by decide) (by decide))
  simp only [s72_0, s72_1, s72_4, s72_4o, s72_4n, s72_5, s72_8, s72_11, s72_12, s72_13, s72_14, s72_17, s72_17o, s72_17n, s72_18, s72_21, s72_24, s72_25, s72_28, s72_28o, s72_28n, s72_29, s72_32, s72_35, s72_36, s72_37, s72_38, s72_41, s72_41o, s72_41n, s72_42, s72_45, s72_48, s72_49, s72_52, s72_52o, s72_52n, s72_53, s72_56, s72_59, s72_60, s72_61, s72_62, s72_65, s72_66, s72_69, s72_70, s72_71, s72_72, s72_75, s72_76, or_true, true_or, true_and, and_true, mm_o_some, mm_o_none, mm_bk_v, mm_bk_n, Nat.reduceAdd, hA.1, hC.1, iA, iC, Nat.reduceLeDiff, Nat.le_refl, c3, c4, e1, e2, e3, e4, e5, zI_sub, zI_mul]
  simp only [zI_0]
  have g1 : zI (min (A 6) (C 6) - max (A 3) (C 3)) ≤ zI 0 ↔ zLn (A 3) (A 6) (C 3) (C 6) ≤ 0 := zI_le (by simp only [zOk] at oA oC; simp only [zr]; omega) (by simp only [zr]; omega)
  have g2 : zI (min (A 8) (C 8) - max (A 5) (C 5)) ≤ zI 0 ↔ zLn (A 5) (A 8) (C 5) (C 8) ≤ 0 := zI_le (by simp only [zOk] at oA oC; simp only [zr]; omega) (by simp only [zr]; omega)
  simp only [g1, g2, zRe]
  by_cases c1 : A 4 = C 7
  · by_cases c2 : zLn (A 3) (A 6) (C 3) (C 6) ≤ 0
    · rw [if_pos c1, if_pos c2, if_neg (fun H => by omega)]
    · by_cases c3 : zLn (A 5) (A 8) (C 5) (C 8) ≤ 0
      · rw [if_pos c1, if_neg c2, if_pos c3, if_neg (fun H => by omega)]
      · rw [if_pos c1, if_neg c2, if_neg c3, if_pos ⟨c1, by omega, by omega⟩]
        rfl
  · rw [if_neg c1, if_neg (fun H => c1 H.1)]

theorem c73_loop (hR : zRw h r L R) (hO : ∀ i, i < L → zOk (R i)) (hC : zRec h c C) (oC : zOk C) : ∀ n i, i + n = L → (mm_wp (d + 1) 73 2 [.ref r, .ref c, .int (nI i)] [] h Q ↔ Q (.inl (some (.int (bI (zAllF (fun i => !zSh C (R i)) i n))))) h) := by
  obtain ⟨⟨h1, h2, h3, h4⟩, h6, h5, h7⟩ := hR
  intro n
  induction n with
  | zero =>
    intro i  hi
    have e : nI L ≤ nI i := by rw [show i = L by omega]; exact Int32.le_refl _
    rw [s73_2]
    simp only [s73_0, s73_1, s73_3, s73_4, s73_7, s73_10, s73_10o, s73_10n, s73_11, s73_12, s73_15, s73_16, s73_17, s73_20, s73_23, s73_24, s73_25, s73_28, s73_31, s73_32, or_true, true_or, true_and, and_true, mm_o_some, mm_o_none, mm_bk_v, mm_bk_n, Nat.reduceAdd, h1, h5, if_pos e, zAllF, bI_t]
  | succ n ih =>
    intro i  hi
    have e : ¬ nI L ≤ nI i := nI_ge (by omega) (by omega)
    have hin : mm_in (nI i) 8 = true := mm_inN (by omega) (by omega)
    have hcl : (nI i).toNatClampNeg = i := nI_clamp (by omega)
    obtain ⟨p1, p2⟩ := h4 i (by omega)
    have hA := h7 i (by omega)
    have oA := hO i (by omega)

    rw [s73_2]
    simp only [s73_0, s73_1, s73_3, s73_4, s73_7, s73_10, s73_10o, s73_10n, s73_11, s73_12, s73_15, s73_16, s73_17, s73_20, s73_23, s73_24, s73_25, s73_28, s73_31, s73_32, or_true, true_or, true_and, and_true, mm_o_some, mm_o_none, mm_bk_v, mm_bk_n, Nat.reduceAdd, h1, h2, h3, h5, if_neg e, hin, hcl, p1, p2, hC.1, Nat.reduceLeDiff, nI_1, c74z hC oC hA oA, bI_0, ih (i + 1) (by omega), zAllF]
    cases zSh C (R i) <;> simp [bI]

theorem c77_loop (hR : zRw h r L R) (hO : ∀ i, i < L → zOk (R i)) (hC : zRec h c C) (oC : zOk C) : ∀ n i, i + n = L → (mm_wp (d + 1) 77 2 [.ref r, .ref c, .int (nI i)] [] h Q ↔ Q (.inl (some (.int (bI (zAllF (fun i => !(zSt C (R i) || zSt (R i) C)) i n))))) h) := by
  obtain ⟨⟨h1, h2, h3, h4⟩, h6, h5, h7⟩ := hR
  intro n
  induction n with
  | zero =>
    intro i  hi
    have e : nI L ≤ nI i := by rw [show i = L by omega]; exact Int32.le_refl _
    rw [s77_2]
    simp only [s77_0, s77_1, s77_3, s77_4, s77_7, s77_10, s77_10o, s77_10n, s77_11, s77_12, s77_15, s77_16, s77_17, s77_20, s77_23, s77_24, s77_27, s77_28, s77_29, s77_29o, s77_29n, s77_30, s77_33, s77_36, s77_37, s77_38, s77_41, s77_44, s77_45, or_true, true_or, true_and, and_true, mm_o_some, mm_o_none, mm_bk_v, mm_bk_n, Nat.reduceAdd, h1, h5, if_pos e, zAllF, bI_t]
  | succ n ih =>
    intro i  hi
    have e : ¬ nI L ≤ nI i := nI_ge (by omega) (by omega)
    have hin : mm_in (nI i) 8 = true := mm_inN (by omega) (by omega)
    have hcl : (nI i).toNatClampNeg = i := nI_clamp (by omega)
    obtain ⟨p1, p2⟩ := h4 i (by omega)
    have hA := h7 i (by omega)
    have oA := hO i (by omega)

    rw [s77_2]
    simp only [s77_0, s77_1, s77_3, s77_4, s77_7, s77_10, s77_10o, s77_10n, s77_11, s77_12, s77_15, s77_16, s77_17, s77_20, s77_23, s77_24, s77_27, s77_28, s77_29, s77_29o, s77_29n, s77_30, s77_33, s77_36, s77_37, s77_38, s77_41, s77_44, s77_45, or_true, true_or, true_and, and_true, mm_o_some, mm_o_none, mm_bk_v, mm_bk_n, Nat.reduceAdd, h1, h2, h3, h5, if_neg e, hin, hcl, p1, p2, hC.1, Nat.reduceLeDiff, nI_1, c78z hC oC hA oA, c78z hA oA hC oC, bI_0, ih (i + 1) (by omega), zAllF]
    cases zSt C (R i) <;> cases zSt (R i) C <;> simp [bI]

theorem c75_loop (hR : zRw h r L R) (hO : ∀ i, i < L → zOk (R i)) (hC : zRec h c C) (oC : zOk C) : ∀ n i (j3 : Value), i + n = L → (mm_wp (d + 1) 75 2 [.ref r, .ref c, .int (nI i), j3] [] h Q ↔ Q (.inl (some (.int (bI (zAllF (fun i => !(decide (R i 14 < R i 15 + C 12) && zOv C (R i))) i n))))) h) := by
  obtain ⟨⟨h1, h2, h3, h4⟩, h6, h5, h7⟩ := hR
  intro n
  induction n with
  | zero =>
    intro i j3 hi
    have e : nI L ≤ nI i := by rw [show i = L by omega]; exact Int32.le_refl _
    rw [s75_2]
    simp only [s75_0, s75_1, s75_3, s75_4, s75_7, s75_10, s75_11, s75_14, s75_15, s75_16, s75_16o, s75_16n, s75_17, s75_17o, s75_17n, s75_18, s75_21, s75_21o, s75_21n, s75_22, s75_25, s75_26, s75_26o, s75_26n, s75_27, s75_30, s75_33, s75_33o, s75_33n, s75_34, s75_34o, s75_34n, s75_35, s75_38, s75_41, s75_42, s75_43, s75_46, s75_49, s75_50, or_true, true_or, true_and, and_true, mm_o_some, mm_o_none, mm_bk_v, mm_bk_n, Nat.reduceAdd, h1, h5, if_pos e, zAllF, bI_t]
  | succ n ih =>
    intro i j3 hi
    have e : ¬ nI L ≤ nI i := nI_ge (by omega) (by omega)
    have hin : mm_in (nI i) 8 = true := mm_inN (by omega) (by omega)
    have hcl : (nI i).toNatClampNeg = i := nI_clamp (by omega)
    obtain ⟨p1, p2⟩ := h4 i (by omega)
    have hA := h7 i (by omega)
    have oA := hO i (by omega)
    have i14 := hA.2 14 (by decide) (by decide)
    have i15 := hA.2 15 (by decide) (by decide)
    have i12 := hC.2 12 (by decide) (by decide)
    have g : zI (R i 15 + C 12) ≤ zI (R i 14) ↔ R i 15 + C 12 ≤ R i 14 := zI_le (by simp only [zOk] at oA oC; simp only [zr]; omega) (oA.r 14 (by decide) (by decide))
    rw [s75_2]
    simp only [s75_0, s75_1, s75_3, s75_4, s75_7, s75_10, s75_11, s75_14, s75_15, s75_16, s75_16o, s75_16n, s75_17, s75_17o, s75_17n, s75_18, s75_21, s75_21o, s75_21n, s75_22, s75_25, s75_26, s75_26o, s75_26n, s75_27, s75_30, s75_33, s75_33o, s75_33n, s75_34, s75_34o, s75_34n, s75_35, s75_38, s75_41, s75_42, s75_43, s75_46, s75_49, s75_50, or_true, true_or, true_and, and_true, mm_o_some, mm_o_none, mm_bk_v, mm_bk_n, Nat.reduceAdd, h1, h2, h3, h5, if_neg e, hin, hcl, p1, p2, hC.1, Nat.reduceLeDiff, nI_1, c76z hC oC hA oA, i14, i15, i12, zI_add, g, bI_0, ih (i + 1) _ (by omega), zAllF]
    by_cases q : R i 15 + C 12 ≤ R i 14
    · rw [if_pos q]; simp [show ¬ R i 14 < R i 15 + C 12 by omega]
    · rw [if_neg q]; cases zOv C (R i) <;> simp [bI, show R i 14 < R i 15 + C 12 by omega]

end
