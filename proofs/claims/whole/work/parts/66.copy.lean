/-! THE BETTER ROW, AND A ROW COPIED -/
theorem zL_lt {a b : Int} (ha : -9223372036854775808 ≤ a ∧ a < 9223372036854775808) (hb : -9223372036854775808 ≤ b ∧ b < 9223372036854775808) : zL a < zL b ↔ a < b := by rw [Int64.lt_iff_toInt_lt, zL_toInt ha, zL_toInt hb]
theorem zL_eq {a b : Int} (ha : -9223372036854775808 ≤ a ∧ a < 9223372036854775808) (hb : -9223372036854775808 ≤ b ∧ b < 9223372036854775808) : zL a = zL b ↔ a = b := by
  constructor
  · intro e
    rw [← zL_toInt ha, ← zL_toInt hb, e]
  · intro e; rw [e]
def cpF (h : mm_H) (a b : Nat) : Nat → mm_H
  | 0 => h
  | n + 1 => mm_pi (cpF h a b n) a (n + 1) (mm_i h b (n + 1))
def cpH (h : mm_H) (a b : Nat) : mm_H := cpF h a b 15
def itH (g : mm_H → Nat → mm_H) : mm_H → Nat → Nat → mm_H
  | h, _, 0 => h
  | h, i, n + 1 => itH g (g h i) (i + 1) n
theorem itH_0 (g : mm_H → Nat → mm_H) (h : mm_H) (i : Nat) : itH g h i 0 = h := rfl
theorem itH_1 (g : mm_H → Nat → mm_H) (h : mm_H) (i n : Nat) : itH g h i (n + 1) = itH g (g h i) (i + 1) n := rfl
def cpG (r s : Nat) (h : mm_H) (i : Nat) : mm_H := cpH h (r + 2 + i) (s + 2 + i)
def cpL (r s : Nat) (h : mm_H) (i n : Nat) : mm_H := itH (cpG r s) h i n
theorem cpL_0 (r s : Nat) (h : mm_H) (i : Nat) : cpL r s h i 0 = h := itH_0 _ _ _
theorem cpL_1 (r s : Nat) (h : mm_H) (i n : Nat) : cpL r s h i (n + 1) = cpL r s (cpH h (r + 2 + i) (s + 2 + i)) (i + 1) n := itH_1 _ _ _ _
section
variable {d : Nat} {h h' : mm_H} {Q : mm_Q} {a b c r s L t e j i q : Nat} {x x2 x3 : Int32} {p A C : Nat → Int} {R : zR} {l : List Int} {v m v2 m2 : Int}
theorem c83z (hr : (mm_s h r).1 = 7) (hs : (mm_s h s).1 = 7) (h1 : mm_i h r 2 = zI v) (h2 : mm_i h s 2 = zI v2) (h3 : mm_l h r 3 = zL m) (h4 : mm_l h s 3 = zL m2) (b1 : zr v) (b2 : zr v2) (b3 : zr m) (b4 : zr m2) : mm_wp d 83 0 [.ref r, .ref s] [] h Q ↔ Q (.inl (some (.int (bI (zBt v m v2 m2))))) h := by
  have e1 := zI_eq b1 b2
  have e2 := zI_le b1 b2
  have b3' : -9223372036854775808 ≤ m ∧ m < 9223372036854775808 := by simp only [zr] at b3; omega
  have b4' : -9223372036854775808 ≤ m2 ∧ m2 < 9223372036854775808 := by simp only [zr] at b4; omega
  have e3 := zL_lt b4' b3'
  have e4 := zL_eq b3' b4'
  simp only [s83_0, s83_1, s83_4, s83_4o, s83_4n, s83_5, s83_8, s83_11, s83_12, s83_15, s83_15o, s83_15n, s83_16, s83_19, s83_22, s83_23, s83_26, s83_27, s83_30, s83_31, s83_34, s83_34o, s83_34n, s83_35, s83_38, s83_39, s83_42, s83_43, s83_46, s83_47, or_true, true_or, true_and, and_true, mm_o_some, mm_o_none, mm_bk_v, mm_bk_n, Nat.reduceAdd, hr, hs, h1, h2, h3, h4, e1, e2, e3, e4]
  simp only [zBt, bI, decide_eq_true_eq]
  by_cases c1 : v = v2
  · rw [if_pos c1]
    by_cases c2 : m2 < m
    · rw [if_pos c2, if_pos (by decide), if_neg (by omega)]
    · rw [if_neg c2]
      by_cases c3 : m = m2
      · rw [if_pos c3, if_pos (by decide), if_neg (by omega)]
      · rw [if_neg c3, if_neg (by decide), if_pos (by omega)]
  · rw [if_neg c1]
    by_cases c2 : v ≤ v2
    · rw [if_pos c2, if_neg (by omega)]
    · rw [if_neg c2, if_pos (by omega)]
theorem cpF_s : ∀ n, mm_s (cpF h a b n) = mm_s h ∧ mm_r (cpF h a b n) = mm_r h ∧ mm_l (cpF h a b n) = mm_l h ∧ mm_n (cpF h a b n) = mm_n h ∧ mm_z (cpF h a b n) = mm_z h := by
  intro n
  induction n with
  | zero => exact ⟨rfl, rfl, rfl, rfl, rfl⟩
  | succ n ih => rw [cpF, mm_s_pi, mm_r_pi, mm_l_pi, mm_n_pi, mm_z_pi]; exact ih
theorem cpH_s : mm_s (cpH h a b) = mm_s h ∧ mm_r (cpH h a b) = mm_r h ∧ mm_l (cpH h a b) = mm_l h ∧ mm_n (cpH h a b) = mm_n h ∧ mm_z (cpH h a b) = mm_z h := cpF_s 15
theorem cpF_o (c k : Nat) : ∀ n, (¬ c = a ∨ k = 0 ∨ n < k) → mm_i (cpF h a b n) c k = mm_i h c k := by
  intro n
  induction n with
  | zero => intro _; rfl
  | succ n ih => intro hc; rw [cpF, mm_i_pi, if_neg (by omega)]; exact ih (by omega)
theorem cpH_o (c k : Nat) (hc : ¬ c = a ∨ k = 0 ∨ 15 < k) : mm_i (cpH h a b) c k = mm_i h c k := cpF_o c k 15 hc
theorem cpF_a (k : Nat) (h1 : 1 ≤ k) : ∀ n, k ≤ n → mm_i (cpF h a b n) a k = mm_i h b k := by
  intro n
  induction n with
  | zero => intro h2; omega
  | succ n ih =>
    intro h2
    rw [cpF, mm_i_pi]
    by_cases e : k = n + 1
    · rw [if_pos ⟨rfl, e⟩, e]
    · rw [if_neg (by omega)]; exact ih (by omega)
theorem cpH_a (k : Nat) (h1 : 1 ≤ k) (h2 : k ≤ 15) : mm_i (cpH h a b) a k = mm_i h b k := cpF_a k h1 15 h2
theorem c85z (ha : (mm_s h a).1 = 6) (hb : (mm_s h b).1 = 6) (hab : ¬ b = a) : mm_wp d 85 0 [.ref a, .ref b] [] h Q ↔ Q (.inl none) (cpH h a b) := by
  simp only [s85_0, s85_1, s85_1o, s85_1n, s85_2, s85_5, s85_8, s85_9, s85_9o, s85_9n, s85_10, s85_13, s85_16, s85_17, s85_17o, s85_17n, s85_18, s85_21, s85_24, s85_25, s85_25o, s85_25n, s85_26, s85_29, s85_32, s85_33, s85_33o, s85_33n, s85_34, s85_37, s85_40, s85_41, s85_41o, s85_41n, s85_42, s85_45, s85_48, s85_49, s85_49o, s85_49n, s85_50, s85_53, s85_56, s85_57, s85_57o, s85_57n, s85_58, s85_61, s85_64, s85_65, s85_65o, s85_65n, s85_66, s85_69, s85_72, s85_73, s85_73o, s85_73n, s85_74, s85_77, s85_80, s85_81, s85_81o, s85_81n, s85_82, s85_85, s85_88, s85_89, s85_89o, s85_89n, s85_90, s85_93, s85_96, s85_97, s85_97o, s85_97n, s85_98, s85_101, s85_104, s85_105, s85_105o, s85_105n, s85_106, s85_109, s85_112, s85_113, s85_113o, s85_113n, s85_114, s85_117, s85_120, or_true, true_or, true_and, and_true, mm_o_some, mm_o_none, mm_bk_v, mm_bk_n, Nat.reduceAdd, mm_s_pi, mm_i_pi, ha, hb, hab, false_and, if_false, cpH, cpF]
theorem cpL_s : ∀ n i h, mm_s (cpL r s h i n) = mm_s h ∧ mm_r (cpL r s h i n) = mm_r h ∧ mm_l (cpL r s h i n) = mm_l h ∧ mm_n (cpL r s h i n) = mm_n h ∧ mm_z (cpL r s h i n) = mm_z h := by
  intro n
  induction n with
  | zero => intro i h; rw [cpL_0]; exact ⟨rfl, rfl, rfl, rfl, rfl⟩
  | succ n ih =>
    intro i h
    rw [cpL_1]
    obtain ⟨h1, h2, h3, h4, h5⟩ := ih (i + 1) (cpH h (r + 2 + i) (s + 2 + i))
    obtain ⟨g1, g2, g3, g4, g5⟩ := cpH_s (h := h) (a := r + 2 + i) (b := s + 2 + i)
    exact ⟨h1.trans g1, h2.trans g2, h3.trans g3, h4.trans g4, h5.trans g5⟩
theorem cpL_o : ∀ n i h c k, (k = 0 ∨ 15 < k ∨ c < r + 2 + i ∨ r + 2 + i + n ≤ c) → mm_i (cpL r s h i n) c k = mm_i h c k := by
  intro n
  induction n with
  | zero => intro i h c k _; rw [cpL_0]
  | succ n ih =>
    intro i h c k hc
    rw [cpL_1, ih (i + 1) _ c k (by omega), cpH_o c k (by omega)]
theorem cpL_a (hrs : s + 10 ≤ r) : ∀ n i h j k, i ≤ j → j < i + n → i + n ≤ 8 → 1 ≤ k → k ≤ 15 → mm_i (cpL r s h i n) (r + 2 + j) k = mm_i h (s + 2 + j) k := by
  intro n
  induction n with
  | zero => intro i h j k h1 h2; omega
  | succ n ih =>
    intro i h j k h1 h2 h8 k1 k2
    rw [cpL_1]
    by_cases e : j = i
    · subst e
      rw [cpL_o n (j + 1) _ (r + 2 + j) k (by omega), cpH_a k k1 k2]
    · rw [ih (i + 1) _ j k (by omega) (by omega) (by omega) k1 k2, cpH_o _ k (by omega)]
theorem c84_loop (hL : L ≤ 8) (hrs : s + 10 ≤ r) : ∀ n i h, i + n = L → zSk h r → zSk h s → mm_i h s 1 = nI L → (mm_wp (d + 1) 84 2 [.ref r, .ref s, .int (nI i)] [] h Q ↔ mm_wp (d + 1) 84 31 [.ref r, .ref s, .int (nI L)] [] (cpL r s h i n) Q) := by
  intro n
  induction n with
  | zero =>
    intro i h hi hr hs h5
    have e : nI L ≤ nI i := by rw [show i = L by omega]; exact Int32.le_refl _
    rw [s84_2]
    simp only [s84_0, s84_1, s84_3, s84_3o, s84_3n, s84_4, s84_7, s84_10, s84_11, s84_14, s84_15, s84_16, s84_16o, s84_16n, s84_17, s84_20, s84_21, s84_22, s84_25, s84_28, or_true, true_or, true_and, and_true, mm_o_some, mm_o_none, mm_bk_v, mm_bk_n, Nat.reduceAdd, hs.1, h5, if_pos e, cpL_0]
    rw [show i = L by omega]
  | succ n ih =>
    intro i h hi hr hs h5
    obtain ⟨h1, h2, h3, h4⟩ := hr
    obtain ⟨g1, g2, g3, g4⟩ := hs
    have e : ¬ nI L ≤ nI i := nI_ge (by omega) (by omega)
    have hin : mm_in (nI i) 8 = true := mm_inN (by omega) (by omega)
    have hcl : (nI i).toNatClampNeg = i := nI_clamp (by omega)
    obtain ⟨p1, p2⟩ := h4 i (by omega)
    obtain ⟨q1, q2⟩ := g4 i (by omega)
    rw [s84_2]
    simp only [s84_0, s84_1, s84_3, s84_3o, s84_3n, s84_4, s84_7, s84_10, s84_11, s84_14, s84_15, s84_16, s84_16o, s84_16n, s84_17, s84_20, s84_21, s84_22, s84_25, s84_28, or_true, true_or, true_and, and_true, mm_o_some, mm_o_none, mm_bk_v, mm_bk_n, Nat.reduceAdd, h1, h2, h3, g1, g2, g3, h5, if_neg e, hin, hcl, p1, p2, q1, q2, Nat.reduceLeDiff, nI_1, c85z p2 q2 (show ¬ s + 2 + i = r + 2 + i by omega), cpL_1]
    exact ih (i + 1) (cpH h (r + 2 + i) (s + 2 + i)) (by omega) (zSk.of ⟨h1, h2, h3, h4⟩ cpH_s.1 cpH_s.2.1) (zSk.of ⟨g1, g2, g3, g4⟩ cpH_s.1 cpH_s.2.1) (by rw [cpH_o s 1 (by omega)]; exact h5)
theorem c84z (hS : zRv h s L R) (hr : zSk h r) (hrs : s + 10 ≤ r) (j2 : Value) (H : ∀ h', zRv h' r L R → mm_n h' = mm_n h → mm_z h' = mm_z h → mm_s h' = mm_s h → mm_r h' = mm_r h → (∀ a k, (a < r ∨ r + 10 ≤ a ∨ ¬ a = r ∧ k = 0) → mm_i h' a k = mm_i h a k) → (∀ a k, ¬ a = r → mm_l h' a k = mm_l h a k) → Q (.inl none) h') : mm_wp (d + 1) 84 0 [.ref r, .ref s, j2] [] h Q := by
  obtain ⟨⟨hs, hL, h5, h7⟩, hv, hm⟩ := hS
  have lp := c84_loop (d := d) (Q := Q) hL hrs L 0 h (by omega) hr hs h5
  rw [nI_0] at lp
  rw [s84_0, s84_1, lp]
  obtain ⟨c1, c2, c3, c4, c5⟩ := cpL_s (r := r) (s := s) L 0 h
  have i1 : mm_i (cpL r s h 0 L) s 1 = nI L := by rw [cpL_o L 0 h s 1 (by omega)]; exact h5
  have i2 : mm_i (cpL r s h 0 L) s 2 = zI (zVol L R) := by rw [cpL_o L 0 h s 2 (by omega)]; exact hv
  have i3 : mm_l (cpL r s h 0 L) s 3 = zL (zMom L R) := by rw [c3]; exact hm
  have hsr : ¬ s = r := by omega
  simp only [s84_0, s84_1, s84_3, s84_3o, s84_3n, s84_4, s84_7, s84_10, s84_11, s84_14, s84_15, s84_16, s84_16o, s84_16n, s84_17, s84_20, s84_21, s84_22, s84_25, s84_28, s84_31, s84_32, s84_32o, s84_32n, s84_33, s84_36, s84_39, s84_40, s84_40o, s84_40n, s84_41, s84_44, s84_47, s84_48, s84_48o, s84_48n, s84_49, s84_52, s84_55, or_true, true_or, true_and, and_true, mm_o_some, mm_o_none, mm_bk_v, mm_bk_n, Nat.reduceAdd, mm_s_pi, mm_i_pi, mm_l_pi, c1, hr.1, hs.1, hsr, false_and, if_false, i1, i2, i3]
  refine H _ ⟨⟨hr.of (by rw [mm_s_pl, mm_s_pi, mm_s_pi, c1]) (by rw [mm_r_pl, mm_r_pi, mm_r_pi, c2]), hL, ?_, fun i hi => ⟨?_, fun k k1 k2 => ?_⟩⟩, ?_, ?_⟩ ?_ ?_ ?_ ?_ ?_ ?_
  · rw [mm_i_pl, mm_i_pi, if_neg (by omega), mm_i_pi, if_pos ⟨rfl, rfl⟩]
  · rw [mm_s_pl, mm_s_pi, mm_s_pi, c1]
    exact (hr.2.2.2 i (by omega)).2
  · rw [mm_i_pl, mm_i_pi, if_neg (by omega), mm_i_pi, if_neg (by omega), cpL_a hrs L 0 h i k (by omega) (by omega) (by omega) k1 k2]
    exact (h7 i hi).2 k k1 k2
  · rw [mm_i_pl, mm_i_pi, if_pos ⟨rfl, rfl⟩]
  · rw [mm_l_pl, if_pos ⟨rfl, rfl⟩]
  · rw [mm_n_pl, mm_n_pi, mm_n_pi, c4]
  · rw [mm_z_pl, mm_z_pi, mm_z_pi, c5]
  · rw [mm_s_pl, mm_s_pi, mm_s_pi, c1]
  · rw [mm_r_pl, mm_r_pi, mm_r_pi, c2]
  · intro a k ha
    rw [mm_i_pl, mm_i_pi, if_neg (by omega), mm_i_pi, if_neg (by omega), cpL_o L 0 h a k (by omega)]
  · intro a k ha
    rw [mm_l_pl, if_neg (by omega), mm_l_pi, mm_l_pi, c3]
end
