/-! THE REFERENCE: LOADS -/
section
variable {d : Nat} {h h' : mm_H} {Q : mm_Q} {L n a b q t u i r e j k na bL told p : Nat} {W A : Nat → Int} {m mk : Int} {pt : Int} {ax : Nat} {R bR : zR} {P : Nat → Nat → Int} {sp : Bool} {T : Nat → Prop} {x2 x3 x4 : Int32} {l : List Int} {c : Nat} {h'' : mm_H} {s : zS} {x : Int32} {y z v w : Int} {C : Nat → Int}
/-- the best row's pieces are pieces -/
theorem zGo_p {f : Nat} : ∀ f L R s, zRP P n L R → zRP P n s.2.2.1 s.2.2.2.1 → zRP P n (zGo told W n P f L R s).2.2.1 (zGo told W n P f L R s).2.2.2.1 := by
  intro f
  induction f with
  | zero => intro L R s _ h; exact h
  | succ f ih =>
    intro L R s hR hs
    simp only [zGo]
    refine zFold_q (I := fun s => zRP P n s.2.2.1 s.2.2.2.1) _ _ (fun C hc s hs => ?_) hs
    obtain ⟨p, t, hp, ht, _, _, hc⟩ := zLv_mem hc
    obtain ⟨x, y, z, _, _, _, rfl⟩ := zPl_mem hc
    simp only [zTry]
    split
    · exact hs
    · split
      · split
        · exact hs
        · refine ih _ _ _ (zRP_push hR hp ht) ?_
          simp only [zCmp]
          split
          · exact zRP_push hR hp ht
          · exact hs
      · exact hs
theorem zG1_eq {g : Nat} : ∀ k, (∀ i, g < i → i ≤ k → m < 2 * A i) → (g = 0 ∨ 2 * A g ≤ m) → g ≤ k → zG1 A m k = g := by
  intro k
  induction k with
  | zero => intro _ _ h; simp only [zG1]; omega
  | succ k ih =>
    intro h1 h2 h3
    simp only [zG1]
    by_cases e : g = k + 1
    · subst e
      rw [if_pos (h2.resolve_left (by omega))]
    · rw [if_neg (by have := h1 (k + 1) (by omega) (by omega); omega)]
      exact ih (fun i i1 i2 => h1 i i1 (by omega)) h2 (by omega)
theorem zA_mono (hA : zAok na A) : ∀ k i, i + k < na → A i ≤ A (i + k) := by
  intro k
  induction k with
  | zero => intro i _; exact Int.le_refl _
  | succ k ih =>
    intro i hi
    have h1 := ih i (by omega)
    have h2 := hA.2.2 (i + k) (by omega)
    rw [show i + (k + 1) = i + k + 1 by omega]
    omega
theorem c147_loop (H : zMo h W n P mk sp bL bR na A) (hA : zAok na A) (hm : zr m) (h2 : 2 ≤ na) : ∀ k g, g + k = na - 2 → (g = 0 ∨ 2 * A g ≤ m) → (mm_wp d 147 2 [.ref 142, .int (zI m), .int (nI g)] [] h Q ↔ Q (.inl (some (.int (nI (zG1 A m (na - 2)))))) h) := by
  have ha := hA.1
  have e31 := H.2.2.2.2.2.2.1
  have ax := H.2.2.2.2.2.2.2
  have e2 : nI na - (2 : Int32) = nI (na - 2) := by rw [show (2 : Int32) = nI 2 from rfl, nI_sub h2]
  have e2' : nI na - zI 2 = nI (na - 2) := e2
  intro k
  induction k with
  | zero =>
    intro g hg hq
    obtain rfl : g = na - 2 := by omega
    rw [s147_2]
    simp only [s147_3, s147_4, s147_7, s147_8, s147_9, s147_12, s147_13, s147_14, s147_15, s147_18, s147_19, s147_20, s147_21, s147_22, s147_23, s147_26, s147_29, s147_32, s147_33, or_true, true_or, true_and, and_true, mm_o_some, mm_o_none, mm_bk_v, mm_bk_n, Nat.reduceAdd, kS142 H.1, e31, e2, if_pos (Int32.le_refl (nI (na - 2)))]
    rw [zG1_eq (g := na - 2) (na - 2) (fun i i1 i2 => by omega) hq (Nat.le_refl _)]
  | succ k ih =>
    intro g hg hq
    have c : ¬ nI (na - 2) ≤ nI g := nI_ge (by omega) (by omega)
    have hin : mm_in (nI (g + 1)) 6 = true := mm_inN (by omega) (by omega)
    have hcl : (nI (g + 1)).toNatClampNeg = g + 1 := nI_clamp (by omega)
    have ai := hA.2.1 (g + 1) (by omega)
    have r1 : zr (2 * A (g + 1)) := by simp only [zr]; omega
    rw [s147_2]
    simp only [s147_3, s147_4, s147_7, s147_8, s147_9, s147_12, s147_13, s147_14, s147_15, s147_18, s147_19, s147_20, s147_21, s147_22, s147_23, s147_26, s147_29, s147_32, s147_33, or_true, true_or, true_and, and_true, mm_o_some, mm_o_none, mm_bk_v, mm_bk_n, Nat.reduceAdd, kS142 H.1, e31, e2', if_neg c, kR142_32 H.1, kS165 H.1, nI_1, hin, hcl, ax (g + 1) (by omega), zI_2, zI_mul, zI_lt hm r1]
    by_cases q : m < 2 * A (g + 1)
    · rw [if_pos q, zG1_eq (g := g) (na - 2) (fun i i1 i2 => ?_) hq (by omega)]
      have := zA_mono hA (i - (g + 1)) (g + 1) (by omega)
      rw [show g + 1 + (i - (g + 1)) = i by omega] at this
      omega
    · rw [if_neg q]
      exact ih (g + 1) (by omega) (Or.inr (by omega))
theorem c147z (H : zMo h W n P mk sp bL bR na A) (hA : zAok na A) (hm : zr m) (h0 : 0 < na) (v2 : Value) : mm_wp d 147 0 [.ref 142, .int (zI m), v2] [] h Q ↔ Q (.inl (some (.int (nI (zG1 A m (na - 2)))))) h := by
  simp only [s147_0, s147_1]
  by_cases g : na = 1
  · subst g
    have e31 := H.2.2.2.2.2.2.1
    have c : nI 1 - (2 : Int32) ≤ 0 := by decide
    rw [s147_2]
    simp only [s147_3, s147_4, s147_7, s147_8, s147_9, s147_12, s147_13, s147_14, s147_15, s147_18, s147_19, s147_20, s147_21, s147_22, s147_23, s147_26, s147_29, s147_32, s147_33, or_true, true_or, true_and, and_true, mm_o_some, mm_o_none, mm_bk_v, mm_bk_n, Nat.reduceAdd, kS142 H.1, e31, if_pos c]
    exact Iff.rfl
  · have := c147_loop (d := d) (Q := Q) H hA hm (by omega) (na - 2) 0 (by omega) (Or.inl rfl)
    rw [nI_lit0] at this
    exact this
theorem c148_loop : ∀ b a : Nat, b < 2 ^ 62 → a < 2 ^ 62 → ∀ l0 l1 l2 l3 l8 l9 : Value, (mm_wp d 148 17 [l0, l1, l2, l3, .long (zL a), mm_j, .long (zL b), mm_j, l8, l9] [] h Q ↔ Q (.inl (some (.long (zL (Nat.gcd a b : Nat))))) h) := by
  intro b
  induction b using Nat.strongRecOn with
  | ind b ih =>
    intro a hb ha l0 l1 l2 l3 l8 l9
    rw [s148_17]
    simp only [s148_19, s148_20, s148_21, s148_24, s148_26, s148_28, s148_29, s148_31, s148_33, s148_35, s148_37, s148_39, s148_42, s148_44, or_true, true_or, true_and, and_true, mm_o_some, mm_o_none, mm_bk_v, mm_bk_n, Nat.reduceAdd]
    by_cases e : b = 0
    · subst e
      rw [if_pos (lcmp_0.mpr (show zL ((0 : Nat) : Int) = 0 from rfl)), Nat.gcd_zero_right]
    · have h0 : 0 < b := by omega
      have ne : ¬ zL (b : Int) = 0 := fun q => by rw [zL_n0 hb] at q; omega
      have hr := Nat.mod_lt a h0
      rw [if_neg (fun q => ne (lcmp_0.mp q)), zL_rem ha h0 hb, Nat.gcd_comm a b, Nat.gcd_rec b a, Nat.gcd_comm (a % b) b]
      rw [ih (a % b) hr b (by omega) hb]
      exact ⟨fun q => q.2, fun q => ⟨ne, q⟩⟩
theorem c148z {a b : Int} (ha : -960000000000 ≤ a ∧ a ≤ 960000000000) (hb : 1 ≤ b ∧ b ≤ 4000000) (v4 v5 v6 v7 v8 v9 : Value) : mm_wp d 148 0 [.long (zL a), mm_j, .long (zL b), mm_j, v4, v5, v6, v7, v8, v9] [] h Q ↔ Q (.inl (some (.long (zL (Nat.gcd a.natAbs b.natAbs : Nat))))) h := by
  have eb : zL b = zL (b.natAbs : Nat) := by rw [show ((b.natAbs : Nat) : Int) = b by omega]
  have lp : ∀ (Q : mm_Q) (l0 l1 l2 l3 l8 l9 : Value), mm_wp d 148 17 [l0, l1, l2, l3, .long (zL (a.natAbs : Nat)), mm_j, .long (zL b), mm_j, l8, l9] [] h Q ↔ Q (.inl (some (.long (zL (Nat.gcd a.natAbs b.natAbs : Nat))))) h := by
    intro Q l0 l1 l2 l3 l8 l9
    rw [eb]
    exact c148_loop b.natAbs a.natAbs (by omega) (by omega) l0 l1 l2 l3 l8 l9
  have e0 : (0 : Int64) = zL 0 := rfl
  by_cases g : a < 0
  · have c1 : ¬ zL 0 < zL a := by rw [zL_lt (by omega) (by omega)]; omega
    have c2 : ¬ zL a = zL 0 := by rw [zL_eq (by omega) (by omega)]; omega
    have c3 : ¬ (0 : Int32) ≤ -1 := by decide
    have e1 : -zL a = zL (a.natAbs : Nat) := by
      rw [show ((a.natAbs : Nat) : Int) = -a by omega, zL, zL, Int64.ofInt_neg]
    simp only [s148_0, s148_1, s148_2, s148_3, s148_6, s148_7, s148_8, s148_11, s148_12, s148_14, s148_15, or_true, true_or, true_and, and_true, mm_o_some, mm_o_none, mm_bk_v, mm_bk_n, Nat.reduceAdd, e0, if_neg c1, if_neg c2, if_neg c3, e1, lp]
  · have e1 : zL a = zL (a.natAbs : Nat) := by rw [show ((a.natAbs : Nat) : Int) = a by omega]
    by_cases g2 : a = 0
    · subst g2
      simp only [s148_0, s148_1, s148_2, s148_3, s148_6, s148_7, s148_8, s148_11, s148_12, s148_14, s148_15, or_true, true_or, true_and, and_true, mm_o_some, mm_o_none, mm_bk_v, mm_bk_n, Nat.reduceAdd, e0]
      exact lp Q _ _ _ _ _ _
    · have c1 : zL 0 < zL a := by rw [zL_lt (by omega) (by omega)]; omega
      have c3 : (0 : Int32) ≤ 1 := by decide
      simp only [s148_0, s148_1, s148_2, s148_3, s148_6, s148_7, s148_8, s148_11, s148_12, s148_14, s148_15, or_true, true_or, true_and, and_true, mm_o_some, mm_o_none, mm_bk_v, mm_bk_n, Nat.reduceAdd, e0, if_pos c1, if_pos c3]
      rw [e1]
      exact lp Q _ _ _ _ _ _
theorem c146x (H : zMo h W n P mk sp bL bR na A) (h0 : na = 0) (w3 w4 w5 w6 w7 w8 w9 w10 w11 w12 w13 w14 w15 w16 : Value) : mm_wp (d + 1) 146 0 [.ref 142, .int x, .int x2, w3, w4, w5, w6, w7, w8, w9, w10, w11, w12, w13, w14, w15, w16] [] h Q ↔ Q (.inl (some (.long 0))) (mm_pi h 142 0 1) := by
  have c : nI na = 0 := by rw [h0]; rfl
  simp only [s146_0, s146_1, s146_2, s146_5, s146_8, s146_9, s146_12, s146_13, s146_14, s146_15, s146_18, s146_19, s146_20, s146_23, s146_26, s146_27, s146_30, s146_31, s146_32, s146_33, s146_36, s146_39, s146_40, s146_43, s146_44, s146_47, s146_48, s146_51, s146_54, s146_55, or_true, true_or, true_and, and_true, mm_o_some, mm_o_none, mm_bk_v, mm_bk_n, Nat.reduceAdd, kS142 H.1, H.2.2.2.2.2.2.1, if_pos c, mm_s_pi, th0, if_neg (show ¬ (1 : Int32) ≤ 0 by decide)]
theorem c146y (H : zMo h W n P mk sp bL bR na A) (h0 : 0 < na) (ha : na ≤ 6) (hx : x < 0 ∨ (¬ x < 0 ∧ ¬ x < nI na)) (w3 w4 w5 w6 w7 w8 w9 w10 w11 w12 w13 w14 w15 w16 : Value) : mm_wp (d + 1) 146 0 [.ref 142, .int x, .int x2, w3, w4, w5, w6, w7, w8, w9, w10, w11, w12, w13, w14, w15, w16] [] h Q ↔ Q (.inl (some (.long 0))) (mm_pi h 142 0 2) := by
  have c : ¬ nI na = 0 := nI_ne0 h0 (by omega)
  have g : ¬ (0 ≤ x.toInt ∧ x.toInt ≤ (na : Int) - 1) := by
    rcases hx with q | ⟨_, q⟩
    · rw [Int32.lt_iff_toInt_lt, i32_0] at q; omega
    · rw [Int32.lt_iff_toInt_lt, nI_toInt (by omega)] at q; omega
  simp only [s146_0, s146_1, s146_2, s146_5, s146_8, s146_9, s146_12, s146_13, s146_14, s146_15, s146_18, s146_19, s146_20, s146_23, s146_26, s146_27, s146_30, s146_31, s146_32, s146_33, s146_36, s146_39, s146_40, s146_43, s146_44, s146_47, s146_48, s146_51, s146_54, s146_55, or_true, true_or, true_and, and_true, mm_o_some, mm_o_none, mm_bk_v, mm_bk_n, Nat.reduceAdd, kS142 H.1, H.2.2.2.2.2.2.1, if_neg c, c112, i32_0, nI_tp (show na ≤ 8 by omega), if_neg g, if_true, mm_s_pi, th0, if_neg (show ¬ (2 : Int32) ≤ 0 by decide)]
theorem c146w (H : zMo h W n P mk sp bL bR na A) (ha : na ≤ 6) (hj : j < na) (hx : ¬ (0 ≤ x2.toInt ∧ x2.toInt ≤ 1)) (w3 w4 w5 w6 w7 w8 w9 w10 w11 w12 w13 w14 w15 w16 : Value) : mm_wp (d + 1) 146 0 [.ref 142, .int (nI j), .int x2, w3, w4, w5, w6, w7, w8, w9, w10, w11, w12, w13, w14, w15, w16] [] h Q ↔ Q (.inl (some (.long 0))) (mm_pi h 142 0 3) := by
  have c : ¬ nI na = 0 := nI_ne0 (by omega) (by omega)
  have g : 0 ≤ (nI j).toInt ∧ (nI j).toInt ≤ (na : Int) - 1 := by rw [nI_toInt (by omega)]; omega
  simp only [s146_0, s146_1, s146_2, s146_5, s146_8, s146_9, s146_12, s146_13, s146_14, s146_15, s146_18, s146_19, s146_20, s146_23, s146_26, s146_27, s146_30, s146_31, s146_32, s146_33, s146_36, s146_39, s146_40, s146_43, s146_44, s146_47, s146_48, s146_51, s146_54, s146_55, or_true, true_or, true_and, and_true, mm_o_some, mm_o_none, mm_bk_v, mm_bk_n, Nat.reduceAdd, kS142 H.1, H.2.2.2.2.2.2.1, if_neg c, c112, i32_0, i32_1, nI_tp (show na ≤ 8 by omega), if_pos g, if_neg n10, if_neg hx, if_true, mm_s_pi, th0, if_neg (show ¬ (3 : Int32) ≤ 0 by decide)]
theorem c146_loop (H : zMo h W n P mk sp bL bR na A) (hn : n ≤ 8) (hA : zAok na A) (hO : ∀ i, i < bL → zOk (bR i)) (hRP : zRP P n bL bR) (hj : j < na) (w11 w12 w13 w14 w15 w16 : Value) : ∀ k i, i + k = bL → ∀ w8 w9 w10 : Value, (∀ w7 w8 w9 w10 : Value, mm_wp (d + 1) 146 208 [.ref 142, .int (nI j), .int x2, .long (zL (zSB na A bR j bL)), mm_j, .long (zL (zSH na A bR j bL)), mm_j, w7, w8, w9, w10, w11, w12, w13, w14, w15, w16] [] h Q) → mm_wp (d + 1) 146 64 [.ref 142, .int (nI j), .int x2, .long (zL (zSB na A bR j i)), mm_j, .long (zL (zSH na A bR j i)), mm_j, .int (nI i), w8, w9, w10, w11, w12, w13, w14, w15, w16] [] h Q := by
  have hb := H.2.2.1.2.1
  have ha := hA.1
  have e31 := H.2.2.2.2.2.2.1
  have axp := H.2.2.2.2.2.2.2
  intro k
  induction k with
  | zero =>
    intro i hi w8 w9 w10 K
    obtain rfl : i = bL := by omega
    rw [s146_64]
    simp only [s146_66, s146_67, s146_70, or_true, true_or, true_and, and_true, mm_o_some, mm_o_none, mm_bk_v, mm_bk_n, Nat.reduceAdd, kS142 H.1, H.2.2.1.1, if_pos (Int32.le_refl (nI i))]
    exact K _ _ _ _
  | succ k ih =>
    intro i hi w8 w9 w10 K
    have hiL : i < bL := by omega
    have c : ¬ nI bL ≤ nI i := nI_ge hiL (by omega)
    have hin : mm_in (nI i) 8 = true := mm_inN (by omega) (by omega)
    have hcl : (nI i).toNatClampNeg = i := nI_clamp (by omega)
    obtain ⟨b1, b2, b3, b4⟩ := H.2.2.1.2.2.2.2 i hiL
    have s2 : mm_i h 162 (3 * i + 2) = zI (bR i 11) := (b3 2 (by decide)).1
    have l2 : mm_i h 163 (3 * i + 2) = zI (bR i 5) := (b3 2 (by decide)).2
    have hin2 : mm_in (nI (3 * i + 2)) 24 = true := mm_inN (by omega) (by omega)
    have hcl2 : (nI (3 * i + 2)).toNatClampNeg = 3 * i + 2 := nI_clamp (by omega)
    have n2 : ∀ a : Nat, nI a + zI 2 = nI (a + 2) := fun a => nI_add a 2
    obtain ⟨q, tq, qn, tq6, f1, f2, f9, f10, f11, f12, f13, f14⟩ := hRP i hiL
    have hinq : mm_in (zI (bR i 1)) 8 = true := by rw [f1, ← zI_n]; exact mm_inN (by omega) (by omega)
    have hclq : (zI (bR i 1)).toNatClampNeg = q := by rw [f1, ← zI_n]; exact nI_clamp (by omega)
    have ew : mm_i h 145 q = zI (bR i 12) := by rw [f12]; exact (H.2.1.2.2 q qn).2.1
    have o := hO i hiL
    have mr := zMd_r o
    have rm : zr (zMd (bR i)) := by simp only [zr]; omega
    have d1 : zr (bR i 12) := o.r 12 (by decide) (by decide)
    have em : zI (2 * bR i 5) + zI (bR i 11) = zI (zMd (bR i)) := by rw [zI_add]; rfl
    have hg := zG1_le (A := A) (m := zMd (bR i)) (na - 2)
    have eB : zSB na A bR j (i + 1) = zSB na A bR j i + (if 1 ≤ j ∧ zG1 A (zMd (bR i)) (na - 2) = j - 1 then bR i 12 * (zMd (bR i) - 2 * A (j - 1)) else 0) := rfl
    have eH : zSH na A bR j (i + 1) = zSH na A bR j i + (if na = 1 then bR i 12 else if j + 1 < na ∧ zG1 A (zMd (bR i)) (na - 2) = j then bR i 12 * (2 * A (j + 1) - zMd (bR i)) else 0) := rfl
    have ih' := fun w8 w9 w10 => ih (i + 1) (by omega) w8 w9 w10 K
    rw [eB, eH] at ih'
    rw [s146_64]
    simp only [s146_66, s146_67, s146_70, s146_73, s146_74, s146_77, s146_78, s146_81, s146_83, s146_84, s146_85, s146_87, s146_88, s146_89, s146_92, s146_93, s146_95, s146_96, s146_97, s146_98, s146_99, s146_100, s146_101, s146_104, s146_105, s146_107, s146_108, s146_109, s146_110, s146_111, s146_112, s146_114, s146_115, s146_117, s146_120, or_true, true_or, true_and, and_true, mm_o_some, mm_o_none, mm_bk_v, mm_bk_n, Nat.reduceAdd, kS142 H.1, H.2.2.1.1, if_neg c, kR142_4 H.1, kR142_26 H.1, kS160 H.1, kS145 H.1, hin, hcl, b1, hinq, hclq, ew, kR142_29 H.1, kR142_28 H.1, kS163 H.1, kS162 H.1, nI_3, n2, hin2, hcl2, s2, l2, zI_2, zI_mul, em, c147z H hA rm (show 0 < na by omega), e31]
    generalize zG1 A (zMd (bR i)) (na - 2) = g at *
    by_cases g0 : na = 1
    · have c1 : nI na = 1 := by rw [g0]; rfl
      rw [if_neg (show ¬ (1 ≤ j ∧ g = j - 1) by omega), if_pos g0, Int.add_zero] at ih'
      simp only [s146_122, s146_123, s146_126, s146_127, s146_130, s146_132, s146_134, s146_135, s146_136, s146_138, s146_141, s146_143, s146_144, s146_147, s146_149, s146_151, s146_152, s146_153, s146_154, s146_157, s146_159, s146_160, s146_161, s146_162, s146_163, s146_165, s146_166, s146_167, s146_168, s146_169, s146_171, s146_174, s146_176, s146_177, s146_178, s146_179, s146_182, s146_183, s146_185, s146_186, s146_188, s146_189, s146_190, s146_193, s146_195, s146_196, s146_197, s146_198, s146_199, s146_200, s146_201, s146_202, s146_205, or_true, true_or, true_and, and_true, mm_o_some, mm_o_none, mm_bk_v, mm_bk_n, Nat.reduceAdd, kS142 H.1, e31, if_pos c1, zI_l d1, zL_add, nI_1]
      exact ih' _ _ _
    · have c1 : ¬ nI na = 1 := by rw [← nI_lit1, nI_eq (by omega) (by omega)]; exact g0
      rw [if_neg g0] at ih'
      by_cases g1 : g = j
      · subst g1
        have hinj : mm_in (nI (g + 1)) 6 = true := mm_inN (by omega) (by omega)
        have hclj : (nI (g + 1)).toNatClampNeg = g + 1 := nI_clamp (by omega)
        have aj := hA.2.1 (g + 1) (by omega)
        have d2 : zr (2 * A (g + 1) - zMd (bR i)) := by simp only [zr]; omega
        rw [if_neg (show ¬ (1 ≤ g ∧ g = g - 1) by omega), if_pos (show g + 1 < na ∧ g = g by omega), Int.add_zero] at ih'
        simp only [s146_122, s146_123, s146_126, s146_127, s146_130, s146_132, s146_134, s146_135, s146_136, s146_138, s146_141, s146_143, s146_144, s146_147, s146_149, s146_151, s146_152, s146_153, s146_154, s146_157, s146_159, s146_160, s146_161, s146_162, s146_163, s146_165, s146_166, s146_167, s146_168, s146_169, s146_171, s146_174, s146_176, s146_177, s146_178, s146_179, s146_182, s146_183, s146_185, s146_186, s146_188, s146_189, s146_190, s146_193, s146_195, s146_196, s146_197, s146_198, s146_199, s146_200, s146_201, s146_202, s146_205, or_true, true_or, true_and, and_true, mm_o_some, mm_o_none, mm_bk_v, mm_bk_n, Nat.reduceAdd, kS142 H.1, e31, if_neg c1, if_true, kR142_32 H.1, kS165 H.1, nI_1, hinj, hclj, axp (g + 1) (by omega), zI_2, zI_mul, zI_sub, zI_l d1, zI_l d2, zL_mul, zL_add]
        exact ih' _ _ _
      · have c2 : ¬ nI g = nI j := by rw [nI_eq (by omega) (by omega)]; exact g1
        rw [if_neg (show ¬ (j + 1 < na ∧ g = j) from fun q => g1 q.2), Int.add_zero] at ih'
        by_cases gj : j = 0
        · subst gj
          have c3 : ¬ nI g = nI 0 - 1 := by
            rw [nI_0m]
            intro q
            have := congrArg Int32.toInt q
            rw [nI_toInt (by omega)] at this
            have e1 : (-1 : Int32).toInt = -1 := rfl
            omega
          rw [if_neg (show ¬ (1 ≤ 0 ∧ g = 0 - 1) by omega), Int.add_zero] at ih'
          simp only [s146_122, s146_123, s146_126, s146_127, s146_130, s146_132, s146_134, s146_135, s146_136, s146_138, s146_141, s146_143, s146_144, s146_147, s146_149, s146_151, s146_152, s146_153, s146_154, s146_157, s146_159, s146_160, s146_161, s146_162, s146_163, s146_165, s146_166, s146_167, s146_168, s146_169, s146_171, s146_174, s146_176, s146_177, s146_178, s146_179, s146_182, s146_183, s146_185, s146_186, s146_188, s146_189, s146_190, s146_193, s146_195, s146_196, s146_197, s146_198, s146_199, s146_200, s146_201, s146_202, s146_205, or_true, true_or, true_and, and_true, mm_o_some, mm_o_none, mm_bk_v, mm_bk_n, Nat.reduceAdd, kS142 H.1, e31, if_neg c1, if_neg c2, if_neg c3, nI_1]
          exact ih' _ _ _
        · by_cases g2 : g = j - 1
          · have hinj : mm_in (nI g) 6 = true := mm_inN (by omega) (by omega)
            have hclj : (nI g).toNatClampNeg = g := nI_clamp (by omega)
            have aj := hA.2.1 g (by omega)
            have d2 : zr (zMd (bR i) - 2 * A g) := by simp only [zr]; omega
            have c3 : nI g = nI j - 1 := by rw [nI_m1 (by omega), g2]
            rw [if_pos (show 1 ≤ j ∧ g = j - 1 from ⟨by omega, g2⟩), ← g2] at ih'
            simp only [s146_122, s146_123, s146_126, s146_127, s146_130, s146_132, s146_134, s146_135, s146_136, s146_138, s146_141, s146_143, s146_144, s146_147, s146_149, s146_151, s146_152, s146_153, s146_154, s146_157, s146_159, s146_160, s146_161, s146_162, s146_163, s146_165, s146_166, s146_167, s146_168, s146_169, s146_171, s146_174, s146_176, s146_177, s146_178, s146_179, s146_182, s146_183, s146_185, s146_186, s146_188, s146_189, s146_190, s146_193, s146_195, s146_196, s146_197, s146_198, s146_199, s146_200, s146_201, s146_202, s146_205, or_true, true_or, true_and, and_true, mm_o_some, mm_o_none, mm_bk_v, mm_bk_n, Nat.reduceAdd, kS142 H.1, e31, if_neg c1, if_neg c2, if_pos c3, kR142_32 H.1, kS165 H.1, hinj, hclj, axp g (by omega), zI_2, zI_mul, zI_sub, zI_l d1, zI_l d2, zL_mul, zL_add, nI_1]
            exact ih' _ _ _
          · have c3 : ¬ nI g = nI j - 1 := by rw [nI_m1 (by omega), nI_eq (by omega) (by omega)]; exact g2
            rw [if_neg (show ¬ (1 ≤ j ∧ g = j - 1) from fun q => g2 q.2), Int.add_zero] at ih'
            simp only [s146_122, s146_123, s146_126, s146_127, s146_130, s146_132, s146_134, s146_135, s146_136, s146_138, s146_141, s146_143, s146_144, s146_147, s146_149, s146_151, s146_152, s146_153, s146_154, s146_157, s146_159, s146_160, s146_161, s146_162, s146_163, s146_165, s146_166, s146_167, s146_168, s146_169, s146_171, s146_174, s146_176, s146_177, s146_178, s146_179, s146_182, s146_183, s146_185, s146_186, s146_188, s146_189, s146_190, s146_193, s146_195, s146_196, s146_197, s146_198, s146_199, s146_200, s146_201, s146_202, s146_205, or_true, true_or, true_and, and_true, mm_o_some, mm_o_none, mm_bk_v, mm_bk_n, Nat.reduceAdd, kS142 H.1, e31, if_neg c1, if_neg c2, if_neg c3, nI_1]
            exact ih' _ _ _
theorem c146z (H : zMo h W n P mk sp bL bR na A) (hn : n ≤ 8) (hA : zAok na A) (hO : ∀ i, i < bL → zOk (bR i)) (hRP : zRP P n bL bR) (hj : j < na) (hx : 0 ≤ x2.toInt ∧ x2.toInt ≤ 1) (w3 w4 w5 w6 w7 w8 w9 w10 w11 w12 w13 w14 w15 w16 : Value) (K : Q (.inl (some (.long (zLoad na A bL bR j x2.toInt)))) (mm_pi h 142 0 0)) : mm_wp (d + 1) 146 0 [.ref 142, .int (nI j), .int x2, w3, w4, w5, w6, w7, w8, w9, w10, w11, w12, w13, w14, w15, w16] [] h Q := by
  have ha := hA.1
  have hb := H.2.2.1.2.1
  have c : ¬ nI na = 0 := nI_ne0 (by omega) (by omega)
  have g : 0 ≤ (nI j).toInt ∧ (nI j).toInt ≤ (na : Int) - 1 := by rw [nI_toInt (by omega)]; omega
  have H0 := H.th (v := 0)
  simp only [s146_0, s146_1, s146_2, s146_5, s146_8, s146_9, s146_12, s146_13, s146_14, s146_15, s146_18, s146_19, s146_20, s146_23, s146_26, s146_27, s146_30, s146_31, s146_32, s146_33, s146_36, s146_39, s146_40, s146_43, s146_44, s146_47, s146_48, s146_51, s146_54, s146_55, or_true, true_or, true_and, and_true, mm_o_some, mm_o_none, mm_bk_v, mm_bk_n, Nat.reduceAdd, kS142 H.1, H.2.2.2.2.2.2.1, if_neg c, c112, i32_0, i32_1, nI_tp (show na ≤ 8 by omega), if_pos g, if_neg n10, if_pos hx, mm_s_pi, th0, if_pos (show (0 : Int32) ≤ 0 by decide)]
  generalize mm_pi h 142 0 0 = h0 at *
  have lp := c146_loop (d := d) (Q := Q) (x2 := x2) H0 hn hA hO hRP hj w11 w12 w13 w14 w15 w16 bL 0 (by omega)
  rw [nI_lit0, show zL (zSB na A bR j 0) = 0 from rfl, show zL (zSH na A bR j 0) = 0 from rfl] at lp
  simp only [s146_56, s146_57, s146_58, s146_59, s146_61, s146_62, or_true, true_or, true_and, and_true, mm_o_some, mm_o_none, mm_bk_v, mm_bk_n, Nat.reduceAdd]
  refine lp _ _ _ (fun w7 w8 w9 w10 => ?_)
  have e31 := H0.2.2.2.2.2.2.1
  have axp := H0.2.2.2.2.2.2.2
  have hinj : mm_in (nI j) 6 = true := mm_inN (by omega) (by omega)
  have hclj : (nI j).toNatClampNeg = j := nI_clamp (by omega)
  have aj := hA.2.1 j hj
  -- the gap before
  have s1 : ∀ (l7 l8 l9 l10 : Value), mm_wp (d + 1) 146 208 [.ref 142, .int (nI j), .int x2, .long (zL (zSB na A bR j bL)), mm_j, .long (zL (zSH na A bR j bL)), mm_j, l7, l8, l9, l10, w11, w12, w13, w14, w15, w16] [] h0 Q ↔ mm_wp (d + 1) 146 238 [.ref 142, .int (nI j), .int x2, .long (zL (zSB na A bR j bL)), mm_j, .long (zL (zSH na A bR j bL)), mm_j, .long (zL (zBe na A j)), mm_j, l9, l10, w11, w12, w13, w14, w15, w16] [] h0 Q := by
    intro l7 l8 l9 l10
    by_cases g0 : j = 0
    · have c0 : nI j = 0 := by rw [g0]; rfl
      simp only [s146_208, s146_209, s146_212, s146_213, s146_216, s146_219, s146_220, s146_223, s146_224, s146_225, s146_226, s146_229, s146_230, s146_231, s146_232, s146_233, s146_234, s146_235, s146_236, or_true, true_or, true_and, and_true, mm_o_some, mm_o_none, mm_bk_v, mm_bk_n, Nat.reduceAdd, if_pos c0, zBe, if_pos g0]
      exact Iff.rfl
    · have c0 : ¬ nI j = 0 := nI_ne0 (by omega) (by omega)
      have hinm : mm_in (nI (j - 1)) 6 = true := mm_inN (by omega) (by omega)
      have hclm : (nI (j - 1)).toNatClampNeg = j - 1 := nI_clamp (by omega)
      have am := hA.2.1 (j - 1) (by omega)
      have r1 : zr (A j - A (j - 1)) := by simp only [zr]; omega
      have eg : zBe na A j = 2 * (A j - A (j - 1)) := by rw [zBe, if_neg g0, zGp, if_pos (by omega), show j - 1 + 1 = j by omega]
      simp only [s146_208, s146_209, s146_212, s146_213, s146_216, s146_219, s146_220, s146_223, s146_224, s146_225, s146_226, s146_229, s146_230, s146_231, s146_232, s146_233, s146_234, s146_235, s146_236, or_true, true_or, true_and, and_true, mm_o_some, mm_o_none, mm_bk_v, mm_bk_n, Nat.reduceAdd, if_neg c0, kS142 H0.1, kR142_32 H0.1, kS165 H0.1, hinj, hclj, nI_m1 (show 0 < j by omega), hinm, hclm, axp j hj, axp (j - 1) (by omega), zI_sub, zI_l r1, show (2 : Int64) = zL 2 from rfl, zL_mul, eg]
  have s2 : ∀ (l9 l10 : Value), mm_wp (d + 1) 146 238 [.ref 142, .int (nI j), .int x2, .long (zL (zSB na A bR j bL)), mm_j, .long (zL (zSH na A bR j bL)), mm_j, .long (zL (zBe na A j)), mm_j, l9, l10, w11, w12, w13, w14, w15, w16] [] h0 Q ↔ mm_wp (d + 1) 146 274 [.ref 142, .int (nI j), .int x2, .long (zL (zSB na A bR j bL)), mm_j, .long (zL (zSH na A bR j bL)), mm_j, .long (zL (zBe na A j)), mm_j, .long (zL (zGp na A j)), mm_j, w11, w12, w13, w14, w15, w16] [] h0 Q := by
    intro l9 l10
    by_cases g0 : j + 1 < na
    · have c0 : ¬ nI j = nI (na - 1) := by rw [nI_eq (by omega) (by omega)]; omega
      have hinm : mm_in (nI (j + 1)) 6 = true := mm_inN (by omega) (by omega)
      have hclm : (nI (j + 1)).toNatClampNeg = j + 1 := nI_clamp (by omega)
      have am := hA.2.1 (j + 1) (by omega)
      have r1 : zr (A (j + 1) - A j) := by simp only [zr]; omega
      have eg : zGp na A j = 2 * (A (j + 1) - A j) := by rw [zGp, if_pos g0]
      simp only [s146_238, s146_239, s146_240, s146_243, s146_244, s146_245, s146_248, s146_249, s146_252, s146_255, s146_256, s146_259, s146_260, s146_261, s146_262, s146_263, s146_264, s146_267, s146_268, s146_269, s146_270, s146_271, s146_272, or_true, true_or, true_and, and_true, mm_o_some, mm_o_none, mm_bk_v, mm_bk_n, Nat.reduceAdd, kS142 H0.1, e31, nI_m1 (show 0 < na by omega), if_neg c0, kR142_32 H0.1, kS165 H0.1, nI_1, hinm, hclm, hinj, hclj, axp j hj, axp (j + 1) g0, zI_sub, zI_l r1, show (2 : Int64) = zL 2 from rfl, zL_mul, eg]
    · have c0 : nI j = nI (na - 1) := by rw [show j = na - 1 by omega]
      have eg : zGp na A j = 1 := by rw [zGp, if_neg g0]
      simp only [s146_238, s146_239, s146_240, s146_243, s146_244, s146_245, s146_248, s146_249, s146_252, s146_255, s146_256, s146_259, s146_260, s146_261, s146_262, s146_263, s146_264, s146_267, s146_268, s146_269, s146_270, s146_271, s146_272, or_true, true_or, true_and, and_true, mm_o_some, mm_o_none, mm_bk_v, mm_bk_n, Nat.reduceAdd, kS142 H0.1, e31, nI_m1 (show 0 < na by omega), if_pos c0, eg]
      exact Iff.rfl
  rw [s1, s2]
  have ea : zSB na A bR j bL * zGp na A j + zSH na A bR j bL * zBe na A j = zAbv na A bL bR j := rfl
  have eb : zBe na A j * zGp na A j = zBlw na A j := rfl
  have ra := zAbv_r hA hb hO hj
  have rb := zBlw_r (j := j) hA
  have gp : 0 < Nat.gcd (zAbv na A bL bR j).natAbs (zBlw na A j).natAbs := Nat.gcd_pos_of_pos_right _ (by omega)
  have gl : Nat.gcd (zAbv na A bL bR j).natAbs (zBlw na A j).natAbs ≤ (zBlw na A j).natAbs := Nat.le_of_dvd (by omega) (Nat.gcd_dvd_right _ _)
  have ne : ¬ zL (Nat.gcd (zAbv na A bL bR j).natAbs (zBlw na A j).natAbs : Nat) = 0 := fun q => by rw [zL_n0 (by omega)] at q; omega
  rw [zLoad] at K
  have h01 : x2.toInt = 0 ∨ x2.toInt = 1 := by omega
  rcases h01 with q | q
  · have c0 : x2 = 0 := by rw [← zI_x x2, q]; rfl
    rw [if_pos q] at K
    simp only [s146_274, s146_275, s146_277, s146_278, s146_280, s146_282, s146_283, s146_284, s146_286, s146_288, s146_290, s146_291, s146_293, s146_295, s146_297, s146_300, s146_302, s146_303, s146_306, s146_308, s146_310, s146_311, s146_314, s146_316, s146_318, s146_319, or_true, true_or, true_and, and_true, mm_o_some, mm_o_none, mm_bk_v, mm_bk_n, Nat.reduceAdd, zL_mul, zL_add, ea, eb, c148z ra rb, if_pos c0, ne, not_false_eq_true]
    exact K
  · have c0 : ¬ x2 = 0 := fun e => by rw [e] at q; exact absurd q (by decide)
    rw [if_neg (by omega)] at K
    simp only [s146_274, s146_275, s146_277, s146_278, s146_280, s146_282, s146_283, s146_284, s146_286, s146_288, s146_290, s146_291, s146_293, s146_295, s146_297, s146_300, s146_302, s146_303, s146_306, s146_308, s146_310, s146_311, s146_314, s146_316, s146_318, s146_319, or_true, true_or, true_and, and_true, mm_o_some, mm_o_none, mm_bk_v, mm_bk_n, Nat.reduceAdd, zL_mul, zL_add, ea, eb, c148z ra rb, if_neg c0, ne, not_false_eq_true]
    exact K
end
