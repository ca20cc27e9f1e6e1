/-! TRYING FLOORS -/
section
variable {d : Nat} {h h' : mm_H} {Q : mm_Q} {L n told p t a u v f i : Nat} {R : zR} {W A A' : Nat → Int} {P : Nat → Nat → Int} {s s' : zS} {G : Nat → zR → zS → zS} {S T : Nat → Prop} {x y z lf rt bk fw ls : Int}
/-- the floors of a level -/
def zFls (h : mm_H) (W : Nat → Int) (L : Nat) (R : zR) : Prop := zFl0 h (76 + 8 * L) W ∧ ∀ k, 1 ≤ k → k < (zEnds R 7 L).length → zFlo h (76 + (8 * L + k)) ((zEnds R 7 L).getD k 0) R L
theorem zFls.fr (H : zFls h W L R) (F : zFr (zT (L + 1)) h h') (h8 : L < 8) : zFls h' W L R := by
  refine ⟨?_, fun k k1 k2 => (H.2 k k1 k2).fr F ?_⟩
  · simp only [zFl0, F.i (show ¬ zT (L + 1) (76 + 8 * L) by simp only [zT]; omega)]
    exact H.1
  · have := (zEnds_len R 7 L).2
    simp only [zT]
    omega
theorem zFl_at (hI : zInv W L R) (hW : zWok W) (hF : zFls h W L R) (hK : zSK h) (h8 : L < 8) (hi : i < (zEnds R 7 L).length) : ∃ ar lf rt bk fw, mm_i h (76 + (8 * L + i)) 1 = zI ar ∧ zFg h (76 + (8 * L + i)) ((zEnds R 7 L).getD i 0) lf rt bk fw ∧ (zr ar ∧ zr lf ∧ zr rt ∧ zr bk ∧ zr fw) ∧ ∀ C, zOk C → C 4 = (zEnds R 7 L).getD i 0 → (((zLh L R ≤ C 4 ∧ C 7 ≤ W 1 ∧ C 9 * C 11 ≤ ar) ∧ (max bk (zLd L R (C 4)) ≤ C 5 ∧ C 8 ≤ fw) ∧ lf ≤ C 3 ∧ C 6 ≤ rt) ∧ zAdm L R C = true ↔ (zInB W C && zAdm L R C) = true) := by
  have hl := (zEnds_len R 7 L).2
  have hs : (mm_s h (76 + (8 * L + i))).1 = 4 := by rw [kS_floor hK (i := 8 * L + i) (by omega)]
  have ht := zTops hI hi
  by_cases e : i = 0
  · obtain ⟨g0, g1, g2, g3, g4, g5⟩ := hF.1
    subst e
    rw [ht.1 rfl]
    simp only [Nat.add_zero] at hs ⊢
    have hm : 0 ≤ W 0 * W 2 ∧ W 0 * W 2 ≤ 200 * 200 := by
      simp only [zWok] at hW
      exact ⟨Int.mul_nonneg (by omega) (by omega), Int.mul_le_mul (by omega) (by omega) (by omega) (by omega)⟩
    refine ⟨W 0 * W 2, 0, W 0, 0, W 2, g1, ⟨hs, g0, g2, g3, g4, g5⟩, ?_, fun C oC hC => zPrune0 oC hC⟩
    simp only [zWok] at hW
    simp only [zr]
    omega
  · obtain ⟨y0, j, hj, ej⟩ := ht.2 (by omega)
    obtain ⟨g0, g1, g2⟩ := hF.2 i (by omega) hi
    obtain ⟨lf, rt, bk, fw, k2, k3, k4, k5, hb⟩ := g2 ⟨j, hj, ej⟩
    have ab := zFa_b (R := R) (y := (zEnds R 7 L).getD i 0) L hI.ok
    refine ⟨_, lf, rt, bk, fw, g1, ⟨hs, g0, k2, k3, k4, k5⟩, ?_, fun C oC hC => ?_⟩
    · obtain ⟨_, ⟨i1, b1, _, c1⟩, ⟨i2, b2, _, c2⟩, ⟨i3, b3, _, c3⟩, ⟨i4, b4, _, c4⟩⟩ := hb
      rw [c1, c2, c3, c4]
      refine ⟨by simp only [zr]; omega, (hI.ok i1 b1).r 3 (by decide) (by decide), (hI.ok i2 b2).r 6 (by decide) (by decide), (hI.ok i3 b3).r 5 (by decide) (by decide), (hI.ok i4 b4).r 8 (by decide) (by decide)⟩
    · rw [← hC] at hb ⊢
      exact zPrune hI oC (by rw [hC]; exact y0) hb
def zS3 (k : Nat) : Prop := ((¬ k = 3 ∧ ¬ k = 6) ∧ ¬ k = 5 ∧ ¬ k = 8) ∧ ¬ k = 4 ∧ ¬ k = 7
theorem c61_y (hn : n ≤ 8) (hI : zInv W L R) (ht : told ≤ 1000) (h8 : L < 8) (hW : zWok W) (hp : zPok (P p)) (p8 : p < 8) (t6 : t < 6)
    (hGq : ∀ R' s', zInv W (L + 1) R' → zSq told s' → zSq told (G (L + 1) R' s'))
    (IH : ∀ h1 R1 s1 Q1, zCS h1 W n P told (L + 1) R1 s1 → zInv W (L + 1) R1 → zSw s1 → s1.2.1 = false → s1.1 ≤ told → (∀ h2, zCS h2 W n P told (L + 1) R1 (G (L + 1) R1 s1) → zFr (zT (L + 1)) h1 h2 → Q1 (.inl none) h2) → mm_wp (d + 2) 52 0 [.ref 21, .int (nI (L + 1)), mm_j, mm_j, mm_j, mm_j, mm_j] [] h1 Q1) :
    ∀ m i h s (v4 : Value), i + m = (zEnds R 7 L).length → zCS h W n P told L R s → zSq told s → zPt zS3 h (24 + L) (zC P p t 0 0 0) → zFls h W L R →
      (∀ h', zCS h' W n P told L R (zFy G told W L R P p t ((zEnds R 7 L).drop i) s) → zSq told (zFy G told W L R P p t ((zEnds R 7 L).drop i) s) → zPt zS3 h' (24 + L) (zC P p t 0 0 0) → zFr (zT (L + 1)) h h' → Q (.inl none) h') →
      mm_wp (d + 5) 61 14 [.ref 21, .ref (24 + L), .int (nI (zEnds R 7 L).length), .int (nI i), v4] [] h Q := by
  intro m
  induction m with
  | zero =>
    intro i h s v4 hj hS hq hP hF H
    have c : nI (zEnds R 7 L).length ≤ nI i := by rw [show i = (zEnds R 7 L).length by omega]; exact Int32.le_refl _
    rw [s61_14]
    simp only [s61_0, s61_1, s61_4, s61_4o, s61_4n, s61_5, s61_8, s61_11, s61_12, s61_13, s61_15, s61_16, s61_19, s61_20, s61_23, s61_26, s61_27, s61_30, s61_30o, s61_30n, s61_31, s61_34, s61_36, s61_37, s61_38, s61_39, s61_40, s61_40o, s61_40n, s61_42, s61_42o, s61_42n, s61_43, s61_43o, s61_43n, s61_45, s61_48, s61_109, or_true, true_or, true_and, and_true, mm_o_some, mm_o_none, mm_bk_v, mm_bk_n, Nat.reduceAdd, if_pos c]
    rw [List.drop_of_length_le (by omega)] at H
    exact H h hS hq hP zFr.refl
  | succ m ih =>
    intro i h s v4 hj hS hq hP hF H
    have hS0 := hS
    obtain ⟨hK, hG, hRv, hBv, hEs, hNu, i8, i9, i10⟩ := hS
    have hl := (zEnds_len R 7 L).2
    have hjl : i < (zEnds R 7 L).length := by omega
    have c : ¬ nI (zEnds R 7 L).length ≤ nI i := nI_ge (by omega) (by omega)
    rw [s61_14]
    by_cases hsp : s.2.1 = true
    · have c2 : ¬ mm_i h 21 10 = 0 := by rw [i10, hsp]; decide
      simp only [s61_0, s61_1, s61_4, s61_4o, s61_4n, s61_5, s61_8, s61_11, s61_12, s61_13, s61_15, s61_16, s61_19, s61_20, s61_23, s61_26, s61_27, s61_30, s61_30o, s61_30n, s61_31, s61_34, s61_36, s61_37, s61_38, s61_39, s61_40, s61_40o, s61_40n, s61_42, s61_42o, s61_42n, s61_43, s61_43o, s61_43n, s61_45, s61_48, s61_109, or_true, true_or, true_and, and_true, mm_o_some, mm_o_none, mm_bk_v, mm_bk_n, Nat.reduceAdd, kS21 hK, if_neg c, if_neg c2]
      rw [zFy_sp hsp] at H
      exact H h hS0 hq hP zFr.refl
    · have hsp' : s.2.1 = false := by simpa using hsp
      have c2 : mm_i h 21 10 = 0 := by rw [i10, hsp']; rfl
      have hv : mm_i h (24 + L) 10 = zI (zH (P p) t) := hP.2 10 (by decide) (by decide) ⟨by decide, by decide⟩
      rw [drop_getD hjl, zFy, List.foldl_cons, ← zFy] at H
      have hym := getD_mem hjl
      have hyr := zEnds_w hI hW (k := 7) (by omega) (Nat.le_refl L) hym
      obtain ⟨ar, lf, rt, bk, fw, ea, hFg, ⟨ra, rl, rr, rb, rf⟩, PR⟩ := zFl_at hI hW hF hK h8 hjl
      have hin : mm_in (nI (8 * L + i)) 64 = true := mm_inN (by omega) (by omega)
      have hcl : (nI (8 * L + i)).toNatClampNeg = 8 * L + i := nI_clamp (by omega)
      have sF := kS_floor hK (i := 8 * L + i) (by omega)
      simp only [s61_0, s61_1, s61_4, s61_4o, s61_4n, s61_5, s61_8, s61_11, s61_12, s61_13, s61_15, s61_16, s61_19, s61_20, s61_23, s61_26, s61_27, s61_30, s61_30o, s61_30n, s61_31, s61_34, s61_36, s61_37, s61_38, s61_39, s61_40, s61_40o, s61_40n, s61_42, s61_42o, s61_42n, s61_43, s61_43o, s61_43n, s61_45, s61_48, s61_109, or_true, true_or, true_and, and_true, mm_o_some, mm_o_none, mm_bk_v, mm_bk_n, Nat.reduceAdd, kS21 hK, kR21_7 hK, kS75 hK, kS_slot hK h8, (hNu L h8).1, if_neg c, if_pos c2, nI_8, nI_add, hin, hcl, kR_floors hK (i := 8 * L + i) (by omega), sF, Nat.reduceLeDiff, hFg.2.1, c62z hP.1 hv]
      generalize (zEnds R 7 L).getD i 0 = y at *
      have wr := zW_r (t := t) hp
      have F1 : zFr (fun x => x = 24 + L) h (mm_pi (mm_pi h (24 + L) 4 (zI y)) (24 + L) 7 (zI (y + zH (P p) t))) := zFr.trans (T := fun x => x = 24 + L) (zFr.pi rfl) (zFr.pi rfl)
      have hS1 := hS0.slot F1 hn h8 (by rw [mm_i_pi, if_neg (by omega), mm_i_pi, if_neg (by omega)])
      have hP1 : zPt (fun k => (¬ k = 3 ∧ ¬ k = 6) ∧ ¬ k = 5 ∧ ¬ k = 8) (mm_pi (mm_pi h (24 + L) 4 (zI y)) (24 + L) 7 (zI (y + zH (P p) t))) (24 + L) (zC P p t 0 y 0) := zPt.set (u := 4) (v := 7) (A' := zC P p t 0 y 0) hP (fun k hk => by
        by_cases e3 : k = 4
        · exact Or.inl e3
        · by_cases e6 : k = 7
          · exact Or.inr (Or.inl e6)
          · exact Or.inr (Or.inr ⟨⟨hk, e3, e6⟩, by simp only [zC, if_neg e3, if_neg e6]⟩))
      have hFg1 := hFg.fr F1 (by omega)
      have ea1 := (F1.i (a := 76 + (8 * L + i)) (by omega) 1).trans ea
      have F1' : zFr (zT (L + 1)) h (mm_pi (mm_pi h (24 + L) 4 (zI y)) (24 + L) 7 (zI (y + zH (P p) t))) := zFr.mono F1 (fun a ha => by simp only [zT]; omega)
      generalize mm_pi (mm_pi h (24 + L) 4 (zI y)) (24 + L) 7 (zI (y + zH (P p) t)) = h1 at *
      have hF1 := hF.fr F1' h8
      have hK1 := hS1.1
      have e4 : mm_i h1 (24 + L) 4 = zI y := hP1.2 4 (by decide) (by decide) (by decide)
      have e7 : mm_i h1 (24 + L) 7 = zI (y + zH (P p) t) := hP1.2 7 (by decide) (by decide) (by decide)
      have e9 : mm_i h1 (24 + L) 9 = zI (zW (P p) t) := hP1.2 9 (by decide) (by decide) (by decide)
      have e11 : mm_i h1 (24 + L) 11 = zI (zD (P p) t) := hP1.2 11 (by decide) (by decide) (by decide)
      have back : ∀ {h2 : mm_H}, zPt (fun k => (¬ k = 3 ∧ ¬ k = 6) ∧ ¬ k = 5 ∧ ¬ k = 8) h2 (24 + L) (zC P p t 0 y 0) → zPt zS3 h2 (24 + L) (zC P p t 0 0 0) := fun H => zPt.to H (fun k hk => ⟨hk.1, by simp only [zC, if_neg hk.2.1, if_neg hk.2.2]⟩)
      have no : ¬ (zLh L R ≤ y ∧ y + zH (P p) t ≤ W 1 ∧ zW (P p) t * zD (P p) t ≤ ar) → mm_wp (d + 5) 61 103 [.ref 21, .ref (24 + L), .int (nI (zEnds R 7 L).length), .int (nI i), .ref (76 + (8 * L + i))] [] h1 Q := by
        intro hno
        have e : zFz G told W L R P p t y (zEnds R 8 L) s = s := zFz_no (fun z hz x hx => by
          cases q : (zInB W (zC P p t x y z) && zAdm L R (zC P p t x y z))
          · rfl
          · have oC := zC_ok (P := P) hp p8 t6 (zEnds_w hI hW (k := 6) (by omega) (Nat.le_refl L) hx) hyr (zEnds_w hI hW (k := 8) (by omega) (Nat.le_refl L) hz)
            exact absurd ((PR _ oC rfl).mpr q).1.1 hno)
        rw [e] at H
        simp only [s61_103, s61_106, nI_1]
        exact ih (i + 1) h1 s _ (by omega) hS1 hq (back hP1) hF1 (fun h' a b c F => H h' a b c (F1'.trans F))
      have rx : zr y := by simp only [zr]; omega
      have rx7 : zr (y + zH (P p) t) := by simp only [zr]; omega
      have rh : zr (zLh L R) := by
        simp only [zLh]
        split
        · simp only [zr]; omega
        · exact (hI.ok (L - 1) (by omega)).r 4 (by decide) (by decide)
      have rW : zr (W 1) := by simp only [zWok] at hW; simp only [zr]; omega
      have rm : zr (zW (P p) t * zD (P p) t) := by
        have m1 := Int.mul_le_mul (a := zW (P p) t) (b := zD (P p) t) (c := 200) (d := 200) (by omega) (by omega) (by omega) (by omega)
        have m2 := Int.mul_nonneg (a := zW (P p) t) (b := zD (P p) t) (by omega) (by omega)
        simp only [zr]; omega
      have sl := kS_slot hK1 h8
      have c63 := c63z (d := d + 4) (h := h1) (Q := mm_bk (d + 4 + 1) 61 59 [.ref 21, .ref (24 + L), .int (nI (zEnds R 7 L).length), .int (nI i), .ref (76 + (8 * L + i))] [.int (zI y)] Q) hS1.2.2.1.1
      rw [← zLh] at c63
      by_cases q1 : y < zLh L R
      · have d1 : zI y < zI (zLh L R) := (zI_lt rx rh).mpr q1
        simp only [s61_51, s61_51o, s61_51n, s61_52, s61_55, s61_56, s61_59, s61_62, s61_65, s61_65o, s61_65n, s61_66, s61_69, s61_70, s61_73, s61_76, s61_79, s61_79o, s61_79n, s61_80, s61_83, s61_83o, s61_83n, s61_84, s61_87, s61_88, s61_88o, s61_88n, s61_90, s61_93, s61_96, s61_97, s61_97o, s61_97n, s61_98, s61_98o, s61_98n, s61_100, or_true, true_or, true_and, and_true, mm_o_some, mm_o_none, mm_bk_v, mm_bk_n, Nat.reduceAdd, sl, e4, kS21 hK1, kR21_2 hK1, kS22 hK1, c63, if_pos d1]
        exact no (fun q => by omega)
      · have d1 : ¬ zI y < zI (zLh L R) := fun q => q1 ((zI_lt rx rh).mp q)
        by_cases q2 : W 1 < y + zH (P p) t
        · have d2 : zI (W 1) < zI (y + zH (P p) t) := (zI_lt rW rx7).mpr q2
          simp only [s61_51, s61_51o, s61_51n, s61_52, s61_55, s61_56, s61_59, s61_62, s61_65, s61_65o, s61_65n, s61_66, s61_69, s61_70, s61_73, s61_76, s61_79, s61_79o, s61_79n, s61_80, s61_83, s61_83o, s61_83n, s61_84, s61_87, s61_88, s61_88o, s61_88n, s61_90, s61_93, s61_96, s61_97, s61_97o, s61_97n, s61_98, s61_98o, s61_98n, s61_100, or_true, true_or, true_and, and_true, mm_o_some, mm_o_none, mm_bk_v, mm_bk_n, Nat.reduceAdd, sl, e4, e7, kS21 hK1, kR21_2 hK1, kS22 hK1, kR21_0 hK1, kS2 hK1, c63, if_neg d1, hS1.2.1.1 1 (by decide), if_pos d2]
          exact no (fun q => by omega)
        · have d2 : ¬ zI (W 1) < zI (y + zH (P p) t) := fun q => q2 ((zI_lt rW rx7).mp q)
          by_cases q3 : ar < zW (P p) t * zD (P p) t
          · have d3 : zI ar < zI (zW (P p) t * zD (P p) t) := (zI_lt ra rm).mpr q3
            simp only [s61_51, s61_51o, s61_51n, s61_52, s61_55, s61_56, s61_59, s61_62, s61_65, s61_65o, s61_65n, s61_66, s61_69, s61_70, s61_73, s61_76, s61_79, s61_79o, s61_79n, s61_80, s61_83, s61_83o, s61_83n, s61_84, s61_87, s61_88, s61_88o, s61_88n, s61_90, s61_93, s61_96, s61_97, s61_97o, s61_97n, s61_98, s61_98o, s61_98n, s61_100, or_true, true_or, true_and, and_true, mm_o_some, mm_o_none, mm_bk_v, mm_bk_n, Nat.reduceAdd, sl, e4, e7, e9, e11, kS21 hK1, kR21_2 hK1, kS22 hK1, kR21_0 hK1, kS2 hK1, c63, if_neg d1, hS1.2.1.1 1 (by decide), if_neg d2, hFg1.1, ea1, zI_mul, if_pos d3]
            exact no (fun q => by omega)
          · have d3 : ¬ zI ar < zI (zW (P p) t * zD (P p) t) := fun q => q3 ((zI_lt ra rm).mp q)
            simp only [s61_51, s61_51o, s61_51n, s61_52, s61_55, s61_56, s61_59, s61_62, s61_65, s61_65o, s61_65n, s61_66, s61_69, s61_70, s61_73, s61_76, s61_79, s61_79o, s61_79n, s61_80, s61_83, s61_83o, s61_83n, s61_84, s61_87, s61_88, s61_88o, s61_88n, s61_90, s61_93, s61_96, s61_97, s61_97o, s61_97n, s61_98, s61_98o, s61_98n, s61_100, or_true, true_or, true_and, and_true, mm_o_some, mm_o_none, mm_bk_v, mm_bk_n, Nat.reduceAdd, sl, e4, e7, e9, e11, kS21 hK1, kR21_2 hK1, kS22 hK1, kR21_0 hK1, kS2 hK1, c63, if_neg d1, hS1.2.1.1 1 (by decide), if_neg d2, hFg1.1, ea1, zI_mul, if_neg d3]
            refine c64z (G := G) hn hI ht h8 hW hp p8 t6 hGq IH hyr (by omega) (by omega) rl rr rf rb (fun z hz x hx => ?_) hS1 hq hP1 hFg1 (fun h2 S2 q2' P2 F2 => ?_)
            · have oC := zC_ok (P := P) hp p8 t6 (zEnds_w hI hW (k := 6) (by omega) (Nat.le_refl L) hx) hyr (zEnds_w hI hW (k := 8) (by omega) (Nat.le_refl L) hz)
              have pr := PR _ oC rfl
              constructor
              · intro q; exact pr.mp ⟨⟨⟨show zLh L R ≤ y by omega, show y + zH (P p) t ≤ W 1 by omega, show zW (P p) t * zD (P p) t ≤ ar by omega⟩, q.1⟩, q.2⟩
              · intro q; exact ⟨(pr.mpr q).1.2, (pr.mpr q).2⟩
            · simp only [s61_103, s61_106, or_true, true_or, true_and, and_true, mm_o_some, mm_o_none, mm_bk_v, mm_bk_n, Nat.reduceAdd, nI_1]
              exact ih (i + 1) h2 _ _ (by omega) S2 q2' (back P2) (hF1.fr F2 h8) (fun h' a b c F => H h' a b c (F1'.trans (F2.trans F)))
theorem c61z (hn : n ≤ 8) (hI : zInv W L R) (ht : told ≤ 1000) (h8 : L < 8) (hW : zWok W) (hp : zPok (P p)) (p8 : p < 8) (t6 : t < 6)
    (hGq : ∀ R' s', zInv W (L + 1) R' → zSq told s' → zSq told (G (L + 1) R' s'))
    (IH : ∀ h1 R1 s1 Q1, zCS h1 W n P told (L + 1) R1 s1 → zInv W (L + 1) R1 → zSw s1 → s1.2.1 = false → s1.1 ≤ told → (∀ h2, zCS h2 W n P told (L + 1) R1 (G (L + 1) R1 s1) → zFr (zT (L + 1)) h1 h2 → Q1 (.inl none) h2) → mm_wp (d + 2) 52 0 [.ref 21, .int (nI (L + 1)), mm_j, mm_j, mm_j, mm_j, mm_j] [] h1 Q1) (hS : zCS h W n P told L R s) (hq : zSq told s) (hP : zPt zS3 h (24 + L) (zC P p t 0 0 0)) (hF : zFls h W L R)
    (H : ∀ h', zCS h' W n P told L R (zFy G told W L R P p t (zEnds R 7 L) s) → zSq told (zFy G told W L R P p t (zEnds R 7 L) s) → zPt zS3 h' (24 + L) (zC P p t 0 0 0) → zFr (zT (L + 1)) h h' → Q (.inl none) h') :
    mm_wp (d + 5) 61 0 [.ref 21, .ref (24 + L), mm_j, mm_j, mm_j] [] h Q := by
  have hS0 := hS
  obtain ⟨hK, hG, hRv, hBv, hEs, hNu, i8, i9, i10⟩ := hS
  have hE := (hEs L (Nat.le_refl L) h8).2.1
  simp only [s61_0, s61_1, s61_4, s61_4o, s61_4n, s61_5, s61_8, s61_11, s61_12, s61_13, or_true, true_or, true_and, and_true, mm_o_some, mm_o_none, mm_bk_v, mm_bk_n, Nat.reduceAdd, kS21 hK, kR21_5 hK, kS53 hK, kS_slot hK h8, (hNu L h8).1, c55z (kSe_tops hK) h8, hE.1]
  rw [← nI_lit0]
  refine c61_y (G := G) hn hI ht h8 hW hp p8 t6 hGq IH (zEnds R 7 L).length 0 h s _ (by omega) hS0 hq hP hF (fun h' S2 q2 P2 F2 => ?_)
  rw [List.drop_zero] at S2 q2
  exact H h' S2 q2 P2 F2
end
