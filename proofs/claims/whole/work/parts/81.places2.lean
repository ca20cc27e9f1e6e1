/-! TRYING PLACES: over the depths -/
section
variable {d : Nat} {h h' : mm_H} {Q : mm_Q} {L n told p t a u v f : Nat} {R : zR} {W A A' : Nat → Int} {P : Nat → Nat → Int} {s s' : zS} {G : Nat → zR → zS → zS} {S T : Nat → Prop} {x y z lf rt bk fw ls : Int}
theorem c64_z (hn : n ≤ 8) (hI : zInv W L R) (ht : told ≤ 1000) (h8 : L < 8) (hW : zWok W) (hp : zPok (P p)) (p8 : p < 8) (t6 : t < 6)
    (hGq : ∀ R' s', zInv W (L + 1) R' → zSq told s' → zSq told (G (L + 1) R' s'))
    (IH : ∀ h1 R1 s1 Q1, zCS h1 W n P told (L + 1) R1 s1 → zInv W (L + 1) R1 → zSw s1 → s1.2.1 = false → s1.1 ≤ told → (∀ h2, zCS h2 W n P told (L + 1) R1 (G (L + 1) R1 s1) → zFr (zT (L + 1)) h1 h2 → Q1 (.inl none) h2) → mm_wp (d + 2) 52 0 [.ref 21, .int (nI (L + 1)), mm_j, mm_j, mm_j, mm_j, mm_j] [] h1 Q1) (hy : 0 ≤ y ∧ y ≤ 200) (f1 : 76 + 8 * L ≤ f) (f2 : f < 84 + 8 * L) (rl : zr lf) (rr : zr rt) (rw : zr fw) (rs : zr ls)
    (PR : ∀ z, z ∈ zEnds R 8 L → ∀ x, x ∈ zEnds R 6 L → (((ls ≤ z ∧ z + zD (P p) t ≤ fw) ∧ lf ≤ x ∧ x + zW (P p) t ≤ rt) ∧ zAdm L R (zC P p t x y z) = true ↔ (zInB W (zC P p t x y z) && zAdm L R (zC P p t x y z)) = true)) :
    ∀ m i h s (v5 v6 : Value), i + m = (zEnds R 8 L).length → zCS h W n P told L R s → zSq told s → zPt (fun k => (¬ k = 3 ∧ ¬ k = 6) ∧ ¬ k = 5 ∧ ¬ k = 8) h (24 + L) (zC P p t 0 y 0) → zFg h f y lf rt bk fw →
      (∀ h', zCS h' W n P told L R (zFz G told W L R P p t y ((zEnds R 8 L).drop i) s) → zSq told (zFz G told W L R P p t y ((zEnds R 8 L).drop i) s) → zPt (fun k => (¬ k = 3 ∧ ¬ k = 6) ∧ ¬ k = 5 ∧ ¬ k = 8) h' (24 + L) (zC P p t 0 y 0) → zFr (zT (L + 1)) h h' → Q (.inl none) h') →
      mm_wp (d + 4) 64 22 [.ref 21, .ref (24 + L), .ref f, .int (zI ls), .int (nI i), v5, v6] [] h Q := by
  intro m
  induction m with
  | zero =>
    intro i h s v5 v6 hj hS hq hP hF H
    have hS0 := hS
    obtain ⟨hK, hG, hRv, hBv, hEs, hNu, i8, i9, i10⟩ := hS
    have hE := (hEs L (Nat.le_refl L) h8).2.2
    have c : nI (zEnds R 8 L).length ≤ nI i := by rw [show i = (zEnds R 8 L).length by omega]; exact Int32.le_refl _
    rw [s64_22]
    simp only [s64_0, s64_0o, s64_0n, s64_1, s64_4, s64_5, s64_8, s64_8o, s64_8n, s64_9, s64_12, s64_15, s64_18, s64_19, s64_20, s64_24, s64_25, s64_28, s64_28o, s64_28n, s64_29, s64_32, s64_35, s64_38, s64_39, s64_42, s64_45, s64_45o, s64_45n, s64_46, s64_47, s64_50, s64_50o, s64_50n, s64_51, s64_54, s64_56, s64_59, s64_186, or_true, true_or, true_and, and_true, mm_o_some, mm_o_none, mm_bk_v, mm_bk_n, Nat.reduceAdd, kS21 hK, kR21_6 hK, kS64 hK, kS_slot hK h8, (hNu L h8).1, c55z (kSe_fronts hK) h8, hE.1, if_pos c]
    rw [List.drop_of_length_le (by omega)] at H
    exact H h hS0 hq hP zFr.refl
  | succ m ih =>
    intro i h s v5 v6 hj hS hq hP hF H
    have hS0 := hS
    obtain ⟨hK, hG, hRv, hBv, hEs, hNu, i8, i9, i10⟩ := hS
    have hE := (hEs L (Nat.le_refl L) h8).2.2
    have hlen := hE.2.1
    have hjl : i < (zEnds R 8 L).length := by omega
    have c : ¬ nI (zEnds R 8 L).length ≤ nI i := nI_ge (by omega) (by omega)
    rw [s64_22]
    by_cases hsp : s.2.1 = true
    · have c2 : ¬ mm_i h 21 10 = 0 := by rw [i10, hsp]; decide
      simp only [s64_0, s64_0o, s64_0n, s64_1, s64_4, s64_5, s64_8, s64_8o, s64_8n, s64_9, s64_12, s64_15, s64_18, s64_19, s64_20, s64_24, s64_25, s64_28, s64_28o, s64_28n, s64_29, s64_32, s64_35, s64_38, s64_39, s64_42, s64_45, s64_45o, s64_45n, s64_46, s64_47, s64_50, s64_50o, s64_50n, s64_51, s64_54, s64_56, s64_59, s64_186, or_true, true_or, true_and, and_true, mm_o_some, mm_o_none, mm_bk_v, mm_bk_n, Nat.reduceAdd, kS21 hK, kR21_6 hK, kS64 hK, kS_slot hK h8, (hNu L h8).1, c55z (kSe_fronts hK) h8, hE.1, if_neg c, if_neg c2]
      rw [zFz_sp hsp] at H
      exact H h hS0 hq hP zFr.refl
    · have hsp' : s.2.1 = false := by simpa using hsp
      have c2 : mm_i h 21 10 = 0 := by rw [i10, hsp']; rfl
      have hv : mm_i h (24 + L) 11 = zI (zD (P p) t) := hP.2 11 (by decide) (by decide) (by decide)
      rw [drop_getD hjl, zFz, List.foldl_cons, ← zFz] at H
      have hxm := getD_mem hjl
      have hzr := zEnds_w hI hW (k := 8) (by omega) (Nat.le_refl L) hxm
      have PRz := PR _ hxm
      simp only [s64_0, s64_0o, s64_0n, s64_1, s64_4, s64_5, s64_8, s64_8o, s64_8n, s64_9, s64_12, s64_15, s64_18, s64_19, s64_20, s64_24, s64_25, s64_28, s64_28o, s64_28n, s64_29, s64_32, s64_35, s64_38, s64_39, s64_42, s64_45, s64_45o, s64_45n, s64_46, s64_47, s64_50, s64_50o, s64_50n, s64_51, s64_54, s64_56, s64_59, s64_186, or_true, true_or, true_and, and_true, mm_o_some, mm_o_none, mm_bk_v, mm_bk_n, Nat.reduceAdd, kS21 hK, kR21_6 hK, kS64 hK, kS_slot hK h8, (hNu L h8).1, c55z (kSe_fronts hK) h8, hE.1, if_neg c, if_pos c2, c56z (kSe_fronts hK) h8 hE hjl, c66z hP.1 hv]
      generalize (zEnds R 8 L).getD i 0 = z at *
      have wr := zW_r (t := t) hp
      have F1 : zFr (fun x => x = 24 + L) h (mm_pi (mm_pi h (24 + L) 5 (zI z)) (24 + L) 8 (zI (z + zD (P p) t))) := zFr.trans (T := fun x => x = 24 + L) (zFr.pi rfl) (zFr.pi rfl)
      have hS1 := hS0.slot F1 hn h8 (by rw [mm_i_pi, if_neg (by omega), mm_i_pi, if_neg (by omega)])
      have hP1 : zPt (fun k => ¬ k = 3 ∧ ¬ k = 6) (mm_pi (mm_pi h (24 + L) 5 (zI z)) (24 + L) 8 (zI (z + zD (P p) t))) (24 + L) (zC P p t 0 y z) := zPt.set (u := 5) (v := 8) (A' := zC P p t 0 y z) hP (fun k hk => by
        by_cases e3 : k = 5
        · exact Or.inl e3
        · by_cases e6 : k = 8
          · exact Or.inr (Or.inl e6)
          · exact Or.inr (Or.inr ⟨⟨hk, e3, e6⟩, by simp only [zC, if_neg e3, if_neg e6]⟩))
      have hF1 := hF.fr F1 (by omega)
      have F1' : zFr (zT (L + 1)) h (mm_pi (mm_pi h (24 + L) 5 (zI z)) (24 + L) 8 (zI (z + zD (P p) t))) := zFr.mono F1 (fun a ha => by simp only [zT]; omega)
      generalize mm_pi (mm_pi h (24 + L) 5 (zI z)) (24 + L) 8 (zI (z + zD (P p) t)) = h1 at *
      have hK1 := hS1.1
      have e5 : mm_i h1 (24 + L) 5 = zI z := hP1.2 5 (by decide) (by decide) (by decide)
      have e8 : mm_i h1 (24 + L) 8 = zI (z + zD (P p) t) := hP1.2 8 (by decide) (by decide) (by decide)
      have back : ∀ {h2 : mm_H}, zPt (fun k => ¬ k = 3 ∧ ¬ k = 6) h2 (24 + L) (zC P p t 0 y z) → zPt (fun k => (¬ k = 3 ∧ ¬ k = 6) ∧ ¬ k = 5 ∧ ¬ k = 8) h2 (24 + L) (zC P p t 0 y 0) := fun H => zPt.to H (fun k hk => ⟨hk.1, by simp only [zC, if_neg hk.2.1, if_neg hk.2.2]⟩)
      have hE1 := (hS1.2.2.2.2.1 L (Nat.le_refl L) h8).1
      have hE1l : 1 ≤ (zEnds R 6 L).length := (zEnds_len R 6 L).1
      have c0 : ¬ nI (zEnds R 6 L).length ≤ (0 : Int32) := nI_nle (by omega) (by have := hE1.2.1; omega)
      have no : ¬ (ls ≤ z ∧ z + zD (P p) t ≤ fw) → mm_wp (d + 4) 64 85 [.ref 21, .ref (24 + L), .ref f, .int (zI ls), .int (nI i), v5, v6] [] h1 Q := by
        intro hno
        have e : zFx G told W L R P p t y z (zEnds R 6 L) s = s := zFx_no (fun x hx => by
          cases q : (zInB W (zC P p t x y z) && zAdm L R (zC P p t x y z))
          · rfl
          · exact absurd ((PRz x hx).mpr q).1.1 hno)
        rw [e] at H
        simp only [s64_85, s64_86, s64_88, s64_89, s64_91, s64_93, s64_94, s64_97, s64_97o, s64_97n, s64_98, s64_101, s64_104, s64_107, s64_109, s64_180, s64_183, or_true, true_or, true_and, and_true, mm_o_some, mm_o_none, mm_bk_v, mm_bk_n, Nat.reduceAdd, kS21 hK1, kR21_4 hK1, kS42 hK1, kS_slot hK1 h8, (hS1.2.2.2.2.2.1 L h8).1, c55z (kSe_rights hK1) h8, hE1.1, if_neg c0, if_true, nI_1]
        exact ih (i + 1) h1 s _ _ (by omega) hS1 hq (back hP1) hF1 (fun h' a b c F => H h' a b c (F1'.trans F))
      have rx : zr z := by simp only [zr]; omega
      have rx6 : zr (z + zD (P p) t) := by simp only [zr]; omega
      by_cases q1 : z < ls
      · have d1 : zI z < zI ls := (zI_lt rx rs).mpr q1
        simp only [s64_62, s64_62o, s64_62n, s64_63, s64_66, s64_67, s64_70, s64_70o, s64_70n, s64_71, s64_74, s64_74o, s64_74n, s64_75, s64_78, or_true, true_or, true_and, and_true, mm_o_some, mm_o_none, mm_bk_v, mm_bk_n, Nat.reduceAdd, kS_slot hK1 h8, e5, if_pos d1]
        exact no (fun q => by omega)
      · have d1 : ¬ zI z < zI ls := fun q => q1 ((zI_lt rx rs).mp q)
        by_cases q2 : fw < z + zD (P p) t
        · have d2 : zI fw < zI (z + zD (P p) t) := (zI_lt rw rx6).mpr q2
          simp only [s64_62, s64_62o, s64_62n, s64_63, s64_66, s64_67, s64_70, s64_70o, s64_70n, s64_71, s64_74, s64_74o, s64_74n, s64_75, s64_78, or_true, true_or, true_and, and_true, mm_o_some, mm_o_none, mm_bk_v, mm_bk_n, Nat.reduceAdd, kS_slot hK1 h8, hF1.1, e5, e8, hF1.2.2.2.2.2, if_neg d1, if_pos d2]
          exact no (fun q => by omega)
        · have d2 : ¬ zI fw < zI (z + zD (P p) t) := fun q => q2 ((zI_lt rw rx6).mp q)
          simp only [s64_62, s64_62o, s64_62n, s64_63, s64_66, s64_67, s64_70, s64_70o, s64_70n, s64_71, s64_74, s64_74o, s64_74n, s64_75, s64_78, s64_81, s64_82, s64_86, s64_88, s64_89, or_true, true_or, true_and, and_true, mm_o_some, mm_o_none, mm_bk_v, mm_bk_n, Nat.reduceAdd, kS_slot hK1 h8, hF1.1, e5, e8, hF1.2.2.2.2.2, if_neg d1, if_neg d2]
          rw [← nI_lit0]
          refine c64_x (G := G) hn hI ht h8 hW hp p8 t6 hGq IH hy hzr f1 f2 rl rr (fun x hx => ?_) _ _ (zEnds R 6 L).length 0 h1 s (by omega) hS1 hq hP1 hF1 (fun h2 jv S2 q2' P2 F2 => ?_)
          · constructor
            · intro q; exact (PRz x hx).mp ⟨⟨⟨by omega, by omega⟩, q.1⟩, q.2⟩
            · intro q; exact ⟨((PRz x hx).mpr q).1.2, ((PRz x hx).mpr q).2⟩
          · simp only [s64_180, s64_183, nI_1]
            rw [List.drop_zero] at S2 q2'
            exact ih (i + 1) h2 _ _ _ (by omega) S2 q2' (back P2) (hF1.fr F2 (by simp only [zT]; omega)) (fun h' a b c F => H h' a b c (F1'.trans (F2.trans F)))
theorem c64z (hn : n ≤ 8) (hI : zInv W L R) (ht : told ≤ 1000) (h8 : L < 8) (hW : zWok W) (hp : zPok (P p)) (p8 : p < 8) (t6 : t < 6)
    (hGq : ∀ R' s', zInv W (L + 1) R' → zSq told s' → zSq told (G (L + 1) R' s'))
    (IH : ∀ h1 R1 s1 Q1, zCS h1 W n P told (L + 1) R1 s1 → zInv W (L + 1) R1 → zSw s1 → s1.2.1 = false → s1.1 ≤ told → (∀ h2, zCS h2 W n P told (L + 1) R1 (G (L + 1) R1 s1) → zFr (zT (L + 1)) h1 h2 → Q1 (.inl none) h2) → mm_wp (d + 2) 52 0 [.ref 21, .int (nI (L + 1)), mm_j, mm_j, mm_j, mm_j, mm_j] [] h1 Q1) (hy : 0 ≤ y ∧ y ≤ 200) (f1 : 76 + 8 * L ≤ f) (f2 : f < 84 + 8 * L) (rl : zr lf) (rr : zr rt) (rw : zr fw) (rb : zr bk)
    (PR : ∀ z, z ∈ zEnds R 8 L → ∀ x, x ∈ zEnds R 6 L → (((max bk (zLd L R y) ≤ z ∧ z + zD (P p) t ≤ fw) ∧ lf ≤ x ∧ x + zW (P p) t ≤ rt) ∧ zAdm L R (zC P p t x y z) = true ↔ (zInB W (zC P p t x y z) && zAdm L R (zC P p t x y z)) = true))
    (hS : zCS h W n P told L R s) (hq : zSq told s) (hP : zPt (fun k => (¬ k = 3 ∧ ¬ k = 6) ∧ ¬ k = 5 ∧ ¬ k = 8) h (24 + L) (zC P p t 0 y 0)) (hF : zFg h f y lf rt bk fw)
    (H : ∀ h', zCS h' W n P told L R (zFz G told W L R P p t y (zEnds R 8 L) s) → zSq told (zFz G told W L R P p t y (zEnds R 8 L) s) → zPt (fun k => (¬ k = 3 ∧ ¬ k = 6) ∧ ¬ k = 5 ∧ ¬ k = 8) h' (24 + L) (zC P p t 0 y 0) → zFr (zT (L + 1)) h h' → Q (.inl none) h') :
    mm_wp (d + 4) 64 0 [.ref 21, .ref (24 + L), .ref f, mm_j, mm_j, mm_j, mm_j] [] h Q := by
  have hS0 := hS
  obtain ⟨hK, hG, hRv, hBv, hEs, hNu, i8, i9, i10⟩ := hS
  have ry : zr y := by simp only [zr]; omega
  have rd : zr (zLd L R y) := by
    simp only [zLd]
    split
    · rename_i q
      have := (hI.ok (L - 1) (by omega)).r 5 (by decide) (by decide)
      exact this
    · simp only [zr]; omega
  have c65 := c65z (d := d + 3) (h := h) (Q := mm_bk (d + 3 + 1) 64 12 [.ref 21, .ref (24 + L), .ref f, mm_j, mm_j, mm_j, mm_j] [.int (zI bk)] Q) hRv.1 hI.ok ry
  rw [← zLd] at c65
  simp only [s64_0, s64_0o, s64_0n, s64_1, s64_4, s64_5, s64_8, s64_8o, s64_8n, s64_9, s64_12, s64_15, s64_18, s64_19, s64_20, or_true, true_or, true_and, and_true, mm_o_some, mm_o_none, mm_bk_v, mm_bk_n, Nat.reduceAdd, hF.1, hF.2.1, hF.2.2.2.2.1, kS21 hK, kR21_2 hK, kS22 hK, c65, c4, zI_max rb rd]
  have rs : zr (max bk (zLd L R y)) := by simp only [zr] at *; omega
  rw [← nI_lit0]
  refine c64_z (G := G) hn hI ht h8 hW hp p8 t6 hGq IH hy f1 f2 rl rr rw rs PR (zEnds R 8 L).length 0 h s _ _ (by omega) hS0 hq hP hF (fun h' S2 q2 P2 F2 => ?_)
  rw [List.drop_zero] at S2 q2
  exact H h' S2 q2 P2 F2
end
