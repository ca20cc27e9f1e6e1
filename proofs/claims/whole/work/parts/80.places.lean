/-! TRYING PLACES -/
section
variable {d : Nat} {h h' : mm_H} {Q : mm_Q} {L n told p t a u v f : Nat} {R : zR} {W A A' : Nat → Int} {P : Nat → Nat → Int} {s s' : zS} {G : Nat → zR → zS → zS} {S T : Nat → Prop} {x y z lf rt bk fw : Int}
/-- a placed piece, in part: the fields that S names -/
def zPt (S : Nat → Prop) (h : mm_H) (a : Nat) (A : Nat → Int) : Prop := (mm_s h a).1 = 6 ∧ ∀ k, 1 ≤ k → k ≤ 15 → S k → mm_i h a k = zI (A k)
theorem zPt.rec (H : zPt (fun _ => True) h a A) : zRec h a A := ⟨H.1, fun k k1 k2 => H.2 k k1 k2 trivial⟩
theorem zRec.pt (H : zRec h a A) : zPt S h a A := ⟨H.1, fun k k1 k2 _ => H.2 k k1 k2⟩
theorem zPt.fr (H : zPt S h a A) (F : zFr T h h') (hT : ¬ T a) : zPt S h' a A := ⟨by rw [F.2.2.1]; exact H.1, fun k k1 k2 k3 => by rw [F.i hT]; exact H.2 k k1 k2 k3⟩
theorem zPt.to (H : zPt S h a A) (hS : ∀ k, T k → S k ∧ A k = A' k) : zPt T h a A' := ⟨H.1, fun k k1 k2 k3 => by rw [← (hS k k3).2]; exact H.2 k k1 k2 (hS k k3).1⟩
theorem zPt.set (H : zPt S h a A) (hS : ∀ k, T k → k = u ∨ k = v ∨ (S k ∧ A k = A' k)) : zPt T (mm_pi (mm_pi h a u (zI (A' u))) a v (zI (A' v))) a A' := by
  refine ⟨H.1, fun k k1 k2 k3 => ?_⟩
  rw [mm_i_pi, mm_i_pi]
  by_cases e : k = v
  · rw [if_pos ⟨rfl, e⟩, e]
  · rw [if_neg (fun q => e q.2)]
    by_cases e' : k = u
    · rw [if_pos ⟨rfl, e'⟩, e']
    · rw [if_neg (fun q => e' q.2)]
      rcases hS k k3 with q | q | q
      · exact absurd q e'
      · exact absurd q e
      · rw [← q.2]; exact H.2 k k1 k2 q.1
/-- the search's state when the slot behind the row changes, but not its number -/
theorem zCS.slot (hS : zCS h W n P told L R s) (F : zFr (fun x => x = 24 + L) h h') (hn : n ≤ 8) (h8 : L < 8) (e0 : mm_i h' (24 + L) 0 = mm_i h (24 + L) 0) : zCS h' W n P told L R s := by
  obtain ⟨hK, hG, hRv, hBv, hEs, hNu, i8, i9, i10⟩ := hS
  have hNu' : zNu h' := fun i hi => by
    refine ⟨?_, by rw [F.i (by omega)]; exact (hNu i hi).2⟩
    by_cases e : i = L
    · rw [e, e0]; exact (hNu L h8).1
    · rw [F.i (by omega)]; exact (hNu i hi).1
  have hRv' : zRv h' 22 L R := by
    obtain ⟨⟨hs, hL, hl, hr⟩, hv, hm⟩ := hRv
    refine ⟨⟨?_, hL, by rw [F.i (by omega)]; exact hl, fun i hi => (hr i hi).fr F (by omega)⟩, by rw [F.i (by omega)]; exact hv, by rw [F.l (by omega)]; exact hm⟩
    simp only [zSk, F.2.2.1, F.2.2.2.1]
    exact hs
  exact ⟨zFr.sk hK F, hG.fr F (fun x hx => by omega) hn, hRv', hBv.fr F (fun x x1 x2 => by omega), hEs.fr F (fun x x1 x2 => by omega), hNu', by rw [F.i (by omega)]; exact i8, by rw [F.i (by omega)]; exact i9, by rw [F.i (by omega)]; exact i10⟩
def zFg (h : mm_H) (f : Nat) (y lf rt bk fr : Int) : Prop := (mm_s h f).1 = 4 ∧ mm_i h f 0 = zI y ∧ mm_i h f 2 = zI lf ∧ mm_i h f 3 = zI rt ∧ mm_i h f 4 = zI bk ∧ mm_i h f 5 = zI fr
theorem zFg.fr (H : zFg h f y lf rt bk fw) (F : zFr T h h') (hT : ¬ T f) : zFg h' f y lf rt bk fw := by
  simp only [zFg, F.2.2.1, F.i hT]
  exact H
theorem c64_x (hn : n ≤ 8) (hI : zInv W L R) (ht : told ≤ 1000) (h8 : L < 8) (hW : zWok W) (hp : zPok (P p)) (p8 : p < 8) (t6 : t < 6)
    (hGq : ∀ R' s', zInv W (L + 1) R' → zSq told s' → zSq told (G (L + 1) R' s'))
    (IH : ∀ h1 R1 s1 Q1, zCS h1 W n P told (L + 1) R1 s1 → zInv W (L + 1) R1 → zSw s1 → s1.2.1 = false → s1.1 ≤ told → (∀ h2, zCS h2 W n P told (L + 1) R1 (G (L + 1) R1 s1) → zFr (zT (L + 1)) h1 h2 → Q1 (.inl none) h2) → mm_wp (d + 2) 52 0 [.ref 21, .int (nI (L + 1)), mm_j, mm_j, mm_j, mm_j, mm_j] [] h1 Q1) (hy : 0 ≤ y ∧ y ≤ 200) (hz : 0 ≤ z ∧ z ≤ 200) (f1 : 76 + 8 * L ≤ f) (f2 : f < 84 + 8 * L) (rl : zr lf) (rr : zr rt)
    (PR : ∀ x, x ∈ zEnds R 6 L → ((lf ≤ x ∧ x + zW (P p) t ≤ rt) ∧ zAdm L R (zC P p t x y z) = true ↔ (zInB W (zC P p t x y z) && zAdm L R (zC P p t x y z)) = true)) (lsv iv : Int32) :
    ∀ m j h s, j + m = (zEnds R 6 L).length → zCS h W n P told L R s → zSq told s → zPt (fun k => ¬ k = 3 ∧ ¬ k = 6) h (24 + L) (zC P p t 0 y z) → zFg h f y lf rt bk fw →
      (∀ h' jv, zCS h' W n P told L R (zFx G told W L R P p t y z ((zEnds R 6 L).drop j) s) → zSq told (zFx G told W L R P p t y z ((zEnds R 6 L).drop j) s) → zPt (fun k => ¬ k = 3 ∧ ¬ k = 6) h' (24 + L) (zC P p t 0 y z) → zFr (zT (L + 1)) h h' → mm_wp (d + 4) 64 180 [.ref 21, .ref (24 + L), .ref f, .int lsv, .int iv, .int 1, .int jv] [] h' Q) →
      mm_wp (d + 4) 64 91 [.ref 21, .ref (24 + L), .ref f, .int lsv, .int iv, .int 1, .int (nI j)] [] h Q := by
  intro m
  induction m with
  | zero =>
    intro j h s hj hS hq hP hF H
    have hS0 := hS
    obtain ⟨hK, hG, hRv, hBv, hEs, hNu, i8, i9, i10⟩ := hS
    have hE := (hEs L (Nat.le_refl L) h8).1
    have c : nI (zEnds R 6 L).length ≤ nI j := by rw [show j = (zEnds R 6 L).length by omega]; exact Int32.le_refl _
    rw [s64_91]
    simp only [s64_0, s64_0o, s64_0n, s64_1, s64_4, s64_5, s64_8, s64_8o, s64_8n, s64_9, s64_12, s64_15, s64_18, s64_19, s64_20, s64_22, s64_24, s64_25, s64_28, s64_28o, s64_28n, s64_29, s64_32, s64_35, s64_38, s64_39, s64_42, s64_45, s64_45o, s64_45n, s64_46, s64_47, s64_50, s64_50o, s64_50n, s64_51, s64_54, s64_56, s64_59, s64_62, s64_62o, s64_62n, s64_63, s64_66, s64_67, s64_70, s64_70o, s64_70n, s64_71, s64_74, s64_74o, s64_74n, s64_75, s64_78, s64_81, s64_82, s64_85, s64_86, s64_88, s64_89, s64_93, s64_94, s64_97, s64_97o, s64_97n, s64_98, s64_101, s64_104, s64_107, s64_109, s64_112, s64_113, s64_116, s64_119, s64_119o, s64_119n, s64_120, s64_121, s64_124, s64_124o, s64_124n, s64_125, s64_128, s64_130, s64_133, or_true, true_or, true_and, and_true, mm_o_some, mm_o_none, mm_bk_v, mm_bk_n, Nat.reduceAdd, kS21 hK, kR21_4 hK, kS42 hK, kS_slot hK h8, (hNu L h8).1, c55z (kSe_rights hK) h8, hE.1, if_pos c]
    rw [List.drop_of_length_le (by omega)] at H
    exact H h _ hS0 hq hP zFr.refl
  | succ m ih =>
    intro j h s hj hS hq hP hF H
    have hS0 := hS
    obtain ⟨hK, hG, hRv, hBv, hEs, hNu, i8, i9, i10⟩ := hS
    have hE := (hEs L (Nat.le_refl L) h8).1
    have hlen := hE.2.1
    have hjl : j < (zEnds R 6 L).length := by omega
    have c : ¬ nI (zEnds R 6 L).length ≤ nI j := nI_ge (by omega) (by omega)
    have c10 : ¬ (1 : Int32) = 0 := by decide
    rw [s64_91]
    by_cases hsp : s.2.1 = true
    · have c2 : ¬ mm_i h 21 10 = 0 := by rw [i10, hsp]; decide
      simp only [s64_0, s64_0o, s64_0n, s64_1, s64_4, s64_5, s64_8, s64_8o, s64_8n, s64_9, s64_12, s64_15, s64_18, s64_19, s64_20, s64_22, s64_24, s64_25, s64_28, s64_28o, s64_28n, s64_29, s64_32, s64_35, s64_38, s64_39, s64_42, s64_45, s64_45o, s64_45n, s64_46, s64_47, s64_50, s64_50o, s64_50n, s64_51, s64_54, s64_56, s64_59, s64_62, s64_62o, s64_62n, s64_63, s64_66, s64_67, s64_70, s64_70o, s64_70n, s64_71, s64_74, s64_74o, s64_74n, s64_75, s64_78, s64_81, s64_82, s64_85, s64_86, s64_88, s64_89, s64_93, s64_94, s64_97, s64_97o, s64_97n, s64_98, s64_101, s64_104, s64_107, s64_109, s64_112, s64_113, s64_116, s64_119, s64_119o, s64_119n, s64_120, s64_121, s64_124, s64_124o, s64_124n, s64_125, s64_128, s64_130, s64_133, or_true, true_or, true_and, and_true, mm_o_some, mm_o_none, mm_bk_v, mm_bk_n, Nat.reduceAdd, kS21 hK, kR21_4 hK, kS42 hK, kS_slot hK h8, (hNu L h8).1, c55z (kSe_rights hK) h8, hE.1, if_neg c, if_neg c10, if_neg c2]
      rw [zFx_sp hsp] at H
      exact H h _ hS0 hq hP zFr.refl
    · have hsp' : s.2.1 = false := by simpa using hsp
      have c2 : mm_i h 21 10 = 0 := by rw [i10, hsp']; rfl
      have hv : mm_i h (24 + L) 9 = zI (zW (P p) t) := hP.2 9 (by decide) (by decide) (by decide)
      rw [drop_getD hjl, zFx, List.foldl_cons, ← zFx] at H
      have hxm := getD_mem hjl
      have hxr := zEnds_w hI hW (k := 6) (by omega) (Nat.le_refl L) hxm
      have PRx := PR _ hxm
      simp only [s64_0, s64_0o, s64_0n, s64_1, s64_4, s64_5, s64_8, s64_8o, s64_8n, s64_9, s64_12, s64_15, s64_18, s64_19, s64_20, s64_22, s64_24, s64_25, s64_28, s64_28o, s64_28n, s64_29, s64_32, s64_35, s64_38, s64_39, s64_42, s64_45, s64_45o, s64_45n, s64_46, s64_47, s64_50, s64_50o, s64_50n, s64_51, s64_54, s64_56, s64_59, s64_62, s64_62o, s64_62n, s64_63, s64_66, s64_67, s64_70, s64_70o, s64_70n, s64_71, s64_74, s64_74o, s64_74n, s64_75, s64_78, s64_81, s64_82, s64_85, s64_86, s64_88, s64_89, s64_93, s64_94, s64_97, s64_97o, s64_97n, s64_98, s64_101, s64_104, s64_107, s64_109, s64_112, s64_113, s64_116, s64_119, s64_119o, s64_119n, s64_120, s64_121, s64_124, s64_124o, s64_124n, s64_125, s64_128, s64_130, s64_133, or_true, true_or, true_and, and_true, mm_o_some, mm_o_none, mm_bk_v, mm_bk_n, Nat.reduceAdd, kS21 hK, kR21_4 hK, kS42 hK, kS_slot hK h8, (hNu L h8).1, c55z (kSe_rights hK) h8, hE.1, if_neg c, if_neg c10, if_pos c2, c56z (kSe_rights hK) h8 hE hjl, c67z hP.1 hv]
      generalize (zEnds R 6 L).getD j 0 = x at *
      have oC := zC_ok (x := x) hp p8 t6 hxr hy hz
      have wr := zW_r (t := t) hp
      have F1 : zFr (fun x => x = 24 + L) h (mm_pi (mm_pi h (24 + L) 3 (zI x)) (24 + L) 6 (zI (x + zW (P p) t))) := zFr.trans (T := fun x => x = 24 + L) (zFr.pi rfl) (zFr.pi rfl)
      have hS1 := hS0.slot F1 hn h8 (by rw [mm_i_pi, if_neg (by omega), mm_i_pi, if_neg (by omega)])
      have hC1 : zRec (mm_pi (mm_pi h (24 + L) 3 (zI x)) (24 + L) 6 (zI (x + zW (P p) t))) (24 + L) (zC P p t x y z) := zPt.rec (zPt.set (u := 3) (v := 6) (A' := zC P p t x y z) hP (fun k _ => by
        by_cases e3 : k = 3
        · exact Or.inl e3
        · by_cases e6 : k = 6
          · exact Or.inr (Or.inl e6)
          · exact Or.inr (Or.inr ⟨⟨e3, e6⟩, by simp only [zC, if_neg e3, if_neg e6]⟩)))
      have hF1 := hF.fr F1 (by omega)
      have F1' : zFr (zT (L + 1)) h (mm_pi (mm_pi h (24 + L) 3 (zI x)) (24 + L) 6 (zI (x + zW (P p) t))) := zFr.mono F1 (fun a ha => by simp only [zT]; omega)
      generalize mm_pi (mm_pi h (24 + L) 3 (zI x)) (24 + L) 6 (zI (x + zW (P p) t)) = h1 at *
      have hK1 := hS1.1
      have e3 : mm_i h1 (24 + L) 3 = zI x := hC1.2 3 (by decide) (by decide)
      have e6 : mm_i h1 (24 + L) 6 = zI (x + zW (P p) t) := hC1.2 6 (by decide) (by decide)
      have back : ∀ {h2 : mm_H}, zRec h2 (24 + L) (zC P p t x y z) → zPt (fun k => ¬ k = 3 ∧ ¬ k = 6) h2 (24 + L) (zC P p t 0 y z) := fun H => zPt.to (S := fun _ => True) H.pt (fun k hk => ⟨trivial, by simp only [zC, if_neg hk.1, if_neg hk.2]⟩)
      have no : ¬ ((lf ≤ x ∧ x + zW (P p) t ≤ rt) ∧ zAdm L R (zC P p t x y z) = true) → mm_wp (d + 4) 64 174 [.ref 21, .ref (24 + L), .ref f, .int lsv, .int iv, .int 1, .int (nI j)] [] h1 Q := by
        intro hno
        have e : zTry G told W L R (zC P p t x y z) s = s := zTry_no (by
          cases q : (zInB W (zC P p t x y z) && zAdm L R (zC P p t x y z))
          · rfl
          · exact absurd (PRx.mpr q) hno)
        rw [e] at H
        simp only [s64_174, s64_177, nI_1]
        exact ih (j + 1) h1 s (by omega) hS1 hq (back hC1) hF1 (fun h' jv a b c F => H h' jv a b c (F1'.trans F))
      have rx : zr x := by simp only [zr]; omega
      have rx6 : zr (x + zW (P p) t) := by simp only [zr]; omega
      by_cases q1 : x < lf
      · have d1 : zI x < zI lf := (zI_lt rx rl).mpr q1
        simp only [s64_136, s64_136o, s64_136n, s64_137, s64_140, s64_140o, s64_140n, s64_141, s64_144, s64_147, s64_147o, s64_147n, s64_148, s64_151, s64_151o, s64_151n, s64_152, s64_155, s64_158, s64_159, s64_162, s64_162o, s64_162n, s64_163, s64_166, s64_169, s64_170, s64_170o, s64_170n, s64_171, or_true, true_or, true_and, and_true, mm_o_some, mm_o_none, mm_bk_v, mm_bk_n, Nat.reduceAdd, kS_slot hK1 h8, hF1.1, e3, hF1.2.2.1, if_pos d1]
        exact no (fun q => by omega)
      · have d1 : ¬ zI x < zI lf := fun q => q1 ((zI_lt rx rl).mp q)
        by_cases q2 : rt < x + zW (P p) t
        · have d2 : zI rt < zI (x + zW (P p) t) := (zI_lt rr rx6).mpr q2
          simp only [s64_136, s64_136o, s64_136n, s64_137, s64_140, s64_140o, s64_140n, s64_141, s64_144, s64_147, s64_147o, s64_147n, s64_148, s64_151, s64_151o, s64_151n, s64_152, s64_155, s64_158, s64_159, s64_162, s64_162o, s64_162n, s64_163, s64_166, s64_169, s64_170, s64_170o, s64_170n, s64_171, or_true, true_or, true_and, and_true, mm_o_some, mm_o_none, mm_bk_v, mm_bk_n, Nat.reduceAdd, kS_slot hK1 h8, hF1.1, e3, e6, hF1.2.2.1, hF1.2.2.2.1, if_neg d1, if_pos d2]
          exact no (fun q => by omega)
        · have d2 : ¬ zI rt < zI (x + zW (P p) t) := fun q => q2 ((zI_lt rr rx6).mp q)
          simp only [s64_136, s64_136o, s64_136n, s64_137, s64_140, s64_140o, s64_140n, s64_141, s64_144, s64_147, s64_147o, s64_147n, s64_148, s64_151, s64_151o, s64_151n, s64_152, s64_155, s64_158, s64_159, s64_162, s64_162o, s64_162n, s64_163, s64_166, s64_169, s64_170, s64_170o, s64_170n, s64_171, or_true, true_or, true_and, and_true, mm_o_some, mm_o_none, mm_bk_v, mm_bk_n, Nat.reduceAdd, kS_slot hK1 h8, hF1.1, e3, e6, hF1.2.2.1, hF1.2.2.2.1, if_neg d1, if_neg d2, kS21 hK1, kR21_2 hK1, kS22 hK1, c68z hS1.2.2.1.1 hI.ok hC1 oC]
          cases q3 : zAdm L R (zC P p t x y z)
          · simp only [bI_f, if_true]
            exact no (fun q => by rw [q3] at q; exact absurd q.2 (by decide))
          · rw [if_neg (show ¬ bI true = 0 by decide)]
            have hB : zInB W (zC P p t x y z) = true := by
              have := PRx.mp ⟨⟨by omega, by omega⟩, q3⟩
              rw [Bool.and_eq_true] at this
              exact this.1
            refine c79z (G := G) hS1 hn hI hq.1 hsp' ht hq.2 hC1 oC rfl hB q3 h8 IH (fun h2 S2 C2 F2 => ?_)
            simp only [s64_174, s64_177, or_true, true_or, true_and, and_true, mm_o_some, mm_o_none, mm_bk_v, mm_bk_n, Nat.reduceAdd, nI_1]
            refine ih (j + 1) h2 _ (by omega) S2 (zTry_q hGq hI h8 oC rfl hq) (back C2) (hF1.fr F2 (by simp only [zT]; omega)) (fun h' jv a b c F => H h' jv a b c (F1'.trans (F2.trans F)))
end
