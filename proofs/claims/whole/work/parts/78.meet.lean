/-! MEETING A PLACE -/
section
variable {d : Nat} {h h' : mm_H} {Q : mm_Q} {L n told : Nat} {R : zR} {W C : Nat → Int} {P : Nat → Nat → Int} {s s' : zS}
theorem zVol_b {L : Nat} {R : zR} (hO : ∀ i, i < L → zOk (R i)) (hL : L ≤ 8) : zr (zVol L R) ∧ zr (zMom L R) := by
  have h1 := zSum_b (f := fun i => R i 9 * R i 10 * R i 11) (m := 8000000) L (fun i hi => (zSmall (hO i hi)).1)
  have h2 := zSum_b (f := fun i => R i 12 * (2 * R i 4 + R i 10)) (m := 10000000) L (fun i hi => (zSmall (hO i hi)).2)
  have e1 : zVol L R = zSum (fun i => R i 9 * R i 10 * R i 11) L := rfl
  have e2 : zMom L R = zSum (fun i => R i 12 * (2 * R i 4 + R i 10)) L := rfl
  simp only [zr]
  omega
/-- the state when only the search's own numbers have changed -/
theorem zCS.own (hS : zCS h W n P told L R s) (F : zFr (fun x => x = 21) h h') (hn : n ≤ 8) (e8 : mm_i h' 21 8 = nI told) (e9 : mm_i h' 21 9 = nI s'.1) (e10 : mm_i h' 21 10 = bI s'.2.1) (eb : s'.2.2 = s.2.2) : zCS h' W n P told L R s' := by
  obtain ⟨hK, hG, hRv, hBv, hEs, hNu, i8, i9, i10⟩ := hS
  refine ⟨zFr.sk hK F, hG.fr F (fun x hx => by omega) hn, hRv.fr F (fun x x1 x2 => by omega), ?_, hEs.fr F (fun x x1 x2 => by omega), hNu.fr F (fun x x1 x2 => by omega), e8, e9, e10⟩
  rw [eb]
  exact hBv.fr F (fun x x1 x2 => by omega)
theorem c79z {G : Nat → zR → zS → zS} (hS : zCS h W n P told L R s) (hn : n ≤ 8) (hI : zInv W L R) (hw : zSw s) (hsp : s.2.1 = false) (ht : told ≤ 1000) (hst : s.1 ≤ told) (hC : zRec h (24 + L) C) (oC : zOk C) (c15 : C 15 = 0) (hB : zInB W C = true) (hA : zAdm L R C = true) (h8 : L < 8)
    (IH : ∀ h1 R1 s1 Q1, zCS h1 W n P told (L + 1) R1 s1 → zInv W (L + 1) R1 → zSw s1 → s1.2.1 = false → s1.1 ≤ told → (∀ h2, zCS h2 W n P told (L + 1) R1 (G (L + 1) R1 s1) → zFr (zT (L + 1)) h1 h2 → Q1 (.inl none) h2) → mm_wp (d + 2) 52 0 [.ref 21, .int (nI (L + 1)), mm_j, mm_j, mm_j, mm_j, mm_j] [] h1 Q1)
    (H : ∀ h', zCS h' W n P told L R (zTry G told W L R C s) → zRec h' (24 + L) C → zFr (zT (L + 1)) h h' → Q (.inl none) h') : mm_wp (d + 3) 79 0 [.ref 21, .ref (24 + L)] [] h Q := by
  have hS0 := hS
  obtain ⟨hK, hG, hRv, hBv, hEs, hNu, i8, i9, i10⟩ := hS
  have T21 : zT (L + 1) 21 := by simp only [zT]; omega
  have hAB : (zInB W C && zAdm L R C) = true := by rw [hB, hA]; rfl
  by_cases hT : told ≤ s.1
  · have c1 : ¬ nI s.1 < nI told := nI_nlt hT (by omega)
    have eT : zTry G told W L R C s = (s.1, true, s.2.2) := by
      simp only [zTry, hsp, Bool.false_eq_true, if_false, hAB, if_true, if_pos hT]
    rw [eT] at H
    simp only [s79_0, s79_1, s79_4, s79_5, s79_8, s79_11, s79_12, s79_13, s79_16, s79_17, s79_18, s79_19, s79_22, s79_23, s79_24, s79_27, s79_28, s79_31, s79_34, s79_35, s79_38, s79_38o, s79_38n, s79_39, s79_42, s79_42o, s79_42n, s79_43, s79_46, s79_49, s79_50, s79_53, s79_53o, s79_53n, s79_54, s79_57, s79_57o, s79_57n, s79_58, s79_61, s79_64, s79_65, s79_68, s79_68o, s79_68n, s79_69, s79_72, s79_72o, s79_72n, s79_73, s79_76, s79_79, s79_80, s79_83, s79_84, s79_87, s79_90, s79_93, s79_94, s79_97, s79_98, s79_101, s79_105, s79_105o, s79_105n, s79_106, s79_109, s79_110, s79_111, s79_114, s79_115, s79_118, s79_121, or_true, true_or, true_and, and_true, mm_o_some, mm_o_none, mm_bk_v, mm_bk_n, Nat.reduceAdd, kS21 hK, i8, i9, if_neg c1]
    have F : zFr (fun x => x = 21) h (mm_pi h 21 10 1) := zFr.pi rfl
    refine H _ (hS0.own F hn ?_ ?_ ?_ rfl) (hC.fr F (by omega)) (zFr.pi T21)
    · rw [mm_i_pi, if_neg (by omega)]; exact i8
    · rw [mm_i_pi, if_neg (by omega)]; exact i9
    · rw [mm_i_pi, if_pos ⟨rfl, rfl⟩]; rfl
  · have c1 : nI s.1 < nI told := nI_lt (by omega) (by omega)
    have eT : zTry G told W L R C s = G (L + 1) (zPush L R C) (zCmp (L + 1) (zPush L R C) (s.1 + 1, s.2)) := by
      simp only [zTry, hsp, Bool.false_eq_true, if_false, hAB, if_true, if_neg hT]
    rw [eT] at H
    have F1 : zFr (fun x => x = 21) h (mm_pi h 21 9 (nI (s.1 + 1))) := zFr.pi rfl
    have hS1 : zCS (mm_pi h 21 9 (nI (s.1 + 1))) W n P told L R (s.1 + 1, s.2) := hS0.own F1 hn (by rw [mm_i_pi, if_neg (by omega)]; exact i8) (by rw [mm_i_pi, if_pos ⟨rfl, rfl⟩]) (by rw [mm_i_pi, if_neg (by omega)]; exact i10) rfl
    have hC1 := hC.fr F1 (by omega)
    simp only [s79_0, s79_1, s79_4, s79_5, s79_8, s79_11, s79_12, s79_13, s79_16, s79_17, s79_18, s79_19, s79_22, s79_23, s79_24, s79_27, s79_28, s79_31, s79_34, s79_35, s79_38, s79_38o, s79_38n, s79_39, s79_42, s79_42o, s79_42n, s79_43, s79_46, s79_49, s79_50, s79_53, s79_53o, s79_53n, s79_54, s79_57, s79_57o, s79_57n, s79_58, s79_61, s79_64, s79_65, s79_68, s79_68o, s79_68n, s79_69, s79_72, s79_72o, s79_72n, s79_73, s79_76, s79_79, s79_80, s79_83, s79_84, s79_87, s79_90, s79_93, s79_94, s79_97, s79_98, s79_101, s79_105, s79_105o, s79_105n, s79_106, s79_109, s79_110, s79_111, s79_114, s79_115, s79_118, s79_121, or_true, true_or, true_and, and_true, mm_o_some, mm_o_none, mm_bk_v, mm_bk_n, Nat.reduceAdd, kS21 hK, mm_s_pi, mm_r_pi, kR21_2 hK, kS22 hK, i8, i9, if_pos c1, nI_1]
    generalize mm_pi h 21 9 (nI (s.1 + 1)) = h1 at F1 hS1 hC1 ⊢
    obtain ⟨hK1, hG1, hRv1, hBv1, hEs1, hNu1, j8, j9, j10⟩ := hS1
    refine c80z hRv1 hI.ok hC1 oC h8 (fun h2 V2 q2 => ?_)
    have F2 := q2.fr (by omega)
    have hK2 := zFr.sk hK1 F2
    have hI2 := zInv_push hI h8 oC c15 hB hA
    have hC2 : zRec h2 (24 + L) C := by have := V2.1.2.2.2 L (by omega); rw [zPush_L] at this; exact this
    have n2 : mm_i h2 (24 + L) 0 = nI L := by rw [q2.2.2.2.2.1 (24 + L) 0 (by omega) (by omega)]; exact (hNu1 L h8).1
    have hNu2 : zNu h2 := fun i hi => ⟨by rw [q2.2.2.2.2.1 (24 + i) 0 (by omega) (by omega)]; exact (hNu1 i hi).1, by rw [q2.2.2.2.2.1 (34 + i) 0 (by omega) (by omega)]; exact (hNu1 i hi).2⟩
    have hE2 := hEs1.fr F2 (fun x x1 x2 => by omega)
    have hB2 := hBv1.fr F2 (fun x x1 x2 => by omega)
    have hG2 := hG1.fr F2 (fun x hx => by omega) hn
    have lz : ∀ k, k = 6 ∨ k = 7 ∨ k = 8 → ∀ i, i < (zEnds R k L).length → zr ((zEnds R k L).getD i 0) := fun k hk i hi => by
      have := zEnds_r hI hk (Nat.le_refl L) hi
      simp only [zr]
      omega
    simp only [s79_0, s79_1, s79_4, s79_5, s79_8, s79_11, s79_12, s79_13, s79_16, s79_17, s79_18, s79_19, s79_22, s79_23, s79_24, s79_27, s79_28, s79_31, s79_34, s79_35, s79_38, s79_38o, s79_38n, s79_39, s79_42, s79_42o, s79_42n, s79_43, s79_46, s79_49, s79_50, s79_53, s79_53o, s79_53n, s79_54, s79_57, s79_57o, s79_57n, s79_58, s79_61, s79_64, s79_65, s79_68, s79_68o, s79_68n, s79_69, s79_72, s79_72o, s79_72n, s79_73, s79_76, s79_79, s79_80, s79_83, s79_84, s79_87, s79_90, s79_93, s79_94, s79_97, s79_98, s79_101, s79_105, s79_105o, s79_105n, s79_106, s79_109, s79_110, s79_111, s79_114, s79_115, s79_118, s79_121, or_true, true_or, true_and, and_true, mm_o_some, mm_o_none, mm_bk_v, mm_bk_n, Nat.reduceAdd, kS21 hK2, kR21_4 hK2, kS42 hK2, kS_slot hK2 h8, n2, hC2.2 6 (by decide) (by decide)]
    refine c82y (kSe_rights hK2) (by omega) h8 (hE2 L (Nat.le_refl L) h8).1 (zEnds_len R 6 L).2 (oC.r 6 (by decide) (by decide)) (lz 6 (by omega)) _ _ _ _ _ _ (fun h3 F3 K3 G3 => ?_)
    have hK3 := zFr.sk hK2 F3
    have hC3 := hC2.fr F3 (by omega)
    have n3 : mm_i h3 (24 + L) 0 = nI L := by rw [F3.i (by omega)]; exact n2
    simp only [s79_0, s79_1, s79_4, s79_5, s79_8, s79_11, s79_12, s79_13, s79_16, s79_17, s79_18, s79_19, s79_22, s79_23, s79_24, s79_27, s79_28, s79_31, s79_34, s79_35, s79_38, s79_38o, s79_38n, s79_39, s79_42, s79_42o, s79_42n, s79_43, s79_46, s79_49, s79_50, s79_53, s79_53o, s79_53n, s79_54, s79_57, s79_57o, s79_57n, s79_58, s79_61, s79_64, s79_65, s79_68, s79_68o, s79_68n, s79_69, s79_72, s79_72o, s79_72n, s79_73, s79_76, s79_79, s79_80, s79_83, s79_84, s79_87, s79_90, s79_93, s79_94, s79_97, s79_98, s79_101, s79_105, s79_105o, s79_105n, s79_106, s79_109, s79_110, s79_111, s79_114, s79_115, s79_118, s79_121, or_true, true_or, true_and, and_true, mm_o_some, mm_o_none, mm_bk_v, mm_bk_n, Nat.reduceAdd, kS21 hK3, kR21_5 hK3, kS53 hK3, kS_slot hK3 h8, n3, hC3.2 7 (by decide) (by decide)]
    refine c82y (kSe_tops hK3) (by omega) h8 ((hE2 L (Nat.le_refl L) h8).2.1.fr F3 (by omega) (by omega)) (zEnds_len R 7 L).2 (oC.r 7 (by decide) (by decide)) (lz 7 (by omega)) _ _ _ _ _ _ (fun h4 F4 K4 G4 => ?_)
    have hK4 := zFr.sk hK3 F4
    have hC4 := hC3.fr F4 (by omega)
    have n4 : mm_i h4 (24 + L) 0 = nI L := by rw [F4.i (by omega)]; exact n3
    simp only [s79_0, s79_1, s79_4, s79_5, s79_8, s79_11, s79_12, s79_13, s79_16, s79_17, s79_18, s79_19, s79_22, s79_23, s79_24, s79_27, s79_28, s79_31, s79_34, s79_35, s79_38, s79_38o, s79_38n, s79_39, s79_42, s79_42o, s79_42n, s79_43, s79_46, s79_49, s79_50, s79_53, s79_53o, s79_53n, s79_54, s79_57, s79_57o, s79_57n, s79_58, s79_61, s79_64, s79_65, s79_68, s79_68o, s79_68n, s79_69, s79_72, s79_72o, s79_72n, s79_73, s79_76, s79_79, s79_80, s79_83, s79_84, s79_87, s79_90, s79_93, s79_94, s79_97, s79_98, s79_101, s79_105, s79_105o, s79_105n, s79_106, s79_109, s79_110, s79_111, s79_114, s79_115, s79_118, s79_121, or_true, true_or, true_and, and_true, mm_o_some, mm_o_none, mm_bk_v, mm_bk_n, Nat.reduceAdd, kS21 hK4, kR21_6 hK4, kS64 hK4, kS_slot hK4 h8, n4, hC4.2 8 (by decide) (by decide)]
    refine c82y (kSe_fronts hK4) (by omega) h8 (((hE2 L (Nat.le_refl L) h8).2.2.fr F3 (by omega) (by omega)).fr F4 (by omega) (by omega)) (zEnds_len R 8 L).2 (oC.r 8 (by decide) (by decide)) (lz 8 (by omega)) _ _ _ _ _ _ (fun h5 F5 K5 G5 => ?_)
    have F25 : zFr (fun x => 42 ≤ x ∧ x < 75) h2 h5 := ((F3.mono (fun a ha => by omega)).trans (F4.mono (fun a ha => by omega))).trans (F5.mono (fun a ha => by omega))
    have hK5 := zFr.sk hK4 F5
    have V5 := V2.fr F25 (fun x x1 x2 => by omega)
    have B5 := hB2.fr F25 (fun x x1 x2 => by omega)
    have N5 := hNu2.fr F25 (fun x x1 x2 => by omega)
    have hG5 := hG2.fr F25 (fun x hx => by omega) hn
    have cg : ∀ k, ¬ k = 15 → ∀ j, j ≤ L → zEnds (zPush L R C) k j = zEnds R k j := fun k hk j hj => zEnds_congr j (fun i hi => zPush_k (by omega) hk)
    have E5 : zEs h5 (zPush L R C) (L + 1) := by
      intro j j1 j2
      by_cases e : j = L + 1
      · subst e
        refine ⟨?_, ?_, ?_⟩
        · rw [zEnds, zPush_L, cg 6 (by decide) L (Nat.le_refl L)]
          exact ((G3 (by omega)).fr F4 (by omega) (by omega)).fr F5 (by omega) (by omega)
        · rw [zEnds, zPush_L, cg 7 (by decide) L (Nat.le_refl L)]
          exact (G4 (by omega)).fr F5 (by omega) (by omega)
        · rw [zEnds, zPush_L, cg 8 (by decide) L (Nat.le_refl L)]
          exact G5 (by omega)
      · have jl : j ≤ L := by omega
        rw [cg 6 (by decide) j jl, cg 7 (by decide) j jl, cg 8 (by decide) j jl]
        obtain ⟨x1, x2, x3⟩ := hE2 j jl j2
        exact ⟨((K3 j jl _ x1).fr F4 (by omega) (by omega)).fr F5 (by omega) (by omega), (K4 j jl _ (x2.fr F3 (by omega) (by omega))).fr F5 (by omega) (by omega), K5 j jl _ ((x3.fr F3 (by omega) (by omega)).fr F4 (by omega) (by omega))⟩
    have o5 : mm_i h5 21 8 = nI told ∧ mm_i h5 21 9 = nI (s.1 + 1) ∧ mm_i h5 21 10 = bI s.2.1 := by
      rw [F25.i (by omega), F25.i (by omega), F25.i (by omega), F2.i (by omega), F2.i (by omega), F2.i (by omega)]
      exact ⟨j8, j9, j10⟩
    have vb1 := zVol_b hI2.ok hI2.1
    have vb2 := zVol_b hw.2.1 hw.1
    simp only [s79_0, s79_1, s79_4, s79_5, s79_8, s79_11, s79_12, s79_13, s79_16, s79_17, s79_18, s79_19, s79_22, s79_23, s79_24, s79_27, s79_28, s79_31, s79_34, s79_35, s79_38, s79_38o, s79_38n, s79_39, s79_42, s79_42o, s79_42n, s79_43, s79_46, s79_49, s79_50, s79_53, s79_53o, s79_53n, s79_54, s79_57, s79_57o, s79_57n, s79_58, s79_61, s79_64, s79_65, s79_68, s79_68o, s79_68n, s79_69, s79_72, s79_72o, s79_72n, s79_73, s79_76, s79_79, s79_80, s79_83, s79_84, s79_87, s79_90, s79_93, s79_94, s79_97, s79_98, s79_101, s79_105, s79_105o, s79_105n, s79_106, s79_109, s79_110, s79_111, s79_114, s79_115, s79_118, s79_121, or_true, true_or, true_and, and_true, mm_o_some, mm_o_none, mm_bk_v, mm_bk_n, Nat.reduceAdd, kS21 hK5, kR21_2 hK5, kR21_3 hK5, kS22 hK5, kS32 hK5, c83z (h := h5) (r := 22) (s := 32) (by rw [kS22 hK5]) (by rw [kS32 hK5]) V5.2.1 B5.2.1 V5.2.2 B5.2.2 vb1.1 vb2.1 vb1.2 vb2.2, bI_0]
    -- what comes behind the comparison
    have rest : ∀ h6, zCS h6 W n P told (L + 1) (zPush L R C) (zCmp (L + 1) (zPush L R C) (s.1 + 1, s.2)) → zFr (fun x => 32 ≤ x ∧ x < 42) h5 h6 → mm_wp (d + 3) 79 104 [.ref 21, .ref (24 + L)] [] h6 Q := by
      intro h6 S6 F6
      have hK6 := S6.1
      have n6 : mm_i h6 (24 + L) 0 = nI L := (S6.2.2.2.2.2.1 L h8).1
      have w6 : zSw (zCmp (L + 1) (zPush L R C) (s.1 + 1, s.2)) ∧ (zCmp (L + 1) (zPush L R C) (s.1 + 1, s.2)).2.1 = s.2.1 ∧ (zCmp (L + 1) (zPush L R C) (s.1 + 1, s.2)).1 = s.1 + 1 := by
        simp only [zCmp]
        split
        · exact ⟨⟨hI2.1, hI2.ok, rfl, rfl⟩, rfl, rfl⟩
        · exact ⟨hw, rfl, rfl⟩
      simp only [s79_0, s79_1, s79_4, s79_5, s79_8, s79_11, s79_12, s79_13, s79_16, s79_17, s79_18, s79_19, s79_22, s79_23, s79_24, s79_27, s79_28, s79_31, s79_34, s79_35, s79_38, s79_38o, s79_38n, s79_39, s79_42, s79_42o, s79_42n, s79_43, s79_46, s79_49, s79_50, s79_53, s79_53o, s79_53n, s79_54, s79_57, s79_57o, s79_57n, s79_58, s79_61, s79_64, s79_65, s79_68, s79_68o, s79_68n, s79_69, s79_72, s79_72o, s79_72n, s79_73, s79_76, s79_79, s79_80, s79_83, s79_84, s79_87, s79_90, s79_93, s79_94, s79_97, s79_98, s79_101, s79_104, s79_105, s79_105o, s79_105n, s79_106, s79_109, s79_110, s79_111, s79_114, s79_115, s79_118, s79_121, or_true, true_or, true_and, and_true, mm_o_some, mm_o_none, mm_bk_v, mm_bk_n, Nat.reduceAdd, kS_slot hK6 h8, kS21 hK6, n6, nI_1]
      refine IH h6 (zPush L R C) _ _ S6 hI2 w6.1 (by rw [w6.2.1]; exact hsp) (by rw [w6.2.2]; omega) (fun h7 S7 F7 => ?_)
      obtain ⟨hK7, hG7, hRv7, hBv7, hEs7, hNu7, l8, l9, l10⟩ := S7
      simp only [s79_0, s79_1, s79_4, s79_5, s79_8, s79_11, s79_12, s79_13, s79_16, s79_17, s79_18, s79_19, s79_22, s79_23, s79_24, s79_27, s79_28, s79_31, s79_34, s79_35, s79_38, s79_38o, s79_38n, s79_39, s79_42, s79_42o, s79_42n, s79_43, s79_46, s79_49, s79_50, s79_53, s79_53o, s79_53n, s79_54, s79_57, s79_57o, s79_57n, s79_58, s79_61, s79_64, s79_65, s79_68, s79_68o, s79_68n, s79_69, s79_72, s79_72o, s79_72n, s79_73, s79_76, s79_79, s79_80, s79_83, s79_84, s79_87, s79_90, s79_93, s79_94, s79_97, s79_98, s79_101, s79_105, s79_105o, s79_105n, s79_106, s79_109, s79_110, s79_111, s79_114, s79_115, s79_118, s79_121, or_true, true_or, true_and, and_true, mm_o_some, mm_o_none, mm_bk_v, mm_bk_n, Nat.reduceAdd, kS21 hK7, kR21_2 hK7, kS22 hK7]
      refine c86z hRv7 hI.ok (fun i hi => hI2.ok i (by omega)) oC (fun h9 V9 q9 => ?_)
      have F9 := q9.fr (by omega)
      simp only [s79_0, s79_1, s79_4, s79_5, s79_8, s79_11, s79_12, s79_13, s79_16, s79_17, s79_18, s79_19, s79_22, s79_23, s79_24, s79_27, s79_28, s79_31, s79_34, s79_35, s79_38, s79_38o, s79_38n, s79_39, s79_42, s79_42o, s79_42n, s79_43, s79_46, s79_49, s79_50, s79_53, s79_53o, s79_53n, s79_54, s79_57, s79_57o, s79_57n, s79_58, s79_61, s79_64, s79_65, s79_68, s79_68o, s79_68n, s79_69, s79_72, s79_72o, s79_72n, s79_73, s79_76, s79_79, s79_80, s79_83, s79_84, s79_87, s79_90, s79_93, s79_94, s79_97, s79_98, s79_101, s79_105, s79_105o, s79_105n, s79_106, s79_109, s79_110, s79_111, s79_114, s79_115, s79_118, s79_121, or_true, true_or, true_and, and_true, mm_o_some, mm_o_none, mm_bk_v, mm_bk_n, Nat.reduceAdd]
      refine H h9 ⟨zFr.sk hK7 F9, hG7.fr F9 (fun x hx => by omega) hn, V9, hBv7.fr F9 (fun x x1 x2 => by omega), ?_, ?_, ?_, ?_, ?_⟩ ?_ ?_
      · intro j j1 j2
        have := (hEs7.fr F9 (fun x x1 x2 => by omega)) j (by omega) j2
        rw [cg 6 (by decide) j j1, cg 7 (by decide) j j1, cg 8 (by decide) j j1] at this
        exact this
      · exact fun i hi => ⟨by rw [q9.2.2.2.2.1 (24 + i) 0 (by omega) (by omega)]; exact (hNu7 i hi).1, by rw [q9.2.2.2.2.1 (34 + i) 0 (by omega) (by omega)]; exact (hNu7 i hi).2⟩
      · rw [F9.i (by omega)]; exact l8
      · rw [F9.i (by omega)]; exact l9
      · rw [F9.i (by omega)]; exact l10
      · have r7 := hRv7.1.2.2.2 L (by omega)
        rw [zPush_L] at r7
        exact ⟨by rw [q9.2.2.1]; exact r7.1, fun k k1 k2 => by rw [q9.2.2.2.2.1 (24 + L) k (by omega) (by omega)]; exact r7.2 k k1 k2⟩
      · have M : ∀ a, 21 ≤ a → a < 76 → zT (L + 1) a := fun a a1 a2 => ⟨a1, by omega, Or.inl a2⟩
        exact (((((F1.mono (fun a ha => M a (by omega) (by omega))).trans (F2.mono (fun a ha => M a (by omega) (by omega)))).trans (F25.mono (fun a ha => M a (by omega) (by omega)))).trans (F6.mono (fun a ha => M a (by omega) (by omega)))).trans F7).trans (F9.mono (fun a ha => M a (by omega) (by omega)))
    have hz : zBt (zVol (L + 1) (zPush L R C)) (zMom (L + 1) (zPush L R C)) s.2.2.2.2.1 s.2.2.2.2.2 = zBt (zVol (L + 1) (zPush L R C)) (zMom (L + 1) (zPush L R C)) (zVol s.2.2.1 s.2.2.2.1) (zMom s.2.2.1 s.2.2.2.1) := by rw [hw.2.2.1, hw.2.2.2]
    cases hb : zBt (zVol (L + 1) (zPush L R C)) (zMom (L + 1) (zPush L R C)) (zVol s.2.2.1 s.2.2.2.1) (zMom s.2.2.1 s.2.2.2.1)
    · have ec : zCmp (L + 1) (zPush L R C) (s.1 + 1, s.2) = (s.1 + 1, s.2) := by
        simp only [zCmp, hz, hb, Bool.false_eq_true, if_false]
      rw [if_pos rfl]
      exact rest h5 (by rw [ec]; exact ⟨hK5, hG5, V5, B5, E5, N5, o5⟩) zFr.refl
    · have ec : zCmp (L + 1) (zPush L R C) (s.1 + 1, s.2) = (s.1 + 1, s.2.1, L + 1, zPush L R C, zVol (L + 1) (zPush L R C), zMom (L + 1) (zPush L R C)) := by
        simp only [zCmp, hz, hb, if_true]
      rw [if_neg (by decide)]
      refine c84z V5 (kSk_best hK5) (by omega) mm_j (fun h6 V6 m1 m2 m3 m4 m5 m6 => ?_)
      have F6 : zFr (fun x => 32 ≤ x ∧ x < 42) h5 h6 := ⟨m1, m2, m3, m4, fun a ha k => ⟨m5 a k (by omega), m6 a k (by omega)⟩⟩
      simp only [or_true, true_or, true_and, and_true, mm_o_some, mm_o_none, mm_bk_v, mm_bk_n, Nat.reduceAdd]
      refine rest h6 ?_ F6
      rw [ec]
      refine ⟨zFr.sk hK5 F6, hG5.fr F6 (fun x hx => by omega) hn, V5.fr F6 (fun x x1 x2 => by omega), V6, E5.fr F6 (fun x x1 x2 => by omega), fun i hi => ⟨by rw [m5 (24 + i) 0 (by omega)]; exact (N5 i hi).1, by rw [m5 (34 + i) 0 (by omega)]; exact (N5 i hi).2⟩, ?_, ?_, ?_⟩
      · rw [F6.i (by omega)]; exact o5.1
      · rw [F6.i (by omega)]; exact o5.2.1
      · rw [F6.i (by omega)]; exact o5.2.2
end
