/-! THE REFERENCE: FINDING THE NEXT PLACE -/
section
variable {d : Nat} {h h' : mm_H} {Q : mm_Q} {L n a b q t u i r e j k na bL told p : Nat} {W A : Nat → Int} {m mk : Int} {R bR : zR} {P : Nat → Nat → Int} {sp : Bool} {T : Nat → Prop} {x2 x3 x4 : Int32} {l : List Int} {c : Nat} {h'' : mm_H} {lk gd : Int32} {x y z v w : Int} {C : Nat → Int}
/-- finding changes only where the level goes on, and the spans looked at -/
def zFn (L : Nat) (h h' : mm_H) : Prop := zFr (fun x => (155 ≤ x ∧ x < 158) ∨ x = 166) h h' ∧ ∀ x, 155 ≤ x → x < 158 → ∀ i, ¬ i = L → mm_i h' x i = mm_i h x i
theorem zFn.refl : zFn L h h := ⟨zFr.refl, fun _ _ _ _ _ => rfl⟩
theorem zFn.trans (F : zFn L h h') (G : zFn L h' h'') : zFn L h h'' := ⟨F.1.trans G.1, fun x x1 x2 i hi => (G.2 x x1 x2 i hi).trans (F.2 x x1 x2 i hi)⟩
theorem zFn.pi {a : Nat} {v : Int32} (ha : 155 ≤ a ∧ a < 158) : zFn L h (mm_pi h a L v) := ⟨zFr.pi (Or.inl ha), fun x _ _ i hi => by rw [mm_i_pi, if_neg (fun q => hi q.2)]⟩
theorem zFr.fn (F : zFr (fun x => x = 166) h h') : zFn L h h' := ⟨F.mono (fun a ha => Or.inr ha), fun x x1 x2 i _ => F.i (by omega) i⟩
/-- the reference in a search, at a row -/
def zMs (h : mm_H) (W : Nat → Int) (n : Nat) (P : Nat → Nat → Int) (L : Nat) (R : zR) : Prop := zSK h ∧ zMg h W n P ∧ zMr h L R ∧ zMe h R L ∧ zMi h L R
theorem zMe.fr (H : zMe h R j) (F : zFr T h h') (hT : ¬ T 158 ∧ ¬ T 159) : zMe h' R j := fun a ha => ⟨by rw [F.i hT.2]; exact (H a ha).1, fun i hi => by rw [F.i hT.1]; exact (H a ha).2 i hi⟩
theorem zMs.fn (H : zMs h W n P L R) (F : zFn L h h') : zMs h' W n P L R := by
  obtain ⟨h1, h2, h3, h4, h5⟩ := H
  exact ⟨zFr.sk h1 F.1, h2.fr F.1 (fun x x1 x2 => by omega) (F.1.i (by omega) 2), h3.fr F.1 (fun x x1 x2 => by omega) (F.1.i (by omega) 8), h4.fr F.1 ⟨by omega, by omega⟩, fun p hp => by rw [F.1.i (by omega)]; exact h5 p hp⟩
/-- what was looked at last -/
def zLki (h : mm_H) (W : Nat → Int) (P : Nat → Nat → Int) (lk gd : Int32) : Prop := lk = -1 ∨ ∃ p t : Nat, p < 8 ∧ t < 6 ∧ lk = nI (6 * p + t) ∧ gd = bI (zGd W (P p) t) ∧ zTd h (P p) t
theorem zLki.cg (H : zLki h W P lk gd) (e6 : ∀ a, mm_i h' 166 a = mm_i h 166 a) : zLki h' W P lk gd := by
  rcases H with e | ⟨p, t, h1, h2, h3, h4, h5⟩
  · exact Or.inl e
  · exact Or.inr ⟨p, t, h1, h2, h3, h4, fun a ha => by rw [e6]; exact h5 a ha⟩
/-- what is left, also behind the last piece -/
def zRr (W : Nat → Int) (n : Nat) (P : Nat → Nat → Int) (L : Nat) (R : zR) (p t c : Nat) : List (Nat → Int) := if p < n then zRm W n P L R p t c else []
theorem zRr_next (hp : p < n) (h : zHas L R p = true ∨ t = 6) : zRr W n P L R p t c = zRr W n P L R (p + 1) 0 0 := by
  rw [zRr, if_pos hp, zRm_next hp h, zRr]
  by_cases g : p + 1 < n
  · rw [if_pos g, zRm_0 g]
  · rw [if_neg g, List.drop_of_length_le (by simp; omega)]; rfl
theorem zRr_turn (t6 : t < 6) (h : c = (zPl R L P p t).length ∨ zGd W (P p) t = false) : zRr W n P L R p t c = zRr W n P L R p (t + 1) 0 := by
  simp only [zRr, zRm_turn t6 h]
theorem zRr_c (hp : p < n) (t6 : t < 6) (hg : zGd W (P p) t = true) (hh : zHas L R p = false) (hc : c < (zPl R L P p t).length) : zRr W n P L R p t c = zCn R L P p t c :: zRr W n P L R p t (c + 1) := by
  simp only [zRr, if_pos hp, zRm_c t6 hg hh hc]
theorem zRr_0 : zRr W n P L R 0 0 0 = zLv W n P L R := by
  rw [zRr]
  by_cases g : 0 < n
  · rw [if_pos g, zRm_0 g, List.drop_zero, zRm_all]
  · obtain rfl : n = 0 := by omega
    rfl
theorem nI_6 (a : Nat) : (6 : Int32) * nI a = nI (6 * a) := nI_mul 6 a
theorem c128_loop (hn : n ≤ 8) (hPk : ∀ p, p < n → zPok (P p)) (wk : zWok W) (hV : zInv W L R) (hRP : zRP P n L R) :
    ∀ mp p, p + mp = n → ∀ mt t, t + mt = 6 → ∀ mc c, c + mc = ((zEnds R 6 L).length * (zEnds R 7 L).length * (zEnds R 8 L).length) → ∀ h lk gd (v5 v6 : Value), zMs h W n P L R → zMn h L p t c → zLki h W P lk gd →
    (∀ h' p' t' c', zFn L h h' → zMn h' L p' t' (c' + 1) → p' < n → t' < 6 → c' < ((zEnds R 6 L).length * (zEnds R 7 L).length * (zEnds R 8 L).length) → zTd h' (P p') t' → zHas L R p' = false → zGd W (P p') t' = true → (zInB W (zCn R L P p' t' c') && zAdm L R (zCn R L P p' t' c')) = true → zSkp W L R (zRr W n P L R p t c) (zCn R L P p' t' c' :: zRr W n P L R p' t' (c' + 1)) → Q (.inl (some (.int 1))) h') →
    (∀ h', zFn L h h' → zSkp W L R (zRr W n P L R p t c) [] → Q (.inl (some (.int 0))) h') →
    mm_wp (d + 3) 128 37 [.ref 142, .int (nI (3 * L)), .int (nI ((zEnds R 6 L).length * (zEnds R 7 L).length * (zEnds R 8 L).length)), .int lk, .int gd, v5, v6] [] h Q := by
  have l6 := zEnds_len R 6 L
  have l7 := zEnds_len R 7 L
  have l8 := zEnds_len R 8 L
  have hL8 := hV.1
  have all9 : ((zEnds R 6 L).length * (zEnds R 7 L).length * (zEnds R 8 L).length) < 1000 := by
    have a1 : (zEnds R 6 L).length * (zEnds R 7 L).length ≤ 9 * 9 := Nat.mul_le_mul (by omega) (by omega)
    have a2 : ((zEnds R 6 L).length * (zEnds R 7 L).length * (zEnds R 8 L).length) ≤ 9 * 9 * 9 := Nat.mul_le_mul a1 (by omega)
    omega
  have hinL : mm_in (nI L) 9 = true := mm_inN (by omega) (by omega)
  have hclL : (nI L).toNatClampNeg = L := nI_clamp (by omega)
  have plen : ∀ p t, (zPl R L P p t).length = ((zEnds R 6 L).length * (zEnds R 7 L).length * (zEnds R 8 L).length) := fun p t => zPl_len
  intro mp
  induction mp with
  | zero =>
    intro p hp mt t _ mc c _ h lk gd v5 v6 hS hN hL K1 K2
    obtain rfl : p = n := by omega
    obtain ⟨hK, hG, hR, hE, hI⟩ := hS
    rw [s128_37]
    simp only [s128_38, s128_41, s128_42, s128_45, s128_46, s128_47, s128_50, s128_290, s128_291, or_true, true_or, true_and, and_true, mm_o_some, mm_o_none, mm_bk_v, mm_bk_n, Nat.reduceAdd, kS142 hK, kR142_15 hK, kS155 hK, hR.1, hinL, hclL, hN.1, hG.2.1, if_pos (Int32.le_refl (nI p))]
    refine K2 h zFn.refl ?_
    rw [zRr, if_neg (Nat.lt_irrefl p)]
    exact zSkp.refl
  | succ mp ihp =>
    intro p hp
    have hpn : p < n := by omega
    have hinp : mm_in (nI p) 8 = true := mm_inN (by omega) (by omega)
    have hclp : (nI p).toNatClampNeg = p := nI_clamp (by omega)
    have ihp' := ihp (p + 1) (by omega) 6 0 (by omega) ((zEnds R 6 L).length * (zEnds R 7 L).length * (zEnds R 8 L).length) 0 (by omega)
    intro mt
    -- looking at a turn
    have look : ∀ t c h lk gd (v5 v6 : Value), t ≤ 6 → zMs h W n P L R → zMn h L p t c → zLki h W P lk gd →
        (∀ h1 lk1 gd1, zFn L h h1 → zMs h1 W n P L R → zMn h1 L p t c → zLki h1 W P lk1 gd1 → (t < 6 → gd1 = bI (zGd W (P p) t) ∧ zTd h1 (P p) t) → mm_wp (d + 3) 128 130 [.ref 142, .int (nI (3 * L)), .int (nI ((zEnds R 6 L).length * (zEnds R 7 L).length * (zEnds R 8 L).length)), .int lk1, .int gd1, .int (nI p), v6] [] h1 Q) →
        mm_wp (d + 3) 128 37 [.ref 142, .int (nI (3 * L)), .int (nI ((zEnds R 6 L).length * (zEnds R 7 L).length * (zEnds R 8 L).length)), .int lk, .int gd, v5, v6] [] h Q := by
      intro t c h lk gd v5 v6 ht hS hN hL B
      have hS0 := hS
      obtain ⟨hK, hG, hR, hE, hI⟩ := hS
      have cp : ¬ nI n ≤ nI p := nI_ge hpn (by omega)
      rw [s128_37]
      by_cases t6 : t < 6
      · have c6 : ¬ (6 : Int32) ≤ nI t := nI_ge (b := 6) t6 (by omega)
        by_cases el : lk = nI (6 * p + t)
        · simp only [s128_38, s128_41, s128_42, s128_45, s128_46, s128_47, s128_50, s128_53, s128_54, s128_57, s128_58, s128_61, s128_62, s128_64, s128_65, s128_67, s128_69, s128_70, s128_71, s128_74, s128_75, s128_78, s128_79, s128_80, s128_83, s128_84, s128_87, s128_88, s128_91, s128_92, s128_94, s128_97, s128_99, s128_101, s128_102, s128_103, s128_106, s128_107, s128_110, s128_111, s128_112, s128_113, s128_114, s128_116, s128_117, s128_120, s128_121, s128_124, s128_125, s128_290, s128_291, or_true, true_or, true_and, and_true, mm_o_some, mm_o_none, mm_bk_v, mm_bk_n, Nat.reduceAdd, kS142 hK, kR142_15 hK, kS155 hK, kR142_16 hK, kS156 hK, hR.1, hinL, hclL, hN.1, hN.2.1, hG.2.1, if_neg cp, nI_6, nI_add, if_pos el]
          refine B h lk gd zFn.refl hS0 hN hL (fun _ => ?_)
          rcases hL with e | ⟨p2, t2, h1, h2, h3, h4, h5⟩
          · rw [e] at el
            exact absurd (congrArg Int32.toInt el) (by rw [nI_toInt (by omega)]; have : (-1 : Int32).toInt = -1 := rfl; omega)
          · rw [el, nI_eq (by omega) (by omega)] at h3
            obtain rfl : p = p2 := by omega
            obtain rfl : t = t2 := by omega
            exact ⟨h4, h5⟩
        · simp only [s128_38, s128_41, s128_42, s128_45, s128_46, s128_47, s128_50, s128_53, s128_54, s128_57, s128_58, s128_61, s128_62, s128_64, s128_65, s128_67, s128_69, s128_70, s128_71, s128_74, s128_75, s128_78, s128_79, s128_80, s128_83, s128_84, s128_87, s128_88, s128_91, s128_92, s128_94, s128_97, s128_99, s128_101, s128_102, s128_103, s128_106, s128_107, s128_110, s128_111, s128_112, s128_113, s128_114, s128_116, s128_117, s128_120, s128_121, s128_124, s128_125, s128_290, s128_291, or_true, true_or, true_and, and_true, mm_o_some, mm_o_none, mm_bk_v, mm_bk_n, Nat.reduceAdd, kS142 hK, kR142_15 hK, kS155 hK, kR142_16 hK, kS156 hK, hR.1, hinL, hclL, hN.1, hN.2.1, hG.2.1, if_neg cp, nI_6, nI_add, if_neg el, if_neg c6]
          refine c120z hK hG (hPk p hpn) hpn hn t6 wk _ _ (fun h1 F1 T1 => ?_)
          simp only [s128_128, or_true, true_or, true_and, and_true, mm_o_some, mm_o_none, mm_bk_v, mm_bk_n, Nat.reduceAdd]
          refine B h1 _ _ F1.fn (hS0.fn F1.fn) ⟨by rw [F1.i (by omega)]; exact hN.1, by rw [F1.i (by omega)]; exact hN.2.1, by rw [F1.i (by omega)]; exact hN.2.2⟩ (Or.inr ⟨p, t, by omega, t6, rfl, rfl, T1⟩) (fun _ => ⟨rfl, T1⟩)
      · obtain rfl : t = 6 := by omega
        have c6 : (6 : Int32) ≤ nI 6 := by decide
        by_cases el : lk = nI (6 * p + 6)
        · simp only [s128_38, s128_41, s128_42, s128_45, s128_46, s128_47, s128_50, s128_53, s128_54, s128_57, s128_58, s128_61, s128_62, s128_64, s128_65, s128_67, s128_69, s128_70, s128_71, s128_74, s128_75, s128_78, s128_79, s128_80, s128_83, s128_84, s128_87, s128_88, s128_91, s128_92, s128_94, s128_97, s128_99, s128_101, s128_102, s128_103, s128_106, s128_107, s128_110, s128_111, s128_112, s128_113, s128_114, s128_116, s128_117, s128_120, s128_121, s128_124, s128_125, s128_290, s128_291, or_true, true_or, true_and, and_true, mm_o_some, mm_o_none, mm_bk_v, mm_bk_n, Nat.reduceAdd, kS142 hK, kR142_15 hK, kS155 hK, kR142_16 hK, kS156 hK, hR.1, hinL, hclL, hN.1, hN.2.1, hG.2.1, if_neg cp, nI_6, nI_add, if_pos el]
          exact B h lk gd zFn.refl hS0 hN hL (fun q => absurd q t6)
        · simp only [s128_38, s128_41, s128_42, s128_45, s128_46, s128_47, s128_50, s128_53, s128_54, s128_57, s128_58, s128_61, s128_62, s128_64, s128_65, s128_67, s128_69, s128_70, s128_71, s128_74, s128_75, s128_78, s128_79, s128_80, s128_83, s128_84, s128_87, s128_88, s128_91, s128_92, s128_94, s128_97, s128_99, s128_101, s128_102, s128_103, s128_106, s128_107, s128_110, s128_111, s128_112, s128_113, s128_114, s128_116, s128_117, s128_120, s128_121, s128_124, s128_125, s128_290, s128_291, or_true, true_or, true_and, and_true, mm_o_some, mm_o_none, mm_bk_v, mm_bk_n, Nat.reduceAdd, kS142 hK, kR142_15 hK, kS155 hK, kR142_16 hK, kS156 hK, hR.1, hinL, hclL, hN.1, hN.2.1, hG.2.1, if_neg cp, nI_6, nI_add, if_neg el, if_pos c6]
          exact B h lk gd zFn.refl hS0 hN hL (fun q => absurd q t6)
    -- the next piece
    have nextp : ∀ h lk gd (v6 : Value) t c, zMs h W n P L R → zMn h L p t c → zLki h W P lk gd → (zHas L R p = true ∨ t = 6) →
        (∀ h' p' t' c', zFn L h h' → zMn h' L p' t' (c' + 1) → p' < n → t' < 6 → c' < ((zEnds R 6 L).length * (zEnds R 7 L).length * (zEnds R 8 L).length) → zTd h' (P p') t' → zHas L R p' = false → zGd W (P p') t' = true → (zInB W (zCn R L P p' t' c') && zAdm L R (zCn R L P p' t' c')) = true → zSkp W L R (zRr W n P L R p t c) (zCn R L P p' t' c' :: zRr W n P L R p' t' (c' + 1)) → Q (.inl (some (.int 1))) h') →
        (∀ h', zFn L h h' → zSkp W L R (zRr W n P L R p t c) [] → Q (.inl (some (.int 0))) h') →
        mm_wp (d + 3) 128 154 [.ref 142, .int (nI (3 * L)), .int (nI ((zEnds R 6 L).length * (zEnds R 7 L).length * (zEnds R 8 L).length)), .int lk, .int gd, .int (nI p), v6] [] h Q := by
      intro h lk gd v6 t c hS hN hL hh K1 K2
      have hS0 := hS
      obtain ⟨hK, hG, hR, hE, hI⟩ := hS
      rw [zRr_next hpn hh] at K1 K2
      simp only [s128_154, s128_155, s128_158, s128_159, s128_162, s128_163, s128_164, s128_165, s128_166, s128_167, s128_168, s128_171, s128_172, s128_175, s128_176, s128_177, s128_178, s128_181, s128_182, s128_185, s128_186, s128_187, s128_287, s128_290, s128_291, or_true, true_or, true_and, and_true, mm_o_some, mm_o_none, mm_bk_v, mm_bk_n, Nat.reduceAdd, kS142 hK, kR142_15 hK, kR142_16 hK, kR142_17 hK, kS155 hK, kS156 hK, kS157 hK, mm_s_pi, mm_r_pi, mm_i_pi, hR.1, hinL, hclL, hN.1, nI_1, Nat.reduceEqDiff, not_false_eq_true, false_and, if_false]
      have F : zFn L h (mm_pi (mm_pi (mm_pi h 155 L (nI (p + 1))) 156 L 0) 157 L 0) := ((zFn.pi (by omega)).trans (zFn.pi (by omega))).trans (zFn.pi (by omega))
      refine ihp' _ lk gd _ _ (hS0.fn F) ⟨?_, ?_, ?_⟩ (hL.cg (fun a => by simp only [mm_i_pi, Nat.reduceEqDiff, false_and, if_false])) (fun h' p' t' c' F' => K1 h' p' t' c' (F.trans F')) (fun h' F' => K2 h' (F.trans F'))
      · simp only [mm_i_pi, Nat.reduceEqDiff, false_and, if_false, true_and, if_true]
      · simp only [mm_i_pi, Nat.reduceEqDiff, false_and, if_false, true_and, if_true]; rfl
      · simp only [mm_i_pi, true_and, if_true]; rfl
    induction mt with
    | zero =>
      intro t ht mc c hc h lk gd v5 v6 hS hN hL K1 K2
      obtain rfl : t = 6 := by omega
      refine look 6 c h lk gd v5 v6 (Nat.le_refl 6) hS hN hL (fun h1 lk1 gd1 F1 S1 N1 L1 _ => ?_)
      have S10 := S1
      obtain ⟨hK, hG, hR, hE, hI⟩ := S1
      have nx := nextp h1 lk1 gd1 v6 6 c S10 N1 L1 (Or.inr rfl) (fun h' p' t' c' F' => K1 h' p' t' c' (F1.trans F')) (fun h' F' => K2 h' (F1.trans F'))
      cases gh : zHas L R p
      · have e0 : mm_i h1 154 p = 0 := by rw [hI p (by omega), gh]; rfl
        simp only [s128_130, s128_131, s128_134, s128_136, s128_137, s128_140, s128_141, s128_144, s128_145, s128_148, s128_149, s128_151, s128_190, s128_191, s128_194, s128_195, s128_198, s128_199, s128_200, s128_203, s128_205, or_true, true_or, true_and, and_true, mm_o_some, mm_o_none, mm_bk_v, mm_bk_n, Nat.reduceAdd, kS142 hK, kR142_14 hK, kS154 hK, hinp, hclp, e0, if_true, kR142_16 hK, kS156 hK, hR.1, hinL, hclL, N1.2.1, if_pos (show nI 6 = (6 : Int32) from rfl)]
        exact nx
      · have e0 : ¬ mm_i h1 154 p = 0 := by rw [hI p (by omega), gh]; decide
        simp only [s128_130, s128_131, s128_134, s128_136, s128_137, s128_140, s128_141, s128_144, s128_145, s128_148, s128_149, s128_151, s128_190, s128_191, s128_194, s128_195, s128_198, s128_199, s128_200, s128_203, s128_205, or_true, true_or, true_and, and_true, mm_o_some, mm_o_none, mm_bk_v, mm_bk_n, Nat.reduceAdd, kS142 hK, kR142_14 hK, kS154 hK, hinp, hclp, if_neg e0]
        exact nx
    | succ mt iht =>
      intro t ht
      have t6 : t < 6 := by omega
      have iht' := iht (t + 1) (by omega) ((zEnds R 6 L).length * (zEnds R 7 L).length * (zEnds R 8 L).length) 0 (by omega)
      intro mc
      -- the next turn
      have nextt : ∀ h lk gd (v6 : Value) c, zMs h W n P L R → zMn h L p t c → zLki h W P lk gd → (c = ((zEnds R 6 L).length * (zEnds R 7 L).length * (zEnds R 8 L).length) ∨ zGd W (P p) t = false) →
          (∀ h' p' t' c', zFn L h h' → zMn h' L p' t' (c' + 1) → p' < n → t' < 6 → c' < ((zEnds R 6 L).length * (zEnds R 7 L).length * (zEnds R 8 L).length) → zTd h' (P p') t' → zHas L R p' = false → zGd W (P p') t' = true → (zInB W (zCn R L P p' t' c') && zAdm L R (zCn R L P p' t' c')) = true → zSkp W L R (zRr W n P L R p t c) (zCn R L P p' t' c' :: zRr W n P L R p' t' (c' + 1)) → Q (.inl (some (.int 1))) h') →
          (∀ h', zFn L h h' → zSkp W L R (zRr W n P L R p t c) [] → Q (.inl (some (.int 0))) h') →
          mm_wp (d + 3) 128 208 [.ref 142, .int (nI (3 * L)), .int (nI ((zEnds R 6 L).length * (zEnds R 7 L).length * (zEnds R 8 L).length)), .int lk, .int gd, .int (nI p), v6] [] h Q := by
        intro h lk gd v6 c hS hN hL hh K1 K2
        have hS0 := hS
        obtain ⟨hK, hG, hR, hE, hI⟩ := hS
        rw [zRr_turn t6 (by rw [plen]; exact hh)] at K1 K2
        simp only [s128_208, s128_209, s128_212, s128_213, s128_216, s128_217, s128_218, s128_219, s128_220, s128_221, s128_222, s128_225, s128_226, s128_229, s128_230, s128_231, s128_287, s128_290, s128_291, or_true, true_or, true_and, and_true, mm_o_some, mm_o_none, mm_bk_v, mm_bk_n, Nat.reduceAdd, kS142 hK, kR142_16 hK, kR142_17 hK, kS156 hK, kS157 hK, mm_s_pi, mm_r_pi, mm_i_pi, hR.1, hinL, hclL, hN.2.1, nI_1, Nat.reduceEqDiff, not_false_eq_true, false_and, if_false]
        have F : zFn L h (mm_pi (mm_pi h 156 L (nI (t + 1))) 157 L 0) := (zFn.pi (by omega)).trans (zFn.pi (by omega))
        refine iht' _ lk gd _ _ (hS0.fn F) ⟨?_, ?_, ?_⟩ (hL.cg (fun a => by simp only [mm_i_pi, Nat.reduceEqDiff, false_and, if_false])) (fun h' p' t' c' F' => K1 h' p' t' c' (F.trans F')) (fun h' F' => K2 h' (F.trans F'))
        · simp only [mm_i_pi, Nat.reduceEqDiff, false_and, if_false]; exact hN.1
        · simp only [mm_i_pi, Nat.reduceEqDiff, false_and, if_false, true_and, if_true]
        · simp only [mm_i_pi, true_and, if_true]; rfl
      have n6 : ¬ nI t = (6 : Int32) := by rw [show (6 : Int32) = nI 6 from rfl, nI_eq (by omega) (by omega)]; omega
      induction mc with
      | zero =>
        intro c hc h lk gd v5 v6 hS hN hL K1 K2
        obtain rfl : c = ((zEnds R 6 L).length * (zEnds R 7 L).length * (zEnds R 8 L).length) := by omega
        refine look t _ h lk gd v5 v6 (by omega) hS hN hL (fun h1 lk1 gd1 F1 S1 N1 L1 _ => ?_)
        have S10 := S1
        obtain ⟨hK, hG, hR, hE, hI⟩ := S1
        cases gh : zHas L R p
        · have e0 : mm_i h1 154 p = 0 := by rw [hI p (by omega), gh]; rfl
          simp only [s128_130, s128_131, s128_134, s128_136, s128_137, s128_140, s128_141, s128_144, s128_145, s128_148, s128_149, s128_151, s128_190, s128_191, s128_194, s128_195, s128_198, s128_199, s128_200, s128_203, s128_205, or_true, true_or, true_and, and_true, mm_o_some, mm_o_none, mm_bk_v, mm_bk_n, Nat.reduceAdd, kS142 hK, kR142_14 hK, kS154 hK, hinp, hclp, e0, if_true, kR142_16 hK, kR142_17 hK, kS156 hK, kS157 hK, hR.1, hinL, hclL, N1.2.1, N1.2.2, if_neg n6]
          exact nextt h1 lk1 gd1 v6 _ S10 N1 L1 (Or.inl rfl) (fun h' p' t' c' F' => K1 h' p' t' c' (F1.trans F')) (fun h' F' => K2 h' (F1.trans F'))
        · have e0 : ¬ mm_i h1 154 p = 0 := by rw [hI p (by omega), gh]; decide
          simp only [s128_130, s128_131, s128_134, s128_136, s128_137, s128_140, s128_141, s128_144, s128_145, s128_148, s128_149, s128_151, s128_190, s128_191, s128_194, s128_195, s128_198, s128_199, s128_200, s128_203, s128_205, or_true, true_or, true_and, and_true, mm_o_some, mm_o_none, mm_bk_v, mm_bk_n, Nat.reduceAdd, kS142 hK, kR142_14 hK, kS154 hK, hinp, hclp, if_neg e0]
          exact nextp h1 lk1 gd1 v6 t _ S10 N1 L1 (Or.inl gh) (fun h' p' t' c' F' => K1 h' p' t' c' (F1.trans F')) (fun h' F' => K2 h' (F1.trans F'))
      | succ mc ihc =>
        intro c hc h lk gd v5 v6 hS hN hL K1 K2
        have hcA : c < ((zEnds R 6 L).length * (zEnds R 7 L).length * (zEnds R 8 L).length) := by omega
        refine look t c h lk gd v5 v6 (by omega) hS hN hL (fun h1 lk1 gd1 F1 S1 N1 L1 gT => ?_)
        obtain ⟨eg, T1⟩ := gT t6
        have S10 := S1
        obtain ⟨hK, hG, hR, hE, hI⟩ := S1
        have nA : ¬ nI c = nI ((zEnds R 6 L).length * (zEnds R 7 L).length * (zEnds R 8 L).length) := by rw [nI_eq (by omega) (by omega)]; omega
        cases gh : zHas L R p
        · have e0 : mm_i h1 154 p = 0 := by rw [hI p (by omega), gh]; rfl
          cases gg : zGd W (P p) t
          · have g0 : gd1 = 0 := by rw [eg, gg]; rfl
            simp only [s128_130, s128_131, s128_134, s128_136, s128_137, s128_140, s128_141, s128_144, s128_145, s128_148, s128_149, s128_151, s128_190, s128_191, s128_194, s128_195, s128_198, s128_199, s128_200, s128_203, s128_205, or_true, true_or, true_and, and_true, mm_o_some, mm_o_none, mm_bk_v, mm_bk_n, Nat.reduceAdd, kS142 hK, kR142_14 hK, kS154 hK, hinp, hclp, e0, if_true, kR142_16 hK, kR142_17 hK, kS156 hK, kS157 hK, hR.1, hinL, hclL, N1.2.1, N1.2.2, if_neg n6, if_neg nA, if_pos g0]
            exact nextt h1 lk1 gd1 v6 _ S10 N1 L1 (Or.inr gg) (fun h' p' t' c' F' => K1 h' p' t' c' (F1.trans F')) (fun h' F' => K2 h' (F1.trans F'))
          · have g0 : ¬ gd1 = 0 := by rw [eg, gg]; decide
            simp only [s128_130, s128_131, s128_134, s128_136, s128_137, s128_140, s128_141, s128_144, s128_145, s128_148, s128_149, s128_151, s128_190, s128_191, s128_194, s128_195, s128_198, s128_199, s128_200, s128_203, s128_205, or_true, true_or, true_and, and_true, mm_o_some, mm_o_none, mm_bk_v, mm_bk_n, Nat.reduceAdd, kS142 hK, kR142_14 hK, kS154 hK, hinp, hclp, e0, if_true, kR142_16 hK, kR142_17 hK, kS156 hK, kS157 hK, hR.1, hinL, hclL, N1.2.1, N1.2.2, if_neg n6, if_neg nA, if_neg g0]
            have Fc : zFn L h1 (mm_pi h1 157 L (nI (c + 1))) := zFn.pi (by omega)
            simp only [s128_234, s128_235, s128_238, s128_239, s128_242, s128_243, s128_245, s128_246, s128_249, s128_250, s128_253, s128_254, s128_255, s128_256, s128_257, or_true, true_or, true_and, and_true, mm_o_some, mm_o_none, mm_bk_v, mm_bk_n, Nat.reduceAdd, kS142 hK, kR142_17 hK, kS157 hK, mm_s_pi, hR.1, hinL, hclL, N1.2.2, nI_1, Nat.reduceEqDiff, not_false_eq_true]
            have N2 : zMn (mm_pi h1 157 L (nI (c + 1))) L p t (c + 1) := ⟨by rw [mm_i_pi, if_neg (by omega)]; exact N1.1, by rw [mm_i_pi, if_neg (by omega)]; exact N1.2.1, by rw [mm_i_pi, if_pos ⟨rfl, rfl⟩]⟩
            have T2 : zTd (mm_pi h1 157 L (nI (c + 1))) (P p) t := fun a ha => by rw [mm_i_pi, if_neg (by omega)]; exact T1 a ha
            have S2 := S10.fn Fc
            have L2 : zLki (mm_pi h1 157 L (nI (c + 1))) W P lk1 gd1 := L1.cg (fun a => by simp only [mm_i_pi, Nat.reduceEqDiff, false_and, if_false])
            generalize mm_pi h1 157 L (nI (c + 1)) = h2 at *
            have S20 := S2
            obtain ⟨k2, gk2, r2, me2, i2⟩ := S2
            have hx : c % (zEnds R 6 L).length < (zEnds R 6 L).length := Nat.mod_lt _ (by omega)
            have hz : c / (zEnds R 6 L).length % (zEnds R 8 L).length < (zEnds R 8 L).length := Nat.mod_lt _ (by omega)
            have hy : c / (zEnds R 6 L).length / (zEnds R 8 L).length < (zEnds R 7 L).length := by
              rw [Nat.div_div_eq_div_mul, Nat.div_lt_iff_lt_mul (Nat.mul_pos (by omega) (by omega))]
              have hc2 := hcA
              rw [Nat.mul_assoc, Nat.mul_comm (zEnds R 7 L).length, ← Nat.mul_assoc, Nat.mul_comm] at hc2
              exact hc2
            have rx := zEnds_w hV wk (k := 6) (by omega) (Nat.le_refl L) (getD_mem hx)
            have ry := zEnds_w hV wk (k := 7) (by omega) (Nat.le_refl L) (getD_mem hy)
            have rz := zEnds_w hV wk (k := 8) (by omega) (Nat.le_refl L) (getD_mem hz)
            simp only [s128_258, s128_259, s128_261, s128_262, s128_264, s128_267, s128_268, s128_270, s128_273, s128_274, s128_276, s128_279, s128_282, s128_285, s128_286, s128_287, s128_290, s128_291, or_true, true_or, true_and, and_true, mm_o_some, mm_o_none, mm_bk_v, mm_bk_n, Nat.reduceAdd, kS142 k2, c129z k2 r2.1 hL8 me2 (show c < 1000 by omega), c130z k2 r2.1 hL8 me2 hcA (show c < 1000 by omega), c131z k2 r2.1 hL8 me2 (show c < 1000 by omega), c132z k2 gk2 r2 T2 hn hpn t6 (hPk p hpn) wk hV.ok hRP rx ry rz]
            have ec : zC P p t ((zEnds R 6 L).getD (c % (zEnds R 6 L).length) 0) ((zEnds R 7 L).getD (c / (zEnds R 6 L).length / (zEnds R 8 L).length) 0) ((zEnds R 8 L).getD (c / (zEnds R 6 L).length % (zEnds R 8 L).length) 0) = zCn R L P p t c := rfl
            rw [ec]
            have er := zRr_c (n := n) hpn t6 gg gh (show c < (zPl R L P p t).length by rw [plen]; exact hcA)
            cases ga : (zInB W (zCn R L P p t c) && zAdm L R (zCn R L P p t c))
            · simp only [bI_f, if_true]
              refine ihc (c + 1) (by omega) h2 lk1 gd1 _ _ S20 N2 L2 (fun h' p' t' c' F' m1 m2 m3 m4 m5 m6 m7 m8 m9 => K1 h' p' t' c' ((F1.trans Fc).trans F') m1 m2 m3 m4 m5 m6 m7 m8 ?_) (fun h' F' m9 => K2 h' ((F1.trans Fc).trans F') ?_)
              · rw [er]; exact m9.cons ga
              · rw [er]; exact m9.cons ga
            · rw [if_neg (show ¬ bI true = 0 by decide)]
              refine K1 h2 p t c (F1.trans Fc) N2 hpn t6 hcA T2 gh gg ga ?_
              rw [er]; exact zSkp.refl
        · have e0 : ¬ mm_i h1 154 p = 0 := by rw [hI p (by omega), gh]; decide
          simp only [s128_130, s128_131, s128_134, s128_136, s128_137, s128_140, s128_141, s128_144, s128_145, s128_148, s128_149, s128_151, s128_190, s128_191, s128_194, s128_195, s128_198, s128_199, s128_200, s128_203, s128_205, or_true, true_or, true_and, and_true, mm_o_some, mm_o_none, mm_bk_v, mm_bk_n, Nat.reduceAdd, kS142 hK, kR142_14 hK, kS154 hK, hinp, hclp, if_neg e0]
          exact nextp h1 lk1 gd1 v6 t _ S10 N1 L1 (Or.inl gh) (fun h' p' t' c' F' => K1 h' p' t' c' (F1.trans F')) (fun h' F' => K2 h' (F1.trans F'))
theorem c128z (hn : n ≤ 8) (hPk : ∀ p, p < n → zPok (P p)) (wk : zWok W) (hV : zInv W L R) (hRP : zRP P n L R) (hS : zMs h W n P L R) (hN : zMn h L p t c) (hp : p ≤ n) (ht : t ≤ 6) (hc : c ≤ ((zEnds R 6 L).length * (zEnds R 7 L).length * (zEnds R 8 L).length)) (v1 v2 v3 v4 v5 v6 : Value)
    (K1 : ∀ h' p' t' c', zFn L h h' → zMn h' L p' t' (c' + 1) → p' < n → t' < 6 → c' < ((zEnds R 6 L).length * (zEnds R 7 L).length * (zEnds R 8 L).length) → zTd h' (P p') t' → zHas L R p' = false → zGd W (P p') t' = true → (zInB W (zCn R L P p' t' c') && zAdm L R (zCn R L P p' t' c')) = true → zSkp W L R (zRr W n P L R p t c) (zCn R L P p' t' c' :: zRr W n P L R p' t' (c' + 1)) → Q (.inl (some (.int 1))) h')
    (K2 : ∀ h', zFn L h h' → zSkp W L R (zRr W n P L R p t c) [] → Q (.inl (some (.int 0))) h') :
    mm_wp (d + 3) 128 0 [.ref 142, v1, v2, v3, v4, v5, v6] [] h Q := by
  have hL8 := hV.1
  have hS0 := hS
  obtain ⟨hK, hG, hR, hE, hI⟩ := hS
  have a0 : mm_i h 159 (3 * L) = nI (zEnds R 6 L).length := (hE 0 (by decide)).1
  have a1 : mm_i h 159 (3 * L + 1) = nI (zEnds R 7 L).length := (hE 1 (by decide)).1
  have a2 : mm_i h 159 (3 * L + 2) = nI (zEnds R 8 L).length := (hE 2 (by decide)).1
  have hin0 : mm_in (nI (3 * L)) 27 = true := mm_inN (by omega) (by omega)
  have hcl0 : (nI (3 * L)).toNatClampNeg = 3 * L := nI_clamp (by omega)
  have hin1 : mm_in (nI (3 * L + 1)) 27 = true := mm_inN (by omega) (by omega)
  have hcl1 : (nI (3 * L + 1)).toNatClampNeg = 3 * L + 1 := nI_clamp (by omega)
  have hin2 : mm_in (nI (3 * L + 2)) 27 = true := mm_inN (by omega) (by omega)
  have hcl2 : (nI (3 * L + 2)).toNatClampNeg = 3 * L + 2 := nI_clamp (by omega)
  have n2 : ∀ a : Nat, nI a + (2 : Int32) = nI (a + 2) := fun a => nI_add a 2
  simp only [s128_0, s128_1, s128_2, s128_5, s128_6, s128_7, s128_8, s128_11, s128_12, s128_13, s128_14, s128_17, s128_18, s128_19, s128_20, s128_21, s128_22, s128_23, s128_26, s128_27, s128_28, s128_29, s128_30, s128_31, s128_32, s128_33, s128_34, s128_35, or_true, true_or, true_and, and_true, mm_o_some, mm_o_none, mm_bk_v, mm_bk_n, Nat.reduceAdd, kS142 hK, hR.1, nI_3, kR142_19 hK, kS159 hK, nI_1, n2, hin0, hcl0, hin1, hcl1, hin2, hcl2, a0, a1, a2, nI_mul]
  exact c128_loop hn hPk wk hV hRP (n - p) p (by omega) (6 - t) t (by omega) (((zEnds R 6 L).length * (zEnds R 7 L).length * (zEnds R 8 L).length) - c) c (by omega) h _ _ _ _ hS0 hN (Or.inl rfl) K1 K2
end
