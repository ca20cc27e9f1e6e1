/-! FINDING A PIECE; GOING BEHIND A ROW -/
section
variable {d : Nat} {h h' : mm_H} {Q : mm_Q} {L n told p t a b q u v f i r : Nat} {R : zR} {W A A' : Nat → Int} {P : Nat → Nat → Int} {s s' : zS} {G : Nat → zR → zS → zS} {S T : Nat → Prop} {x y z lf rt bk fw ls : Int}
/-- where a piece lies in a row -/
def zFdF (R : zR) (p : Nat) : Nat → Nat → Option Nat
  | _, 0 => none
  | i, n + 1 => if R i 1 = (p : Int) then some i else zFdF R p (i + 1) n
def zFd (L : Nat) (R : zR) (p : Nat) : Option Nat := zFdF R p 0 L
theorem zFdF_none : ∀ n i, (zFdF R p i n = none ↔ ∀ k, i ≤ k → k < i + n → ¬ R k 1 = (p : Int)) := by
  intro n
  induction n with
  | zero => intro i; exact ⟨fun _ k k1 k2 => by omega, fun _ => rfl⟩
  | succ n ih =>
    intro i
    simp only [zFdF]
    by_cases e : R i 1 = (p : Int)
    · rw [if_pos e]
      exact ⟨fun q => by simp at q, fun q => absurd e (q i (by omega) (by omega))⟩
    · rw [if_neg e, ih (i + 1)]
      constructor
      · intro q k k1 k2
        by_cases ek : k = i
        · rw [ek]; exact e
        · exact q k (by omega) (by omega)
      · intro q k k1 k2
        exact q k (by omega) (by omega)
theorem zFd_none : zFd L R p = none ↔ zHas L R p = false := by
  rw [zFd, zFdF_none, zHas, Bool.not_eq_false', zAll_iff]
  constructor
  · intro q i hi
    have := q i (by omega) (by omega)
    simpa using this
  · intro q k _ k2
    have := q k (by omega)
    simpa using this
theorem fdR_eq (hR : zRw h r L R) (hO : ∀ i, i < L → zOk (R i)) (hp : p < 8) : ∀ n i, i + n = L → fdR h (fun i => r + 2 + i) (nI p) i n = (zFdF R p i n).map (fun i => r + 2 + i) := by
  intro n
  induction n with
  | zero => intro i _; rfl
  | succ n ih =>
    intro i hi
    have o := hO i (by omega)
    have e : mm_i h (r + 2 + i) 1 = zI (R i 1) := (hR.2.2.2 i (by omega)).2 1 (by decide) (by decide)
    have rp : zr (p : Int) := by simp only [zr]; omega
    simp only [fdR, zFdF, e, zI_n, zI_eq (o.r 1 (by decide) (by decide)) rp]
    split
    · rfl
    · rw [← zI_n]; exact ih (i + 1) (by omega)
theorem c59z (hR : zRw h r L R) (hO : ∀ i, i < L → zOk (R i)) (hp : p < 8) (v2 : Value) : mm_wp d 59 0 [.ref r, .int (nI p), v2] [] h Q ↔ Q (.inl (some (mm_o ((zFd L R p).map (fun i => r + 2 + i))))) h := by
  simp only [s59_0, s59_1]
  rw [← nI_lit0, c59_loop (r := r) (sA := r + 1) (L := L) (p := fun i => r + 2 + i) ⟨hR.1.1, hR.1.2.1, hR.1.2.2.1, hR.1.2.2.2, hR.2.2.1, hR.2.1⟩ L 0 (by omega), fdR_eq hR hO hp L 0 (by omega)]
  rfl
/-- a piece taken into the slot behind the row -/
theorem zFr.tk (F : T a) : zFr T h (takeH h a q t A) := (((((((((zFr.pi F).trans (zFr.pi F)).trans (zFr.pi F)).trans (zFr.pi F)).trans (zFr.pi F)).trans (zFr.pi F)).trans (zFr.pi F)).trans (zFr.pi F)).trans (zFr.pi F))
theorem takeH_i (k : Nat) : mm_i (takeH h a q t A) a k = if k = 15 then 0 else if k = 14 then zI (A 9) else if k = 13 then zI (A 8) else if k = 12 then zI (A 6) else if k = 11 then zI (zD A t) else if k = 10 then zI (zH A t) else if k = 9 then zI (zW A t) else if k = 2 then nI t else if k = 1 then nI q else mm_i h a k := by
  simp only [takeH, mm_i_pi, true_and]
theorem zPt.tk (hs : (mm_s h a).1 = 6) : zPt zS3 (takeH h a p t (P p)) a (zC P p t 0 0 0) := by
  refine ⟨by simp only [takeH, mm_s_pi]; exact hs, fun k k1 k2 k3 => ?_⟩
  simp only [zS3] at k3
  rw [takeH_i]
  have : k = 1 ∨ k = 2 ∨ k = 9 ∨ k = 10 ∨ k = 11 ∨ k = 12 ∨ k = 13 ∨ k = 14 ∨ k = 15 := by omega
  rcases this with rfl | rfl | rfl | rfl | rfl | rfl | rfl | rfl | rfl <;> simp only [zC, Nat.reduceEqDiff, reduceIte, zI_n] <;> rfl
theorem range_drop {n i : Nat} (h : i < n) : (List.range n).drop i = i :: (List.range n).drop (i + 1) := by
  rw [List.drop_eq_getElem_cons (by simpa using h)]
  simp
theorem zCS.fl (hS : zCS h W n P told L R s) (F : zFr (fun x => 76 ≤ x ∧ x < 140) h h') (hn : n ≤ 8) : zCS h' W n P told L R s := by
  obtain ⟨hK, hG, hRv, hBv, hEs, hNu, i8, i9, i10⟩ := hS
  exact ⟨zFr.sk hK F, hG.fr F (fun x hx => by omega) hn, hRv.fr F (fun x x1 x2 => by omega), hBv.fr F (fun x x1 x2 => by omega), hEs.fr F (fun x x1 x2 => by omega), hNu.fr F (fun x x1 x2 => by omega), by rw [F.i (by omega)]; exact i8, by rw [F.i (by omega)]; exact i9, by rw [F.i (by omega)]; exact i10⟩
theorem c52_t (hn : n ≤ 8) (hI : zInv W L R) (ht : told ≤ 1000) (h8 : L < 8) (hW : zWok W) (hPk : ∀ p, p < n → zPok (P p))
    (hGq : ∀ R' s', zInv W (L + 1) R' → zSq told s' → zSq told (G (L + 1) R' s'))
    (IH : ∀ h1 R1 s1 Q1, zCS h1 W n P told (L + 1) R1 s1 → zInv W (L + 1) R1 → zSw s1 → s1.2.1 = false → s1.1 ≤ told → (∀ h2, zCS h2 W n P told (L + 1) R1 (G (L + 1) R1 s1) → zFr (zT (L + 1)) h1 h2 → Q1 (.inl none) h2) → mm_wp (d + 2) 52 0 [.ref 21, .int (nI (L + 1)), mm_j, mm_j, mm_j, mm_j, mm_j] [] h1 Q1) (hpn : p < n) :
    ∀ m t h s, t + m = 6 → zCS h W n P told L R s → zSq told s → zFls h W L R →
      (∀ h' tv, zCS h' W n P told L R (zFt G told W L R P p ((List.range 6).drop t) s) → zSq told (zFt G told W L R P p ((List.range 6).drop t) s) → zFls h' W L R → zFr (zT (L + 1)) h h' → mm_wp (d + 6) 52 128 [.ref 21, .int (nI L), .ref (24 + L), .int (nI p), .ref (5 + 2 * p), .int 1, .int tv] [] h' Q) →
      mm_wp (d + 6) 52 78 [.ref 21, .int (nI L), .ref (24 + L), .int (nI p), .ref (5 + 2 * p), .int 1, .int (nI t)] [] h Q := by
  have c10 : ¬ (1 : Int32) = 0 := by decide
  intro m
  induction m with
  | zero =>
    intro t h s hj hS hq hF H
    have c : (6 : Int32) ≤ nI t := by rw [show t = 6 by omega]; decide
    rw [s52_78]
    simp only [s52_80, s52_82, s52_85, s52_87, s52_90, s52_91, s52_94, s52_97, s52_97o, s52_97n, s52_99, s52_102, s52_104, s52_105, s52_108, s52_108o, s52_108n, s52_109, s52_110, s52_110o, s52_110n, s52_112, s52_114, s52_122, s52_125, or_true, true_or, true_and, and_true, mm_o_some, mm_o_none, mm_bk_v, mm_bk_n, Nat.reduceAdd, if_pos c]
    rw [List.drop_of_length_le (by simp; omega)] at H
    exact H h _ hS hq hF zFr.refl
  | succ m ih =>
    intro t h s hj hS hq hF H
    have hS0 := hS
    obtain ⟨hK, hG, hRv, hBv, hEs, hNu, i8, i9, i10⟩ := hS
    have t6 : t < 6 := by omega
    have c : ¬ (6 : Int32) ≤ nI t := nI_ge (b := 6) t6 (by omega)
    rw [s52_78]
    by_cases hsp : s.2.1 = true
    · have c2 : ¬ mm_i h 21 10 = 0 := by rw [i10, hsp]; decide
      simp only [s52_80, s52_82, s52_85, s52_87, s52_90, s52_91, s52_94, s52_97, s52_97o, s52_97n, s52_99, s52_102, s52_104, s52_105, s52_108, s52_108o, s52_108n, s52_109, s52_110, s52_110o, s52_110n, s52_112, s52_114, s52_122, s52_125, or_true, true_or, true_and, and_true, mm_o_some, mm_o_none, mm_bk_v, mm_bk_n, Nat.reduceAdd, kS21 hK, if_neg c, if_neg c10, if_neg c2]
      rw [zFt_sp hsp] at H
      exact H h _ hS0 hq hF zFr.refl
    · have hsp' : s.2.1 = false := by simpa using hsp
      have c2 : mm_i h 21 10 = 0 := by rw [i10, hsp']; rfl
      rw [range_drop t6, zFt, List.foldl_cons, ← zFt] at H
      have hin : mm_in (nI t) 6 = true := mm_inN t6 (by omega)
      have hcl : (nI t).toNatClampNeg = t := nI_clamp (by omega)
      have pr : mm_r h (5 + 2 * p) 1 = some (6 + 2 * p) := hK.2.2 (5 + 2 * p) 1 (6 + 2 * p) ((show ∀ p, p < 8 → kR (5 + 2 * p) 1 = some (6 + 2 * p) by decide) p (by omega))
      have eg := hG.2.2.2 p t hpn t6
      cases hgd : zGd W (P p) t
      · have c3 : mm_i h (6 + 2 * p) t = 0 := by rw [eg, hgd]; rfl
        simp only [s52_80, s52_82, s52_85, s52_87, s52_90, s52_91, s52_94, s52_97, s52_97o, s52_97n, s52_99, s52_102, s52_104, s52_105, s52_108, s52_108o, s52_108n, s52_109, s52_110, s52_110o, s52_110n, s52_112, s52_114, s52_122, s52_125, or_true, true_or, true_and, and_true, mm_o_some, mm_o_none, mm_bk_v, mm_bk_n, Nat.reduceAdd, kS21 hK, if_neg c, if_neg c10, if_pos c2, kS_piece hK (show p < 8 by omega), kS_good hK (show p < 8 by omega), pr, hin, hcl, if_pos c3, nI_1]
        rw [hgd] at H
        exact ih (t + 1) h s (by omega) hS0 hq hF H
      · have c3 : ¬ mm_i h (6 + 2 * p) t = 0 := by rw [eg, hgd]; decide
        rw [hgd] at H
        simp only [if_true] at H
        simp only [s52_80, s52_82, s52_85, s52_87, s52_90, s52_91, s52_94, s52_97, s52_97o, s52_97n, s52_99, s52_102, s52_104, s52_105, s52_108, s52_108o, s52_108n, s52_109, s52_110, s52_110o, s52_110n, s52_112, s52_114, s52_122, s52_125, or_true, true_or, true_and, and_true, mm_o_some, mm_o_none, mm_bk_v, mm_bk_n, Nat.reduceAdd, kS21 hK, if_neg c, if_neg c10, if_pos c2, kS_piece hK (show p < 8 by omega), kS_good hK (show p < 8 by omega), pr, hin, hcl, if_neg c3, kS_slot hK h8, c60z (hG.2.2.1 p hpn) (show (mm_s h (24 + L)).1 = 6 by rw [kS_slot hK h8]) (show ¬ 5 + 2 * p = 24 + L by omega) t6, show (takeH h (24 + L) p t (P p)) = takeH h (24 + L) p t (P p) from rfl]
        have F1 : zFr (fun x => x = 24 + L) h (takeH h (24 + L) p t (P p)) := zFr.tk rfl
        have hS1 := hS0.slot F1 hn h8 (by rw [takeH_i]; rfl)
        have hP1 : zPt zS3 (takeH h (24 + L) p t (P p)) (24 + L) (zC P p t 0 0 0) := zPt.tk (by rw [kS_slot hK h8])
        have F1' : zFr (zT (L + 1)) h (takeH h (24 + L) p t (P p)) := zFr.mono F1 (fun a ha => by simp only [zT]; omega)
        have hF1 := hF.fr F1' h8
        generalize takeH h (24 + L) p t (P p) = h1 at *
        have hK1 := hS1.1
        simp only [s52_117, s52_118, s52_118o, s52_118n, s52_119, or_true, true_or, true_and, and_true, mm_o_some, mm_o_none, mm_bk_v, mm_bk_n, Nat.reduceAdd, kS21 hK1]
        refine c61z (G := G) hn hI ht h8 hW (hPk p hpn) (by omega) t6 hGq IH hS1 hq hP1 hF1 (fun h2 S2 q2 P2 F2 => ?_)
        simp only [s52_122, s52_125, or_true, true_or, true_and, and_true, mm_o_some, mm_o_none, mm_bk_v, mm_bk_n, Nat.reduceAdd, nI_1]
        exact ih (t + 1) h2 _ (by omega) S2 q2 (hF1.fr F2 h8) (fun h' tv a b c F => H h' tv a b c (F1'.trans (F2.trans F)))
theorem c52_p (hn : n ≤ 8) (hI : zInv W L R) (ht : told ≤ 1000) (h8 : L < 8) (hW : zWok W) (hPk : ∀ p, p < n → zPok (P p))
    (hGq : ∀ R' s', zInv W (L + 1) R' → zSq told s' → zSq told (G (L + 1) R' s'))
    (IH : ∀ h1 R1 s1 Q1, zCS h1 W n P told (L + 1) R1 s1 → zInv W (L + 1) R1 → zSw s1 → s1.2.1 = false → s1.1 ≤ told → (∀ h2, zCS h2 W n P told (L + 1) R1 (G (L + 1) R1 s1) → zFr (zT (L + 1)) h1 h2 → Q1 (.inl none) h2) → mm_wp (d + 2) 52 0 [.ref 21, .int (nI (L + 1)), mm_j, mm_j, mm_j, mm_j, mm_j] [] h1 Q1) :
    ∀ m p h s (v4 v5 v6 : Value), p + m = n → zCS h W n P told L R s → zSq told s → zFls h W L R →
      (∀ h', zCS h' W n P told L R (zFp G told W L R P ((List.range n).drop p) s) → zSq told (zFp G told W L R P ((List.range n).drop p) s) → zFr (zT (L + 1)) h h' → Q (.inl none) h') →
      mm_wp (d + 6) 52 28 [.ref 21, .int (nI L), .ref (24 + L), .int (nI p), v4, v5, v6] [] h Q := by
  intro m
  induction m with
  | zero =>
    intro p h s v4 v5 v6 hj hS hq hF H
    have hS0 := hS
    obtain ⟨hK, hG, hRv, hBv, hEs, hNu, i8, i9, i10⟩ := hS
    have c : nI n ≤ nI p := by rw [show p = n by omega]; exact Int32.le_refl _
    rw [s52_28]
    simp only [s52_29, s52_30, s52_33, s52_36, s52_39, s52_40, s52_43, s52_46, s52_47, s52_50, s52_53, s52_54, s52_55, s52_55o, s52_55n, s52_57, s52_58, s52_61, s52_62, s52_65, s52_65r, s52_65n, s52_68, s52_69, s52_72, s52_73, s52_75, s52_76, s52_134, or_true, true_or, true_and, and_true, mm_o_some, mm_o_none, mm_bk_v, mm_bk_n, Nat.reduceAdd, kS21 hK, kR21_1 hK, kS3 hK, hG.2.1, if_pos c]
    rw [List.drop_of_length_le (by simp; omega)] at H
    exact H h hS0 hq zFr.refl
  | succ m ih =>
    intro p h s v4 v5 v6 hj hS hq hF H
    have hS0 := hS
    obtain ⟨hK, hG, hRv, hBv, hEs, hNu, i8, i9, i10⟩ := hS
    have hpn : p < n := by omega
    have c : ¬ nI n ≤ nI p := nI_ge hpn (by omega)
    have c6 : ¬ (6 : Int32) ≤ 0 := by decide
    rw [s52_28]
    by_cases hsp : s.2.1 = true
    · have c2 : ¬ mm_i h 21 10 = 0 := by rw [i10, hsp]; decide
      simp only [s52_29, s52_30, s52_33, s52_36, s52_39, s52_40, s52_43, s52_46, s52_47, s52_50, s52_53, s52_54, s52_55, s52_55o, s52_55n, s52_57, s52_58, s52_61, s52_62, s52_65, s52_65r, s52_65n, s52_68, s52_69, s52_72, s52_73, s52_75, s52_76, s52_134, or_true, true_or, true_and, and_true, mm_o_some, mm_o_none, mm_bk_v, mm_bk_n, Nat.reduceAdd, kS21 hK, kR21_1 hK, kS3 hK, hG.2.1, if_neg c, if_neg c2]
      rw [zFp_sp hsp] at H
      exact H h hS0 hq zFr.refl
    · have hsp' : s.2.1 = false := by simpa using hsp
      have c2 : mm_i h 21 10 = 0 := by rw [i10, hsp']; rfl
      rw [range_drop hpn, zFp, List.foldl_cons, ← zFp] at H
      have hin : mm_in (nI p) 8 = true := mm_inN (by omega) (by omega)
      have hcl : (nI p).toNatClampNeg = p := nI_clamp (by omega)
      simp only [s52_29, s52_30, s52_33, s52_36, s52_39, s52_40, s52_43, s52_46, s52_47, s52_50, s52_53, s52_54, s52_55, s52_55o, s52_55n, s52_57, s52_58, s52_61, s52_62, s52_65, s52_65r, s52_65n, s52_68, s52_69, s52_72, s52_73, s52_75, s52_76, s52_134, or_true, true_or, true_and, and_true, mm_o_some, mm_o_none, mm_bk_v, mm_bk_n, Nat.reduceAdd, kS21 hK, kR21_1 hK, kR21_2 hK, kS3 hK, kR3_0 hK, kS4 hK, kS22 hK, hG.2.1, if_neg c, if_pos c2, hin, hcl, kR_pieces hK (show p < 8 by omega), Nat.reduceLeDiff, c59z hRv.1 hI.ok (show p < 8 by omega)]
      cases hh : zHas L R p
      · have e0 : (zFd L R p).map (fun i => 22 + 2 + i) = none := by rw [zFd_none.mpr hh]; rfl
        rw [hh] at H
        simp only [Bool.false_eq_true, if_false] at H
        rw [if_pos e0, ← nI_lit0]
        refine c52_t (G := G) hn hI ht h8 hW hPk hGq IH hpn 6 0 h s (by omega) hS0 hq hF (fun h2 tv S2 q2 F2 E2 => ?_)
        rw [List.drop_zero] at S2 q2
        simp only [s52_128, s52_131, nI_1]
        exact ih (p + 1) h2 _ _ _ _ (by omega) S2 q2 F2 (fun h' a b F => H h' a b (E2.trans F))
      · have e0 : ¬ (zFd L R p).map (fun i => 22 + 2 + i) = none := by
          intro q
          have := zFd_none.mp (by simpa using q)
          rw [hh] at this
          exact absurd this (by decide)
        rw [hh] at H
        simp only [if_true] at H
        rw [if_neg e0]
        simp only [s52_78, s52_80, s52_82, s52_85, s52_87, if_neg c6, if_true, s52_128, s52_131, nI_1]
        exact ih (p + 1) h s _ _ _ (by omega) hS0 hq hF H
/-- going behind a row of L pieces, with f = 8 - L places left -/
theorem c52z (hn : n ≤ 8) (ht : told ≤ 1000) (hW : zWok W) (hPk : ∀ p, p < n → zPok (P p)) : ∀ f L h R s Q, f + L = 8 → zCS h W n P told L R s → zInv W L R → zSq told s → (∀ h2, zCS h2 W n P told L R (zGo told W n P f L R s) → zFr (zT L) h h2 → Q (.inl none) h2) → mm_wp (d + 4 * f + 2) 52 0 [.ref 21, .int (nI L), mm_j, mm_j, mm_j, mm_j, mm_j] [] h Q := by
  intro f
  induction f with
  | zero =>
    intro L h R s Q hf hS hI hq H
    have c1 : ¬ nI L < 0 := nI_pos (by omega)
    have c2 : ¬ nI L < (8 : Int32) := nI_nlt (b := 8) (by omega) (by omega)
    simp only [s52_0, s52_1, s52_4, s52_5, s52_7, s52_10, s52_11, s52_12, s52_13, or_true, true_or, true_and, and_true, mm_o_some, mm_o_none, mm_bk_v, mm_bk_n, Nat.reduceAdd, if_neg c1, if_neg c2]
    exact H h hS zFr.refl
  | succ f ih =>
    intro L h R s Q hf hS hI hq H
    have h8 : L < 8 := by omega
    have hS0 := hS
    obtain ⟨hK, hG, hRv, hBv, hEs, hNu, i8, i9, i10⟩ := hS
    have c1 : ¬ nI L < 0 := nI_pos (by omega)
    have c2 : nI L < (8 : Int32) := nI_lt (b := 8) (by omega) (by omega)
    rw [show d + 4 * (f + 1) + 2 = d + 4 * f + 6 by omega]
    simp only [s52_0, s52_1, s52_4, s52_5, s52_7, s52_10, s52_11, s52_12, s52_13, or_true, true_or, true_and, and_true, mm_o_some, mm_o_none, mm_bk_v, mm_bk_n, Nat.reduceAdd, if_neg c1, if_pos c2, kS21 hK]
    refine c53z (d := d + 4 * f + 2) h8 hI.ok (fun i hi => ?_) (zEnds_len R 7 L).1 hK hRv.1 (hEs L (Nat.le_refl L) h8).2.1 hG.1 _ (fun h1 F1 g0 gk => ?_)
    · have := zEnds_w hI hW (k := 7) (by omega) (Nat.le_refl L) (getD_mem hi)
      simp only [zr]; omega
    · have hS1 := hS0.fl (F1.mono (fun a ha => by omega)) hn
      have hK1 := hS1.1
      have hin : mm_in (nI L) 8 = true := mm_inN h8 (by omega)
      have hcl : (nI L).toNatClampNeg = L := nI_clamp (by omega)
      simp only [s52_16, s52_17, s52_20, s52_23, s52_24, s52_25, s52_25o, s52_25n, s52_26, s52_27, or_true, true_or, true_and, and_true, mm_o_some, mm_o_none, mm_bk_v, mm_bk_n, Nat.reduceAdd, kS21 hK1, kR21_2 hK1, kS22 hK1, kR22_0 hK1, kS23 hK1, hin, hcl, kR_slots hK1 h8, Nat.reduceLeDiff]
      rw [← nI_lit0]
      refine c52_p (G := zGo told W n P f) hn hI ht h8 hW hPk (fun R' s' hI' hs' => zGo_q hW hPk hn f (L + 1) R' s' (by omega) hI' hs') (fun h1 R1 s1 Q1 S1 I1 w1 _ m1 K => ih (L + 1) h1 R1 s1 Q1 (by omega) S1 I1 ⟨w1, m1⟩ K) n 0 h1 s _ _ _ (by omega) hS1 hq ⟨g0, gk⟩ (fun h2 S2 q2 F2 => ?_)
      rw [List.drop_zero, ← zFp_eq] at S2
      refine H h2 S2 ((F1.mono (fun a ha => by simp only [zT]; omega)).trans (F2.mono (fun a ha => by simp only [zT] at *; omega)))
end
