/-! THE CLASS BETWEEN CALLS -/
section
variable {h h' : mm_H} {a : Nat}
/-- the cells below 168 are the same -/
def zAg (h h' : mm_H) : Prop := mm_n h ≤ mm_n h' ∧ ∀ a, a < 168 → mm_s h' a = mm_s h a ∧ ∀ k, mm_i h' a k = mm_i h a k ∧ mm_l h' a k = mm_l h a k ∧ mm_r h' a k = mm_r h a k
theorem zAg.s (H : zAg h h') (ha : a < 168) : mm_s h' a = mm_s h a := (H.2 a ha).1
theorem zAg.i (H : zAg h h') (ha : a < 168) (k : Nat) : mm_i h' a k = mm_i h a k := ((H.2 a ha).2 k).1
theorem zAg.l (H : zAg h h') (ha : a < 168) (k : Nat) : mm_l h' a k = mm_l h a k := ((H.2 a ha).2 k).2.1
theorem zAg.r (H : zAg h h') (ha : a < 168) (k : Nat) : mm_r h' a k = mm_r h a k := ((H.2 a ha).2 k).2.2
theorem zAg.nw (hn : 168 ≤ mm_n h) (kd len sl : Nat) : zAg h (mm_nw h kd len sl) := by
  refine ⟨by rw [mm_n_nw]; omega, fun a ha => ?_⟩
  have e : ¬ a = mm_n h := by omega
  refine ⟨by rw [mm_s_nw, if_neg e], fun k => ⟨by rw [mm_i_nw, if_neg e], by rw [mm_l_nw, if_neg e], by rw [mm_r_nw, if_neg e]⟩⟩
end
section
variable {d : Nat} {h h' : mm_H} {Q : mm_Q} {L n a b q t u i r e j na bL : Nat} {W p A : Nat → Int} {m mk : Int} {R bR : zR} {P : Nat → Nat → Int} {sp : Bool} {T : Nat → Prop} {x : Int32} {l : List Int}
theorem kR_lt : ∀ a k b, kR a k = some b → a < 168 := by
  intro a k b H
  by_cases ha : a < 168
  · exact ha
  · rw [kR, List.getD_eq_getElem?_getD (l := kRl), List.getElem?_eq_none (by rw [show kRl.length = 168 by decide +kernel]; omega)] at H
    simp at H
theorem zSK.ag (H : zSK h) (F : zAg h h') : zSK h' := ⟨Nat.le_trans H.1 F.1, fun a a1 a2 => by rw [F.s a2]; exact H.2.1 a a1 a2, fun a k b hk => by rw [F.r (kR_lt a k b hk)]; exact H.2.2 a k b hk⟩
theorem zRec.ag (hA : zRec h a p) (F : zAg h h') (ha : a < 168) : zRec h' a p := ⟨by rw [F.s ha]; exact hA.1, fun k k1 k2 => by rw [F.i ha]; exact hA.2 k k1 k2⟩
theorem zPc.ag (hA : zPc h a p) (F : zAg h h') (ha : a < 168) : zPc h' a p := ⟨by rw [F.s ha]; exact hA.1, fun k k1 k2 => by rw [F.i ha]; exact hA.2 k k1 k2⟩
theorem zRw.ag (H : zRw h r L R) (F : zAg h h') (hr : r + 10 ≤ 168) : zRw h' r L R := by
  obtain ⟨⟨h1, h2, h3, h4⟩, h5, h6, h7⟩ := H
  refine ⟨⟨by rw [F.s (by omega)]; exact h1, by rw [F.r (by omega)]; exact h2, by rw [F.s (by omega)]; exact h3, fun i hi => ⟨by rw [F.r (by omega)]; exact (h4 i hi).1, by rw [F.s (by omega)]; exact (h4 i hi).2⟩⟩, h5, by rw [F.i (by omega)]; exact h6, fun i hi => (h7 i hi).ag F (by omega)⟩
theorem zRv.ag (H : zRv h r L R) (F : zAg h h') (hr : r + 10 ≤ 168) : zRv h' r L R := ⟨H.1.ag F hr, by rw [F.i (by omega)]; exact H.2.1, by rw [F.l (by omega)]; exact H.2.2⟩
theorem zEd.ag (H : zEd h e j l) (F : zAg h h') (he : e + 11 ≤ 168) (hj : j < 8) : zEd h' e j l := ⟨by rw [F.i (by omega)]; exact H.1, H.2.1, fun i hi => by rw [F.i (by omega)]; exact H.2.2 i hi⟩
theorem zCg.ag (H : zCg h W n P) (F : zAg h h') (hn : n ≤ 8) : zCg h' W n P := ⟨fun k hk => by rw [F.i (by omega)]; exact H.1 k hk, by rw [F.i (by omega)]; exact H.2.1, fun p hp => (H.2.2.1 p hp).ag F (by omega), fun p t hp ht => by rw [F.i (by omega)]; exact H.2.2.2 p t hp ht⟩
theorem zEs.ag (H : zEs h R L) (F : zAg h h') : zEs h' R L := fun j h1 h2 => ⟨(H j h1 h2).1.ag F (by omega) h2, (H j h1 h2).2.1.ag F (by omega) h2, (H j h1 h2).2.2.ag F (by omega) h2⟩
theorem zNu.ag (H : zNu h) (F : zAg h h') : zNu h' := fun i hi => ⟨by rw [F.i (by omega)]; exact (H i hi).1, by rw [F.i (by omega)]; exact (H i hi).2⟩
def zR0 : zR := fun _ _ => 0
/-- the class: its box, its pieces, what the last search found, its axles -/
def zCl (h : mm_H) (W : Nat → Int) (n : Nat) (P : Nat → Nat → Int) (mk : Int) (sp : Bool) (bL : Nat) (bR : zR) (na : Nat) (A : Nat → Int) : Prop :=
  zSK h ∧ zCg h W n P ∧ (∀ p, p < n → mm_i h (5 + 2 * p) 2 = zI (zFits W (P p))) ∧ zRv h 32 bL bR ∧ zEs h zR0 0 ∧ zNu h ∧ mm_i h 21 9 = zI mk ∧ mm_i h 21 10 = bI sp ∧ mm_i h 140 1 = nI na ∧ ∀ i, i < na → mm_i h 141 i = zI (A i)
theorem zCl.ag (H : zCl h W n P mk sp bL bR na A) (F : zAg h h') (hn : n ≤ 8) : zCl h' W n P mk sp bL bR na A := by
  obtain ⟨h1, h2, h3, h4, h5, h6, h7, h8, h9, h10⟩ := H
  exact ⟨h1.ag F, h2.ag F hn, fun p hp => by rw [F.i (by omega)]; exact h3 p hp, h4.ag F (by omega), h5.ag F, h6.ag F, by rw [F.i (by omega)]; exact h7, by rw [F.i (by omega)]; exact h8, by rw [F.i (by omega)]; exact h9, fun i hi => by rw [F.i (by omega)]; exact h10 i hi⟩
theorem zCl.fr (H : zCl h W n P mk sp bL bR na A) (F : zFr T h h') (hn : n ≤ 8) (hT : ∀ x, x < 142 → ¬ T x) : zCl h' W n P mk sp bL bR na A := by
  obtain ⟨h1, h2, h3, h4, h5, h6, h7, h8, h9, h10⟩ := H
  exact ⟨zFr.sk h1 F, h2.fr F (fun x hx => hT x (by omega)) hn, fun p hp => by rw [F.i (hT _ (by omega))]; exact h3 p hp, h4.fr F (fun x x1 x2 => hT x (by omega)), h5.fr F (fun x x1 x2 => hT x (by omega)), h6.fr F (fun x x1 x2 => hT x (by omega)), by rw [F.i (hT _ (by omega))]; exact h7, by rw [F.i (hT _ (by omega))]; exact h8, by rw [F.i (hT _ (by omega))]; exact h9, fun i hi => by rw [F.i (hT _ (by omega))]; exact h10 i hi⟩
/-- an index, of few -/
theorem zix (x : Int32) {n : Nat} (hn : n < 2 ^ 31) : (x < 0 ∨ (¬ x < 0 ∧ ¬ x < nI n)) ∨ ∃ j, j < n ∧ x = nI j := by
  by_cases h0 : x < 0
  · exact Or.inl (Or.inl h0)
  · by_cases h1 : x < nI n
    · have e0 : ¬ x.toInt < 0 := fun q => h0 (Int32.lt_iff_toInt_lt.mpr q)
      have e1 : x.toInt < n := by
        have := Int32.lt_iff_toInt_lt.mp h1
        rw [nI_toInt hn] at this
        exact this
      refine Or.inr ⟨x.toInt.toNat, by omega, ?_⟩
      rw [← Int32.toInt_inj, nI_toInt (by omega)]
      omega
    · exact Or.inl (Or.inr ⟨h0, h1⟩)
theorem zI_x (x : Int32) : zI x.toInt = x := by rw [zI, Int32.ofInt_toInt]
theorem zr_x (x : Int32) : zr x.toInt := ⟨Int32.le_toInt x, Int32.toInt_lt x⟩
theorem c28z (hr : (mm_s h r).1 = 7) : mm_wp d 28 0 [.ref r] [] h Q ↔ Q (.inl none) (mm_pl (mm_pi (mm_pi h r 1 0) r 2 0) r 3 0) := by
  simp only [s28_0, s28_1, s28_2, s28_5, s28_6, s28_7, s28_10, s28_11, s28_12, s28_15, or_true, true_or, true_and, and_true, mm_o_some, mm_o_none, mm_bk_v, mm_bk_n, Nat.reduceAdd, hr, mm_s_pi]
/-- a row made empty -/
theorem zRv_clear (hs : zSk h r) : zRv (mm_pl (mm_pi (mm_pi h r 1 0) r 2 0) r 3 0) r 0 R := by
  refine ⟨⟨?_, by omega, ?_, fun i hi => absurd hi (Nat.not_lt_zero i)⟩, ?_, ?_⟩
  · exact hs
  · rw [mm_i_pl, mm_i_pi, if_neg (by omega), mm_i_pi, if_pos ⟨rfl, rfl⟩]; rfl
  · rw [mm_i_pl, mm_i_pi, if_pos ⟨rfl, rfl⟩]; rfl
  · rw [mm_l_pl, if_pos ⟨rfl, rfl⟩]; rfl
theorem zFr_clear (hT : T r) : zFr T h (mm_pl (mm_pi (mm_pi h r 1 0) r 2 0) r 3 0) := ((zFr.pi hT).trans (zFr.pi hT)).trans (zFr.pl hT)
/-- forgetting what was found -/
theorem c27z (H : zCl h W n P mk sp bL bR na A) (hn : n ≤ 8) (K : ∀ h', zFr (fun x => x = 21 ∨ x = 32) h h' → zCl h' W n P (-1) sp 0 zR0 na A → Q (.inl none) h') : mm_wp (d + 1) 27 0 [.ref 21] [] h Q := by
  obtain ⟨h1, h2, h3, h4, h5, h6, h7, h8, h9, h10⟩ := H
  have s32 : (mm_s (mm_pi h 21 9 (-1)) 32).1 = 7 := by rw [mm_s_pi, kS32 h1]
  simp only [s27_0, s27_1, s27_2, s27_5, s27_6, s27_9, s27_12, or_true, true_or, true_and, and_true, mm_o_some, mm_o_none, mm_bk_v, mm_bk_n, Nat.reduceAdd, kS21 h1, kS32 h1, mm_s_pi, mm_r_pi, kR21_3 h1, c28z s32]
  have F1 : zFr (fun x => x = 21 ∨ x = 32) h (mm_pi h 21 9 (-1)) := zFr.pi (Or.inl rfl)
  have F2 : zFr (fun x => x = 21 ∨ x = 32) (mm_pi h 21 9 (-1)) (mm_pl (mm_pi (mm_pi (mm_pi h 21 9 (-1)) 32 1 0) 32 2 0) 32 3 0) := zFr_clear (Or.inr rfl)
  have e9 : mm_i (mm_pl (mm_pi (mm_pi (mm_pi h 21 9 (-1)) 32 1 0) 32 2 0) 32 3 0) 21 9 = zI (-1) := by
    rw [mm_i_pl, mm_i_pi, if_neg (by omega), mm_i_pi, if_neg (by omega), mm_i_pi, if_pos ⟨rfl, rfl⟩]; rfl
  have e10 : mm_i (mm_pl (mm_pi (mm_pi (mm_pi h 21 9 (-1)) 32 1 0) 32 2 0) 32 3 0) 21 10 = bI sp := by
    rw [mm_i_pl, mm_i_pi, if_neg (by omega), mm_i_pi, if_neg (by omega), mm_i_pi, if_neg (by omega)]; exact h8
  have V : zRv (mm_pl (mm_pi (mm_pi (mm_pi h 21 9 (-1)) 32 1 0) 32 2 0) 32 3 0) 32 0 zR0 := zRv_clear (h := mm_pi h 21 9 (-1)) h4.1.1
  have F := F1.trans F2
  generalize mm_pl (mm_pi (mm_pi (mm_pi h 21 9 (-1)) 32 1 0) 32 2 0) 32 3 0 = h2' at *
  have N : zNu h2' := fun i hi => ⟨by rw [F.i (by omega)]; exact (h6 i hi).1, by rw [F.i (by omega)]; exact (h6 i hi).2⟩
  exact K _ F ⟨zFr.sk h1 F, h2.fr F (fun x hx => by omega) hn, fun p hp => by rw [F.i (by omega)]; exact h3 p hp, V, h5.fr F (fun x x1 x2 => by omega), N, e9, e10, by rw [F.i (by omega)]; exact h9, fun i hi => by rw [F.i (by omega)]; exact h10 i hi⟩
end
