/-! THE REFERENCE BETWEEN CALLS; IT PACKS -/
section
variable {d : Nat} {h h' : mm_H} {Q : mm_Q} {L n a b q t u i r e j k na bL told p : Nat} {W A : Nat → Int} {m mk : Int} {R bR : zR} {P : Nat → Nat → Int} {sp : Bool} {T : Nat → Prop} {x2 x3 x4 : Int32} {l : List Int} {c : Nat} {h'' : mm_H} {s : zS} {v3' : Value} {x : Int32} {y z v w : Int} {C : Nat → Int}
def zMo (h : mm_H) (W : Nat → Int) (n : Nat) (P : Nat → Nat → Int) (mk : Int) (sp : Bool) (bL : Nat) (bR : zR) (na : Nat) (A : Nat → Int) : Prop := zSK h ∧ zMg h W n P ∧ zMb h bL bR ∧ mm_i h 142 20 = bI (decide (¬ mk = -1)) ∧ mm_i h 142 21 = bI sp ∧ (¬ mk = -1 → mm_i h 142 22 = zI mk) ∧ mm_i h 142 31 = nI na ∧ ∀ i, i < na → mm_i h 165 i = zI (A i)
theorem zMo.fm {K T : Nat → Prop} (H : zMo h W n P mk sp bL bR na A) (F : zFm K T h h') (hK : ∀ k, 1 ≤ k → ¬ k = 8 → ¬ K k) (hT : ∀ x, 143 ≤ x → x < 166 → ¬ (149 ≤ x ∧ x < 160) → ¬ T x) : zMo h' W n P mk sp bL bR na A := by
  obtain ⟨h1, h2, h3, h4, h5, h6, h7, h8⟩ := H
  have hi : ∀ k, 1 ≤ k → ¬ k = 8 → mm_i h' 142 k = mm_i h 142 k := fun k k1 k2 => (F.2 k (hK k k1 k2)).1
  exact ⟨F.sk h1, h2.fm F (hK 2 (by omega) (by omega)) (fun x x1 x2 => hT x x1 (by omega) (by omega)), h3.fm F ⟨hK 23 (by omega) (by omega), hK 24 (by omega) (by omega), hK 25 (by omega) (by omega)⟩ (fun x x1 x2 => hT x (by omega) (by omega) (by omega)), by rw [hi 20 (by omega) (by omega)]; exact h4, by rw [hi 21 (by omega) (by omega)]; exact h5, fun e => by rw [hi 22 (by omega) (by omega)]; exact h6 e, by rw [hi 31 (by omega) (by omega)]; exact h7, fun i hi' => by rw [F.1.i (fun q => by rcases q with q | q; omega; exact hT 165 (by omega) (by omega) (by omega) q)]; exact h8 i hi'⟩
theorem zMb.ag (H : zMb h bL bR) (F : zAg h h') : zMb h' bL bR := by
  obtain ⟨h1, h2, h3, h4, h5⟩ := H
  refine ⟨by rw [F.i (by omega)]; exact h1, h2, by rw [F.l (by omega)]; exact h3, by rw [F.l (by omega)]; exact h4, fun k hk => ?_⟩
  obtain ⟨g1, g2, g3, g4⟩ := h5 k hk
  exact ⟨by rw [F.i (by omega)]; exact g1, by rw [F.i (by omega)]; exact g2, fun a ha => ⟨by rw [F.i (by omega)]; exact (g3 a ha).1, by rw [F.i (by omega)]; exact (g3 a ha).2⟩, by rw [F.i (by omega)]; exact g4⟩
theorem zMo.ag (H : zMo h W n P mk sp bL bR na A) (F : zAg h h') : zMo h' W n P mk sp bL bR na A := by
  obtain ⟨h1, h2, h3, h4, h5, h6, h7, h8⟩ := H
  exact ⟨h1.ag F, h2.ag F, h3.ag F, by rw [F.i (by omega)]; exact h4, by rw [F.i (by omega)]; exact h5, fun e => by rw [F.i (by omega)]; exact h6 e, by rw [F.i (by omega)]; exact h7, fun i hi => by rw [F.i (by omega)]; exact h8 i hi⟩
theorem zMo.fr {T : Nat → Prop} (H : zMo h W n P mk sp bL bR na A) (F : zFr T h h') (hT : ∀ x, 142 ≤ x → x < 167 → ¬ T x) : zMo h' W n P mk sp bL bR na A := H.fm (F.fm (K := fun _ => False) (hT 142 (by omega) (by omega))) (fun _ _ _ q => q) (fun x x1 x2 _ => hT x (by omega) (by omega))
/-- a field of the reference written -/
theorem zFm.p0 {T : Nat → Prop} {f : Nat} {v : Int32} : zFm (fun k => k = f) T h (mm_pi h 142 f v) := ⟨zFr.pi (Or.inl rfl), fun k hk => ⟨by rw [mm_i_pi, if_neg (fun q => hk q.2)], rfl⟩⟩
theorem zFm.l0 {T : Nat → Prop} {f : Nat} {v : Int64} : zFm (fun k => k = f) T h (mm_pl h 142 f v) := ⟨zFr.pl (Or.inl rfl), fun k hk => ⟨rfl, by rw [mm_l_pl, if_neg (fun q => hk q.2)]⟩⟩
theorem zMo.th {v : Int32} (H : zMo h W n P mk sp bL bR na A) : zMo (mm_pi h 142 0 v) W n P mk sp bL bR na A := H.fm (T := fun _ => False) zFm.p0 (fun k k1 _ => by omega) (fun _ _ _ _ q => q)
theorem th0 {v : Int32} : mm_i (mm_pi h 142 0 v) 142 0 = v := by rw [mm_i_pi, if_pos ⟨rfl, rfl⟩]
theorem zFr.th {v : Int32} : zFr (fun x => 142 ≤ x ∧ x < 167) h (mm_pi h 142 0 v) := zFr.pi (by omega)
/-- nothing is packed any more -/
theorem c113z (H : zMo h W n P mk sp bL bR na A) (K : ∀ h', zFm (fun k => k = 20 ∨ (23 ≤ k ∧ k < 26)) (fun _ => False) h h' → zMo h' W n P (-1) sp 0 zR0 na A → Q (.inl none) h') : mm_wp d 113 0 [.ref 142] [] h Q := by
  obtain ⟨h1, h2, h3, h4, h5, h6, h7, h8⟩ := H
  simp only [s113_0, s113_1, s113_2, s113_5, s113_6, s113_7, s113_10, s113_11, s113_12, s113_15, s113_16, s113_17, s113_20, or_true, true_or, true_and, and_true, mm_o_some, mm_o_none, mm_bk_v, mm_bk_n, Nat.reduceAdd, kS142 h1, mm_s_pi, mm_s_pl]
  have F : zFm (fun k => k = 20 ∨ (23 ≤ k ∧ k < 26)) (fun _ => False) h (mm_pl (mm_pl (mm_pi (mm_pi h 142 20 0) 142 23 0) 142 24 0) 142 25 0) := (((zFm.p0.mono (fun k hk => by omega) (fun _ q => q)).trans (zFm.p0.mono (fun k hk => by omega) (fun _ q => q))).trans (zFm.l0.mono (fun k hk => by omega) (fun _ q => q))).trans (zFm.l0.mono (fun k hk => by omega) (fun _ q => q))
  have e20 : mm_i (mm_pl (mm_pl (mm_pi (mm_pi h 142 20 0) 142 23 0) 142 24 0) 142 25 0) 142 20 = 0 := by rw [mm_i_pl, mm_i_pl, mm_i_pi, if_neg (by omega), mm_i_pi, if_pos ⟨rfl, rfl⟩]
  have e23 : mm_i (mm_pl (mm_pl (mm_pi (mm_pi h 142 20 0) 142 23 0) 142 24 0) 142 25 0) 142 23 = 0 := by rw [mm_i_pl, mm_i_pl, mm_i_pi, if_pos ⟨rfl, rfl⟩]
  have e24 : mm_l (mm_pl (mm_pl (mm_pi (mm_pi h 142 20 0) 142 23 0) 142 24 0) 142 25 0) 142 24 = 0 := by rw [mm_l_pl, if_neg (by omega), mm_l_pl, if_pos ⟨rfl, rfl⟩]
  have e25 : mm_l (mm_pl (mm_pl (mm_pi (mm_pi h 142 20 0) 142 23 0) 142 24 0) 142 25 0) 142 25 = 0 := by rw [mm_l_pl, if_pos ⟨rfl, rfl⟩]
  generalize mm_pl (mm_pl (mm_pi (mm_pi h 142 20 0) 142 23 0) 142 24 0) 142 25 0 = g at *
  have ax : ∀ i, mm_i g 165 i = mm_i h 165 i := fun i => F.1.i (fun q => by rcases q with q | q; omega; exact q) i
  exact K g F ⟨F.sk h1, h2.fm F (by omega) (fun _ _ _ q => q), ⟨e23, by omega, e24, e25, fun k hk => absurd hk (Nat.not_lt_zero k)⟩, e20, by rw [(F.2 21 (by omega)).1]; exact h5, fun q => absurd rfl q, by rw [(F.2 31 (by omega)).1]; exact h7, fun i hi => by rw [ax]; exact h8 i hi⟩
theorem c126x (H : zMo h W n P mk sp bL bR na A) (hx : ¬ (1 ≤ x.toInt ∧ x.toInt ≤ 1000)) (v2 v3 : Value) : mm_wp (d + 1) 126 0 [.ref 142, .int x, v2, v3] [] h Q ↔ Q (.inl (some (.int 0))) (mm_pi h 142 0 1) := by
  simp only [s126_0, s126_1, s126_2, s126_3, s126_6, s126_9, s126_12, s126_13, s126_16, s126_17, s126_20, s126_21, s126_24, s126_27, s126_28, or_true, true_or, true_and, and_true, mm_o_some, mm_o_none, mm_bk_v, mm_bk_n, Nat.reduceAdd, kS142 H.1, c112, i32_1, i32_1000, if_neg hx, if_true, mm_s_pi, th0, if_neg (show ¬ (1 : Int32) ≤ 0 by decide)]
theorem c126_i : ∀ m k h, k + m = 8 → zSK h → (∀ i, i < k → mm_i h 154 i = 0) → (∀ h', zFr (fun x => x = 154) h h' → (∀ i, i < 8 → mm_i h' 154 i = 0) → ∀ v2 : Value, mm_wp d 126 74 [.ref 142, .int x, v2, v3'] [] h' Q) → mm_wp d 126 55 [.ref 142, .int x, .int (nI k), v3'] [] h Q := by
  intro m
  induction m with
  | zero =>
    intro k h hk hK hi H
    obtain rfl : k = 8 := by omega
    rw [s126_55]
    simp only [s126_56, s126_58, s126_61, s126_62, s126_65, s126_66, s126_67, s126_68, s126_71, or_true, true_or, true_and, and_true, mm_o_some, mm_o_none, mm_bk_v, mm_bk_n, Nat.reduceAdd, if_pos (show (8 : Int32) ≤ nI 8 by decide)]
    exact H h zFr.refl hi _
  | succ m ih =>
    intro k h hk hK hi H
    have c : ¬ (8 : Int32) ≤ nI k := nI_ge (b := 8) (by omega) (by omega)
    have hin : mm_in (nI k) 8 = true := mm_inN (by omega) (by omega)
    have hcl : (nI k).toNatClampNeg = k := nI_clamp (by omega)
    have F1 : zFr (fun x => x = 154) h (mm_pi h 154 k 0) := zFr.pi rfl
    rw [s126_55]
    simp only [s126_56, s126_58, s126_61, s126_62, s126_65, s126_66, s126_67, s126_68, s126_71, or_true, true_or, true_and, and_true, mm_o_some, mm_o_none, mm_bk_v, mm_bk_n, Nat.reduceAdd, if_neg c, kS142 hK, kR142_14 hK, kS154 hK, hin, hcl, nI_1]
    refine ih (k + 1) _ (by omega) (zFr.sk hK F1) (fun i hi' => ?_) (fun h' F' => H h' (F1.trans F'))
    rw [mm_i_pi]
    by_cases e : i = k
    · rw [if_pos ⟨rfl, e⟩]
    · rw [if_neg (fun q => e q.2)]; exact hi i (by omega)
theorem zL_i {v : Int} (hv : zr v) : (zL v).toInt32 = zI v := by
  rw [← zI_l hv]
  exact Int32.toInt32_toInt64 _
theorem c126z (H : zMo h W n P mk sp bL bR na A) (hn : n ≤ 8) (wk : zWok W) (hPk : ∀ p, p < n → zPok (P p)) (ht : 1 ≤ told ∧ told ≤ 1000) (v2 v3' : Value)
    (K : ∀ h', zFr (fun x => 142 ≤ x ∧ x < 167) h h' → zMo h' W n P ((zPack told W n P).1 : Int) (zPack told W n P).2.1 (zPack told W n P).2.2.1 (zPack told W n P).2.2.2.1 na A → mm_i h' 142 0 = 0 → Q (.inl (some (.int (zI (zVol (zPack told W n P).2.2.1 (zPack told W n P).2.2.2.1))))) h') :
    mm_wp (d + 4) 126 0 [.ref 142, .int (nI told), v2, v3'] [] h Q := by
  have hx : 1 ≤ (nI told).toInt ∧ (nI told).toInt ≤ 1000 := by rw [nI_toInt (by omega)]; omega
  have H0 := H.th (v := 0)
  simp only [s126_0, s126_1, s126_2, s126_3, s126_6, s126_9, s126_12, s126_13, s126_16, s126_17, s126_20, s126_21, s126_24, s126_27, s126_28, s126_29, s126_30, or_true, true_or, true_and, and_true, mm_o_some, mm_o_none, mm_bk_v, mm_bk_n, Nat.reduceAdd, kS142 H.1, c112, i32_1, i32_1000, if_pos hx, if_neg n10, mm_s_pi, th0, if_pos (show (0 : Int32) ≤ 0 by decide)]
  refine c113z H0 (fun h1 F1 M1 => ?_)
  have th1 : mm_i h1 142 0 = 0 := by rw [(F1.2 0 (by omega)).1]; exact th0
  obtain ⟨k1, g1, b1, e20, e21, e22, e31, ax⟩ := M1
  simp only [s126_33, s126_34, s126_35, s126_38, s126_39, s126_40, s126_43, s126_44, s126_45, s126_48, s126_49, s126_50, s126_53, s126_54, or_true, true_or, true_and, and_true, mm_o_some, mm_o_none, mm_bk_v, mm_bk_n, Nat.reduceAdd, kS142 k1, mm_s_pi]
  have F2 : zFm (fun k => k = 8 ∨ 20 ≤ k ∧ k < 23) (fun _ => False) h1 (mm_pi (mm_pi (mm_pi (mm_pi h1 142 20 1) 142 21 0) 142 22 0) 142 8 0) := (((zFm.p0.mono (fun k hk => by omega) (fun _ q => q)).trans (zFm.p0.mono (fun k hk => by omega) (fun _ q => q))).trans (zFm.p0.mono (fun k hk => by omega) (fun _ q => q))).trans (zFm.p0.mono (fun k hk => by omega) (fun _ q => q))
  have f20 : mm_i (mm_pi (mm_pi (mm_pi (mm_pi h1 142 20 1) 142 21 0) 142 22 0) 142 8 0) 142 20 = 1 := by simp only [mm_i_pi, Nat.reduceEqDiff, and_false, if_false, and_self, if_true]
  have f21 : mm_i (mm_pi (mm_pi (mm_pi (mm_pi h1 142 20 1) 142 21 0) 142 22 0) 142 8 0) 142 21 = 0 := by simp only [mm_i_pi, Nat.reduceEqDiff, and_false, if_false, and_self, if_true]
  have f22 : mm_i (mm_pi (mm_pi (mm_pi (mm_pi h1 142 20 1) 142 21 0) 142 22 0) 142 8 0) 142 22 = 0 := by simp only [mm_i_pi, Nat.reduceEqDiff, and_false, if_false, and_self, if_true]
  have f8 : mm_i (mm_pi (mm_pi (mm_pi (mm_pi h1 142 20 1) 142 21 0) 142 22 0) 142 8 0) 142 8 = 0 := by simp only [mm_i_pi, and_self, if_true]
  generalize mm_pi (mm_pi (mm_pi (mm_pi h1 142 20 1) 142 21 0) 142 22 0) 142 8 0 = h2 at *
  have k2 := F2.sk k1
  rw [← nI_lit0]
  refine c126_i 8 0 h2 (by omega) k2 (fun i hi => by omega) (fun h3 F3 i3 v2 => ?_)
  have F3m : zFm (fun _ => False) (fun x => x = 154) h2 h3 := F3.fm (by omega)
  have k3 := F3m.sk k2
  have g3 := (g1.fm F2 (by omega) (fun _ _ _ q => q)).fm F3m (fun q => q) (fun x x1 x2 => by omega)
  have b3 := (b1.fm F2 ⟨by omega, by omega, by omega⟩ (fun _ _ _ q => q)).fm F3m ⟨fun q => q, fun q => q, fun q => q⟩ (fun x x1 x2 => by omega)
  have r3 : zMr h3 0 zR0 := ⟨by rw [F3.i (by omega), f8]; rfl, by omega, fun k hk => absurd hk (Nat.not_lt_zero k)⟩
  simp only [s126_74, s126_75, or_true, true_or, true_and, and_true, mm_o_some, mm_o_none, mm_bk_v, mm_bk_n, Nat.reduceAdd, kS142 k3]
  refine c127z k3 r3 (fun i hi => absurd hi (Nat.not_lt_zero i)) _ _ _ _ _ _ _ (fun h4 F4 _ _ _ me4 N4 => ?_)
  have F4m : zFm (fun _ => False) (fun x => 155 ≤ x ∧ x < 160) h3 h4 := F4.fm (by omega)
  have k4 := F4m.sk k3
  have V0 : zInv W 0 zR0 := ⟨by omega, fun i hi => absurd hi (Nat.not_lt_zero i), fun i k _ hk => absurd hk (Nat.not_lt_zero k)⟩
  have q0 : zSq told ((0, false, 0, zR0, 0, 0) : zS) := ⟨⟨by show (0 : Nat) ≤ 8; omega, fun i hi => absurd hi (Nat.not_lt_zero i), rfl, rfl⟩, Nat.zero_le _⟩
  have L0 : zLf n 0 zR0 := by
    have : ∀ m, zSum (fun p => if zHas 0 zR0 p = true then (0 : Int) else 1) m = m := by
      intro m
      induction m with
      | zero => rfl
      | succ m ih =>
        simp only [zSum, ih]
        rw [if_neg (by simp [zHas, zAll])]
        omega
    simp only [zLf, this]
    omega
  have s4 : zMs h4 W n P 0 zR0 := ⟨k4, g3.fm F4m (fun q => q) (fun x x1 x2 => by omega), r3.fr F4 (fun x x1 x2 => by omega) (by rw [F4.i (by omega)]), me4, fun p hp => by rw [F4.i (by omega), i3 p hp]; rfl⟩
  have z4 : zMz h4 (0, false, 0, zR0, 0, 0) := ⟨b3.fm F4m ⟨fun q => q, fun q => q, fun q => q⟩ (fun x x1 x2 => by omega), by rw [F4.i (by omega), F3.i (by omega), f22]; rfl, by rw [F4.i (by omega), F3.i (by omega), f21]; rfl⟩
  have FA : zFm (fun k => k = 0 ∨ k = 8 ∨ 20 ≤ k ∧ k < 26) (fun x => 149 ≤ x ∧ x < 160) h h4 := (((((zFm.p0 (T := fun _ => False)).mono (fun k hk => by omega) (fun _ q => q.elim)).trans (F1.mono (fun k hk => by omega) (fun _ q => q.elim))).trans (F2.mono (fun k hk => by omega) (fun _ q => q.elim))).trans (F3m.mono (fun k hk => hk.elim) (fun x hx => by omega))).trans (F4m.mono (fun k hk => hk.elim) (fun x hx => by omega))
  have th4 : mm_i h4 142 0 = 0 := by rw [F4.i (by omega), F3.i (by omega), (F2.2 0 (by omega)).1]; exact th1
  have f4 : mm_i h4 142 20 = 1 := by rw [F4.i (by omega), F3.i (by omega)]; exact f20
  have e4 : mm_i h4 142 31 = nI na := by rw [F4.i (by omega), F3.i (by omega), (F2.2 31 (by omega)).1]; exact e31
  have a4 : ∀ i, i < na → mm_i h4 165 i = zI (A i) := fun i hi => by rw [F4.i (by omega), F3.i (by omega), F2.1.i (fun q => by rcases q with q | q; omega; exact q)]; exact ax i hi
  have ep : zFo told W n P 8 0 zR0 (zRr W n P 0 zR0 0 0 0) (0, false, 0, zR0, 0, 0) = zPack told W n P := by rw [zRr_0, zFo_go]; rfl
  -- what comes behind the loop
  have fin : ∀ h5 (v3 : Value), zSK h5 → zMg h5 W n P → zMz h5 (zPack told W n P) → zSq told (zPack told W n P) → zFL 0 h4 h5 → mm_wp (d + 4) 126 80 [.ref 142, .int (nI told), .int 0, v3] [] h5 Q := by
    intro h5 v3 k5 g5 z5 q5 F5
    have vb := zVol_b q5.1.2.1 q5.1.1
    generalize zPack told W n P = s at *
    simp only [s126_80, s126_81, s126_198, s126_199, s126_202, s126_203, or_true, true_or, true_and, and_true, mm_o_some, mm_o_none, mm_bk_v, mm_bk_n, Nat.reduceAdd, if_true, kS142 k5, z5.1.2.2.1, zL_i vb.1]
    have nk : ∀ k, ¬ (k = 8 ∨ 21 ≤ k ∧ k < 26) → mm_i h5 142 k = mm_i h4 142 k := fun k hk => (F5.1.2 k hk).1
    have hs : ¬ (s.1 : Int) = -1 := by omega
    refine K h5 ((FA.1.mono (fun a ha => by omega)).trans (F5.1.1.mono (fun a ha => by omega))) ⟨k5, g5, z5.1, ?_, z5.2.2, fun _ => by rw [z5.2.1, zI_n], by rw [nk 31 (by omega)]; exact e4, fun i hi => by rw [F5.1.1.i (by omega)]; exact a4 i hi⟩ (by rw [nk 0 (by omega)]; exact th4)
    rw [nk 20 (by omega), f4, decide_eq_true hs]; rfl
  have qp : zSq told (zPack told W n P) := zGo_q wk hPk hn 8 0 _ _ rfl V0 q0
  simp only [s126_78, s126_79, or_true, true_or, true_and, and_true, mm_o_some, mm_o_none, mm_bk_v, mm_bk_n, Nat.reduceAdd]
  refine c126_lv hn hPk wk ht.2 8 0 rfl _ zR0 h4 (0, false, 0, zR0, 0, 0) 0 0 0 _ (Nat.le_refl _) (Nat.zero_le _) (Nat.zero_le _) (Nat.zero_le _) s4 N4 z4 q0 rfl V0 (fun k hk => absurd hk (Nat.not_lt_zero k)) L0 (fun h5 v3 u1 S5 Z5 q5 F5 => ?_) (fun h5 v3 u1 k5 g5 Z5 F5 => ?_)
  · rw [ep] at Z5 u1 q5
    have r5 := S5.2.2.1
    simp only [s126_179, s126_180, s126_183, s126_186, s126_187, s126_188, or_true, true_or, true_and, and_true, mm_o_some, mm_o_none, mm_bk_v, mm_bk_n, Nat.reduceAdd, kS142 S5.1, r5.1, nI_lit0, if_true]
    exact fin h5 _ S5.1 S5.2.1 Z5 qp F5
  · rw [ep] at Z5 u1
    exact fin h5 _ k5 g5 Z5 qp F5
end
