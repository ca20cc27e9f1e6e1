/-! THE CLASS: PACKING -/
section
variable {d : Nat} {h h' : mm_H} {Q : mm_Q} {L n a b q t u i r e j na bL told : Nat} {W p A : Nat → Int} {m mk : Int} {R bR : zR} {P : Nat → Nat → Int} {sp : Bool} {T : Nat → Prop} {x : Int32} {l : List Int}
theorem i32_0 : (0 : Int32).toInt = 0 := rfl
theorem i32_1 : (1 : Int32).toInt = 1 := rfl
theorem i32_3 : (3 : Int32).toInt = 3 := rfl
theorem i32_5 : (5 : Int32).toInt = 5 := rfl
theorem i32_9 : (9 : Int32).toInt = 9 := rfl
theorem i32_200 : (200 : Int32).toInt = 200 := rfl
theorem i32_1000 : (1000 : Int32).toInt = 1000 := rfl
theorem i32_10000 : (10000 : Int32).toInt = 10000 := rfl
theorem i32_100000 : (100000 : Int32).toInt = 100000 := rfl
theorem n10 : ¬ (1 : Int32) = 0 := by decide
/-- an exception's cell -/
theorem mm_s_ex (kd : Nat) : mm_s (mm_nw h kd 6 6) (mm_n h) = (kd, 6) := by rw [mm_s_nw, if_pos rfl]
theorem nI_x {x : Int32} (h : 0 ≤ x.toInt) : x = nI x.toInt.toNat := by
  have := (zr_x x).2
  rw [← Int32.toInt_inj, nI_toInt (by omega)]
  omega
/-- a search begins -/
theorem c51z (H : zCl h W n P mk sp bL bR na A) (hn : n ≤ 8) (K : ∀ h', zFr (fun x => 21 ≤ x ∧ x < 33) h h' → zCS h' W n P told 0 zR0 (0, false, 0, zR0, 0, 0) → Q (.inl none) h') : mm_wp (d + 1) 51 0 [.ref 21, .int (nI told)] [] h Q := by
  obtain ⟨h1, h2, h3, h4, h5, h6, h7, h8, h9, h10⟩ := H
  have F1 : zFr (fun x => 21 ≤ x ∧ x < 33) h (mm_pi (mm_pi (mm_pi h 21 8 (nI told)) 21 9 0) 21 10 0) := ((zFr.pi (by omega)).trans (zFr.pi (by omega))).trans (zFr.pi (by omega))
  have e8 : mm_i (mm_pi (mm_pi (mm_pi h 21 8 (nI told)) 21 9 0) 21 10 0) 21 8 = nI told := by rw [mm_i_pi, if_neg (by omega), mm_i_pi, if_neg (by omega), mm_i_pi, if_pos ⟨rfl, rfl⟩]
  have e9 : mm_i (mm_pi (mm_pi (mm_pi h 21 8 (nI told)) 21 9 0) 21 10 0) 21 9 = 0 := by rw [mm_i_pi, if_neg (by omega), mm_i_pi, if_pos ⟨rfl, rfl⟩]
  have e10 : mm_i (mm_pi (mm_pi (mm_pi h 21 8 (nI told)) 21 9 0) 21 10 0) 21 10 = 0 := by rw [mm_i_pi, if_pos ⟨rfl, rfl⟩]
  simp only [s51_0, s51_1, s51_2, s51_5, s51_6, s51_7, s51_10, s51_11, s51_12, or_true, true_or, true_and, and_true, mm_o_some, mm_o_none, mm_bk_v, mm_bk_n, Nat.reduceAdd, kS21 h1, mm_s_pi]
  have N1 : ∀ i, i < 8 → mm_i (mm_pi (mm_pi (mm_pi h 21 8 (nI told)) 21 9 0) 21 10 0) (24 + i) 0 = nI i := fun i hi => by rw [mm_i_pi, if_neg (by omega), mm_i_pi, if_neg (by omega), mm_i_pi, if_neg (by omega)]; exact (h6 i hi).1
  generalize mm_pi (mm_pi (mm_pi h 21 8 (nI told)) 21 9 0) 21 10 0 = g1 at *
  have k1 := zFr.sk h1 F1
  have s22 : (mm_s g1 22).1 = 7 := by rw [kS22 k1]
  simp only [s51_15, s51_16, s51_19, or_true, true_or, true_and, and_true, mm_o_some, mm_o_none, mm_bk_v, mm_bk_n, Nat.reduceAdd, kS21 k1, kR21_2 k1, kS22 k1, c28z s22]
  have F2 : zFr (fun x => 21 ≤ x ∧ x < 33) g1 (mm_pl (mm_pi (mm_pi g1 22 1 0) 22 2 0) 22 3 0) := zFr_clear (by omega)
  have V2 : zRv (mm_pl (mm_pi (mm_pi g1 22 1 0) 22 2 0) 22 3 0) 22 0 zR0 := zRv_clear (kSk_row k1)
  have F2' : zFr (fun x => x = 22) g1 (mm_pl (mm_pi (mm_pi g1 22 1 0) 22 2 0) 22 3 0) := zFr_clear rfl
  generalize mm_pl (mm_pi (mm_pi g1 22 1 0) 22 2 0) 22 3 0 = g2 at *
  have k2 := zFr.sk k1 F2
  have s32 : (mm_s g2 32).1 = 7 := by rw [kS32 k2]
  simp only [s51_22, s51_23, s51_26, s51_29, or_true, true_or, true_and, and_true, mm_o_some, mm_o_none, mm_bk_v, mm_bk_n, Nat.reduceAdd, kS21 k2, kR21_3 k2, kS32 k2, c28z s32]
  have F3 : zFr (fun x => 21 ≤ x ∧ x < 33) g2 (mm_pl (mm_pi (mm_pi g2 32 1 0) 32 2 0) 32 3 0) := zFr_clear (by omega)
  have V3 : zRv (mm_pl (mm_pi (mm_pi g2 32 1 0) 32 2 0) 32 3 0) 32 0 zR0 := zRv_clear (kSk_best k2)
  have F3' : zFr (fun x => x = 32) g2 (mm_pl (mm_pi (mm_pi g2 32 1 0) 32 2 0) 32 3 0) := zFr_clear rfl
  generalize mm_pl (mm_pi (mm_pi g2 32 1 0) 32 2 0) 32 3 0 = g3 at *
  have k3 := zFr.sk k2 F3
  have F := (F1.trans F2).trans F3
  have N : zNu g3 := by
    intro i hi
    have a1 : mm_i g3 (24 + i) 0 = mm_i g2 (24 + i) 0 := F3'.i (by omega) 0
    have a2 : mm_i g2 (24 + i) 0 = mm_i g1 (24 + i) 0 := F2'.i (by omega) 0
    have b1 : mm_i g3 (34 + i) 0 = mm_i h (34 + i) 0 := F.i (by omega) 0
    exact ⟨by rw [a1, a2]; exact (N1 i hi), by rw [b1]; exact (h6 i hi).2⟩
  refine K g3 F ⟨k3, h2.fr F (fun x hx => by omega) hn, V2.fr F3' (fun x x1 x2 => by omega), V3, h5.fr F (fun x x1 x2 => by omega), N, ?_, ?_, ?_⟩
  · rw [F3'.i (by omega), F2'.i (by omega)]; exact e8
  · rw [F3'.i (by omega), F2'.i (by omega), e9]; rfl
  · rw [F3'.i (by omega), F2'.i (by omega), e10]; rfl
theorem c50x (H : zCl h W n P mk sp bL bR na A) (hx : ¬ (1 ≤ x.toInt ∧ x.toInt ≤ 1000)) : mm_wp (d + 1) 50 0 [.ref 1, .int x] [] h Q ↔ Q (.inr (mm_n h)) (mm_nw h 30 6 6) := by
  simp only [s50_0, s50_1, s50_2, s50_5, s50_8, s50_11, s50_14, s50_15, s50_17, s50_20, or_true, true_or, true_and, and_true, mm_o_some, mm_o_none, mm_bk_v, mm_bk_n, Nat.reduceAdd, c25, i32_1, i32_1000, if_neg hx, if_true, mm_s_ex, Nat.reduceLeDiff]
/-- packing -/
theorem c50z (H : zCl h W n P mk sp bL bR na A) (hn : n ≤ 8) (hW : zWok W) (hPk : ∀ p, p < n → zPok (P p)) (ht : 1 ≤ told ∧ told ≤ 1000) (K : ∀ h', zFr (fun x => 21 ≤ x ∧ x < 140) h h' → zCl h' W n P ((zPack told W n P).1 : Int) (zPack told W n P).2.1 (zPack told W n P).2.2.1 (zPack told W n P).2.2.2.1 na A → Q (.inl (some (.int (zI (zVol (zPack told W n P).2.2.1 (zPack told W n P).2.2.2.1))))) h') : mm_wp (d + 35) 50 0 [.ref 1, .int (nI told)] [] h Q := by
  have H0 := H
  obtain ⟨h1, h2, h3, h4, h5, h6, h7, h8, h9, h10⟩ := H
  have hx : 1 ≤ (nI told).toInt ∧ (nI told).toInt ≤ 1000 := by rw [nI_toInt (by omega)]; omega
  simp only [s50_0, s50_1, s50_2, s50_5, s50_8, s50_21, s50_22, s50_25, s50_26, or_true, true_or, true_and, and_true, mm_o_some, mm_o_none, mm_bk_v, mm_bk_n, Nat.reduceAdd, c25, i32_1, i32_1000, if_pos hx, if_neg n10, kS1 h1, kR1_2 h1, kS21 h1]
  refine c51z H0 hn (fun g1 F1 S1 => ?_)
  have k1 := S1.1
  simp only [s50_29, s50_30, s50_33, s50_34, or_true, true_or, true_and, and_true, mm_o_some, mm_o_none, mm_bk_v, mm_bk_n, Nat.reduceAdd, kS1 k1, kR1_2 k1, kS21 k1]
  rw [← nI_lit0]
  have I0 : zInv W 0 zR0 := ⟨by omega, fun i hi => absurd hi (Nat.not_lt_zero i), fun i k _ hk => absurd hk (Nat.not_lt_zero k)⟩
  have q0 : zSq told ((0, false, 0, zR0, 0, 0) : zS) := ⟨⟨by show (0 : Nat) ≤ 8; omega, fun i hi => absurd hi (Nat.not_lt_zero i), rfl, rfl⟩, Nat.zero_le _⟩
  refine c52z (d := d) hn ht.2 hW hPk 8 0 g1 zR0 _ _ rfl S1 I0 q0 (fun g2 S2 F2 => ?_)
  have ep : zGo told W n P 8 0 zR0 (0, false, 0, zR0, 0, 0) = zPack told W n P := rfl
  rw [ep] at S2
  generalize zPack told W n P = s at *
  obtain ⟨k2, G2, V2, B2, E2, N2, i8, i9, i10⟩ := S2
  simp only [s50_37, s50_38, s50_41, s50_44, s50_47, or_true, true_or, true_and, and_true, mm_o_some, mm_o_none, mm_bk_v, mm_bk_n, Nat.reduceAdd, kS1 k2, kR1_2 k2, kS21 k2, kR21_3 k2, kS32 k2, B2.2.1]
  have F : zFr (fun x => 21 ≤ x ∧ x < 140) h g2 := (F1.mono (fun a ha => by omega)).trans (F2.mono (fun a ha => by simp only [zT] at ha; omega))
  refine K g2 F ⟨k2, G2, fun p hp => by rw [F.i (by omega)]; exact h3 p hp, B2, E2, N2, by rw [i9, zI_n], i10, by rw [F.i (by omega)]; exact h9, fun i hi => by rw [F.i (by omega)]; exact h10 i hi⟩
/-- packing, as the law calls it -/
theorem w49x (H : zCl h W n P mk sp bL bR na A) (hx : ¬ (1 ≤ x.toInt ∧ x.toInt ≤ 1000)) (v3 : Value) : mm_wp (d + 2) 49 0 [.ref 1, .int x, .ref 167, v3] [] h Q ↔ Q (.inl (some (.int 1))) (mm_nw h 30 6 6) := by
  simp only [s49_0, s49_0o, s49_0n, s49_1, s49_2, s49_2o, s49_2n, s49_3, s49_4, s49_7, s49_8, s49_9, s49_12, s49_12o, s49_12n, s49_13, s49_14, s49_15, s49_16, or_true, true_or, true_and, and_true, mm_o_some, mm_o_none, mm_bk_v, mm_bk_n, Nat.reduceAdd, kS1 H.1, c50x H hx, mm_bk_x, mm_s_ex, show mm_hnd 49 4 30 = some 12 from rfl]
theorem w49z (H : zCl h W n P mk sp bL bR na A) (hn : n ≤ 8) (hW : zWok W) (hPk : ∀ p, p < n → zPok (P p)) (ht : 1 ≤ told ∧ told ≤ 1000) (v3 : Value) (K : ∀ h', zFr (fun x => 21 ≤ x ∧ x < 140 ∨ x = 167) h h' → zCl h' W n P ((zPack told W n P).1 : Int) (zPack told W n P).2.1 (zPack told W n P).2.2.1 (zPack told W n P).2.2.2.1 na A → mm_l h' 167 0 = (zI (zVol (zPack told W n P).2.2.1 (zPack told W n P).2.2.2.1)).toInt64 → Q (.inl (some (.int 0))) h') : mm_wp (d + 36) 49 0 [.ref 1, .int (nI told), .ref 167, v3] [] h Q := by
  simp only [s49_0, s49_0o, s49_0n, s49_1, s49_2, s49_2o, s49_2n, s49_3, s49_4, s49_7, s49_8, s49_9, s49_12, s49_12o, s49_12n, s49_13, s49_14, s49_15, s49_16, or_true, true_or, true_and, and_true, mm_o_some, mm_o_none, mm_bk_v, mm_bk_n, Nat.reduceAdd, kS1 H.1]
  refine c50z H hn hW hPk ht (fun g F S => ?_)
  simp only [s49_0, s49_0o, s49_0n, s49_1, s49_2, s49_2o, s49_2n, s49_3, s49_4, s49_7, s49_8, s49_9, s49_12, s49_12o, s49_12n, s49_13, s49_14, s49_15, s49_16, or_true, true_or, true_and, and_true, mm_o_some, mm_o_none, mm_bk_v, mm_bk_n, Nat.reduceAdd, kS167 S.1, show mm_in 0 1 = true from rfl, show (0 : Int32).toNatClampNeg = 0 from rfl]
  have F2 : zFr (fun x => x = 167) g (mm_pl g 167 0 (zI (zVol (zPack told W n P).2.2.1 (zPack told W n P).2.2.2.1)).toInt64) := zFr.pl rfl
  refine K _ ((F.mono (fun a ha => Or.inl ha)).trans (F2.mono (fun a ha => Or.inr ha))) (S.fr F2 hn (fun x hx => by omega)) ?_
  rw [mm_l_pl, if_pos ⟨rfl, rfl⟩]
end
