/-! THE CLASS: A NEW PIECE -/
section
variable {d : Nat} {h h' : mm_H} {Q : mm_Q} {L n a b q t u i r e j na bL told : Nat} {W p A : Nat → Int} {m mk : Int} {R bR : zR} {P : Nat → Nat → Int} {sp : Bool} {T : Nat → Prop} {x x2 x3 x4 : Int32} {l : List Int}
theorem c24 : mm_wp (d + 1) 24 0 [.int x] [] h Q ↔ Q (.inl (some (.int (if 1 ≤ x.toInt ∧ x.toInt ≤ 200 then 1 else 0)))) h := by
  simp only [s24_0, s24_1, s24_2, s24_5, s24_8, or_true, true_or, true_and, and_true, mm_o_some, mm_o_none, mm_bk_v, mm_bk_n, Nat.reduceAdd, c25, i32_1, i32_200]
  by_cases g : 1 ≤ x.toInt ∧ x.toInt ≤ 200
  · simp only [if_pos g, or_true, true_and]
  · simp only [if_neg g, true_or, true_and]
theorem c26z (H : zCl h W n P mk sp bL bR na A) (hn : n ≤ 8) : mm_wp d 26 0 [.ref 3] [] h Q ↔ Q (.inl (some (.int (if n = 8 then 1 else 0)))) h := by
  by_cases g : n = 8
  · have c : ¬ nI n < (8 : Int32) := nI_nlt (b := 8) (by omega) (by omega)
    simp only [s26_0, s26_1, s26_4, s26_6, s26_9, s26_10, s26_13, s26_14, or_true, true_or, true_and, and_true, mm_o_some, mm_o_none, mm_bk_v, mm_bk_n, Nat.reduceAdd, kS3 H.1, H.2.1.2.1, if_neg c, if_pos g]
  · have c : nI n < (8 : Int32) := nI_lt (b := 8) (by omega) (by omega)
    simp only [s26_0, s26_1, s26_4, s26_6, s26_9, s26_10, s26_13, s26_14, or_true, true_or, true_and, and_true, mm_o_some, mm_o_none, mm_bk_v, mm_bk_n, Nat.reduceAdd, kS3 H.1, H.2.1.2.1, if_pos c, if_neg g]
def zGoodP (x x2 x3 x4 : Int32) : Prop := (1 ≤ x.toInt ∧ x.toInt ≤ 200) ∧ (1 ≤ x2.toInt ∧ x2.toInt ≤ 200) ∧ (1 ≤ x3.toInt ∧ x3.toInt ≤ 200) ∧ 1 ≤ x4.toInt ∧ x4.toInt ≤ 10000
theorem c23x (hx : ¬ zGoodP x x2 x3 x4) : mm_wp (d + 2) 23 0 [.ref 1, .int x, .int x2, .int x3, .int x4] [] h Q ↔ Q (.inr (mm_n h)) (mm_nw h 30 6 6) := by
  simp only [zGoodP] at hx
  by_cases g1 : 1 ≤ x.toInt ∧ x.toInt ≤ 200
  · by_cases g2 : 1 ≤ x2.toInt ∧ x2.toInt ≤ 200
    · by_cases g3 : 1 ≤ x3.toInt ∧ x3.toInt ≤ 200
      · have g4 : ¬ (1 ≤ x4.toInt ∧ x4.toInt ≤ 10000) := by omega
        simp only [s23_0, s23_1, s23_4, s23_7, s23_8, s23_11, s23_14, s23_15, s23_18, s23_21, s23_24, s23_25, s23_27, s23_30, s23_31, s23_33, s23_34, s23_37, s23_40, s23_43, s23_46, s23_47, s23_49, s23_52, or_true, true_or, true_and, and_true, mm_o_some, mm_o_none, mm_bk_v, mm_bk_n, Nat.reduceAdd, c24, if_pos g1, if_pos g2, if_pos g3, if_neg n10, c25, i32_1, i32_10000, if_neg g4, if_true, mm_s_ex, Nat.reduceLeDiff]
      · simp only [s23_0, s23_1, s23_4, s23_7, s23_8, s23_11, s23_14, s23_15, s23_18, s23_21, s23_24, s23_25, s23_27, s23_30, s23_31, s23_33, s23_34, s23_37, s23_40, s23_43, s23_46, s23_47, s23_49, s23_52, or_true, true_or, true_and, and_true, mm_o_some, mm_o_none, mm_bk_v, mm_bk_n, Nat.reduceAdd, c24, if_pos g1, if_pos g2, if_neg g3, if_neg n10, if_true, mm_s_ex, Nat.reduceLeDiff]
    · simp only [s23_0, s23_1, s23_4, s23_7, s23_8, s23_11, s23_14, s23_15, s23_18, s23_21, s23_24, s23_25, s23_27, s23_30, s23_31, s23_33, s23_34, s23_37, s23_40, s23_43, s23_46, s23_47, s23_49, s23_52, or_true, true_or, true_and, and_true, mm_o_some, mm_o_none, mm_bk_v, mm_bk_n, Nat.reduceAdd, c24, if_pos g1, if_neg g2, if_neg n10, if_true, mm_s_ex, Nat.reduceLeDiff]
  · simp only [s23_0, s23_1, s23_4, s23_7, s23_8, s23_11, s23_14, s23_15, s23_18, s23_21, s23_24, s23_25, s23_27, s23_30, s23_31, s23_33, s23_34, s23_37, s23_40, s23_43, s23_46, s23_47, s23_49, s23_52, or_true, true_or, true_and, and_true, mm_o_some, mm_o_none, mm_bk_v, mm_bk_n, Nat.reduceAdd, c24, if_neg g1, if_true, mm_s_ex, Nat.reduceLeDiff]
theorem w22x (H : zCl h W n P mk sp bL bR na A) (hx : ¬ zGoodP x x2 x3 x4) (v6 : Value) : mm_wp (d + 3) 22 0 [.ref 1, .int x, .int x2, .int x3, .int x4, .ref 167, v6] [] h Q ↔ Q (.inl (some (.int 1))) (mm_nw h 30 6 6) := by
  simp only [s22_0, s22_0o, s22_0n, s22_2, s22_3, s22_3o, s22_3n, s22_4, s22_5, s22_6, s22_7, s22_9, s22_12, s22_13, s22_14, s22_17, s22_17o, s22_17n, s22_19, s22_20, s22_21, s22_21o, s22_21n, s22_23, s22_24, s22_25, s22_26, or_true, true_or, true_and, and_true, mm_o_some, mm_o_none, mm_bk_v, mm_bk_n, Nat.reduceAdd, kS1 H.1, c23x hx, mm_bk_x, mm_s_ex, show mm_hnd 22 9 30 = some 17 from rfl]
theorem w22y (H : zCl h W n P mk sp bL bR na A) (hx : zGoodP x x2 x3 x4) (h8 : n = 8) (v6 : Value) : mm_wp (d + 3) 22 0 [.ref 1, .int x, .int x2, .int x3, .int x4, .ref 167, v6] [] h Q ↔ Q (.inl (some (.int 2))) (mm_nw h 31 6 6) := by
  obtain ⟨g1, g2, g3, g4⟩ := hx
  simp only [s22_0, s22_0o, s22_0n, s22_2, s22_3, s22_3o, s22_3n, s22_4, s22_5, s22_6, s22_7, s22_9, s22_12, s22_13, s22_14, s22_17, s22_17o, s22_17n, s22_19, s22_20, s22_21, s22_21o, s22_21n, s22_23, s22_24, s22_25, s22_26, s23_0, s23_1, s23_4, s23_7, s23_8, s23_11, s23_14, s23_15, s23_18, s23_21, s23_24, s23_25, s23_27, s23_30, s23_31, s23_33, s23_34, s23_37, s23_40, s23_43, s23_46, s23_47, s23_49, s23_52, s23_53, s23_54, s23_57, s23_60, s23_63, s23_66, s23_67, s23_69, s23_72, or_true, true_or, true_and, and_true, mm_o_some, mm_o_none, mm_bk_v, mm_bk_n, Nat.reduceAdd, kS1 H.1, c24, if_pos g1, if_pos g2, if_pos g3, if_neg n10, c25, i32_1, i32_10000, if_pos g4, kR1_1 H.1, kS3 H.1, c26z H (by omega), if_pos h8, mm_bk_x, mm_s_ex, Nat.reduceLeDiff, show mm_hnd 22 9 31 = some 21 from rfl]
/-- one more piece -/
theorem zCl.add (H : zCl h W n P mk sp bL bR na A) (hn : n < 8) (F : zFr (fun x => (x = 5 + 2 * n ∨ x = 6 + 2 * n) ∨ x = 3) h h') (h0 : mm_i h' 3 1 = nI (n + 1)) (h1 : zPc h' (5 + 2 * n) p) (h2 : ∀ u, u < 6 → mm_i h' (6 + 2 * n) u = bI (zGd W p u)) (h3 : mm_i h' (5 + 2 * n) 2 = zI (zFits W p)) : zCl h' W (n + 1) (zSet P n p) mk sp bL bR na A := by
  obtain ⟨g1, g2, g3, g4, g5, g6, g7, g8, g9, g10⟩ := H
  refine ⟨zFr.sk g1 F, ⟨fun k hk => by rw [F.i (by omega)]; exact g2.1 k hk, h0, fun i hi => ?_, fun i u hi hu => ?_⟩, fun i hi => ?_, g4.fr F (fun x x1 x2 => by omega), g5.fr F (fun x x1 x2 => by omega), g6.fr F (fun x x1 x2 => by omega), by rw [F.i (by omega)]; exact g7, by rw [F.i (by omega)]; exact g8, by rw [F.i (by omega)]; exact g9, fun i hi => by rw [F.i (by omega)]; exact g10 i hi⟩
  · by_cases e : i = n
    · rw [e, zSet, if_pos rfl]; exact h1
    · rw [zSet, if_neg e]
      exact ⟨by rw [F.2.2.1]; exact (g2.2.2.1 i (by omega)).1, fun k k1 k2 => by rw [F.i (by omega)]; exact (g2.2.2.1 i (by omega)).2 k k1 k2⟩
  · by_cases e : i = n
    · rw [e, zSet, if_pos rfl]; exact h2 u hu
    · rw [zSet, if_neg e, F.i (by omega)]; exact g2.2.2.2 i u (by omega) hu
  · by_cases e : i = n
    · rw [e, zSet, if_pos rfl]; exact h3
    · rw [zSet, if_neg e, F.i (by omega)]; exact g3 i (by omega)
theorem c29z (H : zCl h W n P mk sp bL bR na A) (hn : n < 8) (hW : zWok W) {w e f g : Int} (hk : zPok (zNew w e f g)) (K : ∀ h', zFr (fun x => (x = 5 + 2 * n ∨ x = 6 + 2 * n) ∨ x = 3) h h' → zCl h' W (n + 1) (zSet P n (zNew w e f g)) mk sp bL bR na A → Q (.inl (some (.int (nI n)))) h') : mm_wp (d + 5) 29 0 [.ref 3, .int (zI w), .int (zI e), .int (zI f), .int (zI g)] [] h Q := by
  have hin : mm_in (nI n) 8 = true := mm_inN (by omega) (by omega)
  have hcl : (nI n).toNatClampNeg = n := nI_clamp (by omega)
  have s5 := kS_piece H.1 hn
  simp only [s29_0, s29_1, s29_4, s29_7, s29_8, s29_9, s29_10, s29_13, s29_14, s29_17, s29_18, s29_19, s29_20, s29_21, s29_23, or_true, true_or, true_and, and_true, mm_o_some, mm_o_none, mm_bk_v, mm_bk_n, Nat.reduceAdd, kS3 H.1, c26z H (by omega), if_neg (show ¬ n = 8 by omega), if_true, kR3_0 H.1, H.2.1.2.1, kS4 H.1, hin, hcl, kR_pieces H.1 hn, s5, Nat.reduceLeDiff]
  refine c30z hn H.1 hk H.2.1.1 hW (fun f1 F1 a1 a2 a3 => ?_)
  have k1 := zFr.sk H.1 F1
  have e1 : mm_i f1 3 1 = nI n := by rw [F1.i (by omega)]; exact H.2.1.2.1
  have F2 : zFr (fun x => x = 3) f1 (mm_pi f1 3 1 (nI (n + 1))) := zFr.pi rfl
  have e2 : mm_i (mm_pi f1 3 1 (nI (n + 1))) 3 1 = nI (n + 1) := by rw [mm_i_pi, if_pos ⟨rfl, rfl⟩]
  simp only [s29_26, s29_27, s29_28, s29_31, s29_32, s29_33, s29_36, s29_37, s29_40, s29_41, s29_42, or_true, true_or, true_and, and_true, mm_o_some, mm_o_none, mm_bk_v, mm_bk_n, Nat.reduceAdd, kS3 k1, e1, nI_1, mm_s_pi, e2, nI_pred]
  have F : zFr (fun x => (x = 5 + 2 * n ∨ x = 6 + 2 * n) ∨ x = 3) h (mm_pi f1 3 1 (nI (n + 1))) := (F1.mono (fun a ha => Or.inl ha)).trans (F2.mono (fun a ha => Or.inr ha))
  generalize mm_pi f1 3 1 (nI (n + 1)) = f2 at *
  exact K f2 F (H.add hn F e2 ⟨by rw [F2.2.2.1]; exact a1.1, fun k k1 k2 => by rw [F2.i (by omega)]; exact a1.2 k k1 k2⟩ (fun u hu => by rw [F2.i (by omega)]; exact a2 u hu) (by rw [F2.i (by omega)]; exact a3))
theorem w22z (H : zCl h W n P mk sp bL bR na A) (hx : zGoodP x x2 x3 x4) (hn : n < 8) (hW : zWok W) (v6 : Value) (K : ∀ h', zFr (fun x => (1 ≤ x ∧ x < 142) ∨ x = 167) h h' → zCl h' W (n + 1) (zSet P n (zNew x.toInt x2.toInt x3.toInt x4.toInt)) (-1) sp 0 zR0 na A → mm_l h' 167 0 = (nI n).toInt64 → Q (.inl (some (.int 0))) h') : mm_wp (d + 7) 22 0 [.ref 1, .int x, .int x2, .int x3, .int x4, .ref 167, v6] [] h Q := by
  have hk : zPok (zNew x.toInt x2.toInt x3.toInt x4.toInt) := by
    simp only [zGoodP] at hx
    simp only [zPok, zNew, Nat.reduceEqDiff, reduceIte]
    omega
  obtain ⟨g1, g2, g3, g4⟩ := hx
  simp only [s22_0, s22_0o, s22_0n, s22_2, s22_3, s22_3o, s22_3n, s22_4, s22_5, s22_6, s22_7, s22_9, s22_12, s22_13, s22_14, s22_17, s22_17o, s22_17n, s22_19, s22_20, s22_21, s22_21o, s22_21n, s22_23, s22_24, s22_25, s22_26, s23_0, s23_1, s23_4, s23_7, s23_8, s23_11, s23_14, s23_15, s23_18, s23_21, s23_24, s23_25, s23_27, s23_30, s23_31, s23_33, s23_34, s23_37, s23_40, s23_43, s23_46, s23_47, s23_49, s23_52, s23_53, s23_54, s23_57, s23_60, s23_63, s23_66, s23_67, s23_69, s23_72, s23_73, s23_74, s23_77, or_true, true_or, true_and, and_true, mm_o_some, mm_o_none, mm_bk_v, mm_bk_n, Nat.reduceAdd, kS1 H.1, c24, if_pos g1, if_pos g2, if_pos g3, if_neg n10, c25, i32_1, i32_10000, if_pos g4, kR1_1 H.1, kR1_2 H.1, kS3 H.1, kS21 H.1, c26z H (by omega), if_neg (show ¬ n = 8 by omega), if_true]
  refine c27z H (by omega) (fun f1 F1 S1 => ?_)
  simp only [s23_80, s23_81, s23_84, s23_85, s23_86, s23_87, s23_89, s23_92, or_true, true_or, true_and, and_true, mm_o_some, mm_o_none, mm_bk_v, mm_bk_n, Nat.reduceAdd, kS1 S1.1, kR1_1 S1.1, kS3 S1.1]
  rw [← zI_x x, ← zI_x x2, ← zI_x x3, ← zI_x x4]
  refine c29z S1 hn hW hk (fun f2 F2 S2 => ?_)
  simp only [s22_0, s22_0o, s22_0n, s22_2, s22_3, s22_3o, s22_3n, s22_4, s22_5, s22_6, s22_7, s22_9, s22_12, s22_13, s22_14, s22_17, s22_17o, s22_17n, s22_19, s22_20, s22_21, s22_21o, s22_21n, s22_23, s22_24, s22_25, s22_26, s23_80, s23_81, s23_84, s23_85, s23_86, s23_87, s23_89, s23_92, or_true, true_or, true_and, and_true, mm_o_some, mm_o_none, mm_bk_v, mm_bk_n, Nat.reduceAdd, kS167 S2.1, show mm_in 0 1 = true from rfl, show (0 : Int32).toNatClampNeg = 0 from rfl]
  have F3 : zFr (fun x => x = 167) f2 (mm_pl f2 167 0 (nI n).toInt64) := zFr.pl rfl
  refine K _ (((F1.mono (fun a ha => by omega)).trans (F2.mono (fun a ha => by omega))).trans (F3.mono (fun a ha => Or.inr ha))) (S2.fr F3 (by omega) (fun x hx => by omega)) ?_
  rw [mm_l_pl, if_pos ⟨rfl, rfl⟩]
end
