/-! THE CLASS: PIECES -/
section
variable {d : Nat} {h h' : mm_H} {Q : mm_Q} {L n a b q t u i r e j na bL told : Nat} {W p A : Nat → Int} {m mk : Int} {R bR : zR} {P : Nat → Nat → Int} {sp : Bool} {T : Nat → Prop} {x x2 x3 x4 : Int32} {l : List Int}
theorem c42x (H : zCl h W n P mk sp bL bR na A) (hx : x < 0 ∨ (¬ x < 0 ∧ ¬ x < nI n)) : mm_wp d 42 0 [.ref 3, .int x] [] h Q ↔ Q (.inr (mm_n h)) (mm_nw h 32 6 6) := by
  rcases hx with g | ⟨g1, g2⟩
  · simp only [s42_0, s42_1, s42_4, s42_5, s42_6, s42_9, s42_12, s42_15, s42_16, s42_18, s42_21, s42_22, or_true, true_or, true_and, and_true, mm_o_some, mm_o_none, mm_bk_v, mm_bk_n, Nat.reduceAdd, if_pos g, kS3 H.1, mm_s_ex, Nat.reduceLeDiff]
  · simp only [s42_0, s42_1, s42_4, s42_5, s42_6, s42_9, s42_12, s42_15, s42_16, s42_18, s42_21, s42_22, or_true, true_or, true_and, and_true, mm_o_some, mm_o_none, mm_bk_v, mm_bk_n, Nat.reduceAdd, if_neg g1, kS3 H.1, H.2.1.2.1, if_neg g2, mm_s_ex, Nat.reduceLeDiff]
theorem c42z (H : zCl h W n P mk sp bL bR na A) (hn : n ≤ 8) (hj : j < n) : mm_wp d 42 0 [.ref 3, .int (nI j)] [] h Q ↔ Q (.inl none) h := by
  simp only [s42_0, s42_1, s42_4, s42_5, s42_6, s42_9, s42_12, s42_15, s42_16, s42_18, s42_21, s42_22, or_true, true_or, true_and, and_true, mm_o_some, mm_o_none, mm_bk_v, mm_bk_n, Nat.reduceAdd, if_neg (nI_pos (show j < 2 ^ 31 by omega)), kS3 H.1, H.2.1.2.1, if_pos (nI_lt hj (by omega))]
theorem c41x (H : zCl h W n P mk sp bL bR na A) (hx : x < 0 ∨ (¬ x < 0 ∧ ¬ x < nI n)) : mm_wp (d + 1) 41 0 [.ref 3, .int x] [] h Q ↔ Q (.inr (mm_n h)) (mm_nw h 32 6 6) := by
  simp only [s41_0, s41_1, s41_2, s41_5, s41_6, s41_9, s41_10, s41_11, s41_11o, s41_11n, or_true, true_or, true_and, and_true, mm_o_some, mm_o_none, mm_bk_v, mm_bk_n, Nat.reduceAdd, kS3 H.1, c42x H hx, mm_bk_x, mm_s_ex, show mm_hnd 41 2 32 = none from rfl, show mm_ncv 41 2 = true from rfl]
theorem c41z (H : zCl h W n P mk sp bL bR na A) (hn : n ≤ 8) (hj : j < n) : mm_wp (d + 1) 41 0 [.ref 3, .int (nI j)] [] h Q ↔ Q (.inl (some (.ref (5 + 2 * j)))) h := by
  have hin : mm_in (nI j) 8 = true := mm_inN (by omega) (by omega)
  have hcl : (nI j).toNatClampNeg = j := nI_clamp (by omega)
  simp only [s41_0, s41_1, s41_2, s41_5, s41_6, s41_9, s41_10, s41_11, s41_11o, s41_11n, or_true, true_or, true_and, and_true, mm_o_some, mm_o_none, mm_bk_v, mm_bk_n, Nat.reduceAdd, kS3 H.1, c42z H hn hj, kR3_0 H.1, kS4 H.1, hin, hcl, kR_pieces H.1 (show j < 8 by omega), Nat.reduceLeDiff]
theorem w47x (H : zCl h W n P mk sp bL bR na A) (hx : x < 0 ∨ (¬ x < 0 ∧ ¬ x < nI n)) (v3 : Value) : mm_wp (d + 3) 47 0 [.ref 1, .int x, .ref 167, v3] [] h Q ↔ Q (.inl (some (.int 1))) (mm_nw h 32 6 6) := by
  simp only [s47_0, s47_0o, s47_0n, s47_1, s47_2, s47_2o, s47_2n, s47_3, s47_4, s47_7, s47_8, s47_9, s47_12, s47_12o, s47_12n, s47_13, s47_14, s47_15, s47_16, s48_0, s48_1, s48_4, s48_5, s48_8, s48_11, or_true, true_or, true_and, and_true, mm_o_some, mm_o_none, mm_bk_v, mm_bk_n, Nat.reduceAdd, kS1 H.1, kR1_1 H.1, kS3 H.1, c41x H hx, mm_bk_x, mm_s_ex, show mm_hnd 48 5 32 = none from rfl, show mm_ncv 48 5 = true from rfl, show mm_hnd 47 4 32 = some 12 from rfl]
theorem w47z (H : zCl h W n P mk sp bL bR na A) (hn : n ≤ 8) (hj : j < n) (v3 : Value) : mm_wp (d + 3) 47 0 [.ref 1, .int (nI j), .ref 167, v3] [] h Q ↔ Q (.inl (some (.int 0))) (mm_pl h 167 0 (zI (zFits W (P j))).toInt64) := by
  simp only [s47_0, s47_0o, s47_0n, s47_1, s47_2, s47_2o, s47_2n, s47_3, s47_4, s47_7, s47_8, s47_9, s47_12, s47_12o, s47_12n, s47_13, s47_14, s47_15, s47_16, s48_0, s48_1, s48_4, s48_5, s48_8, s48_11, or_true, true_or, true_and, and_true, mm_o_some, mm_o_none, mm_bk_v, mm_bk_n, Nat.reduceAdd, kS1 H.1, kR1_1 H.1, kS3 H.1, c41z H hn hj, kS_piece H.1 (show j < 8 by omega), H.2.2.1 j hj, kS167 H.1, show mm_in 0 1 = true from rfl, show (0 : Int32).toNatClampNeg = 0 from rfl]
/-- piece j gets other numbers -/
def zSet (P : Nat → Nat → Int) (j : Nat) (p : Nat → Int) : Nat → Nat → Int := fun i => if i = j then p else P i
/-- the class's state when one piece's numbers have changed -/
theorem zCl.set (H : zCl h W n P mk sp bL bR na A) (hn : n ≤ 8) (hj : j < n) (F : zFr (fun x => x = 5 + 2 * j ∨ x = 6 + 2 * j) h h') (h1 : zPc h' (5 + 2 * j) p) (h2 : ∀ u, u < 6 → mm_i h' (6 + 2 * j) u = bI (zGd W p u)) (h3 : mm_i h' (5 + 2 * j) 2 = zI (zFits W p)) : zCl h' W n (zSet P j p) mk sp bL bR na A := by
  obtain ⟨g1, g2, g3, g4, g5, g6, g7, g8, g9, g10⟩ := H
  refine ⟨zFr.sk g1 F, ⟨fun k hk => by rw [F.i (by omega)]; exact g2.1 k hk, by rw [F.i (by omega)]; exact g2.2.1, fun i hi => ?_, fun i u hi hu => ?_⟩, fun i hi => ?_, g4.fr F (fun x x1 x2 => by omega), g5.fr F (fun x x1 x2 => by omega), g6.fr F (fun x x1 x2 => by omega), by rw [F.i (by omega)]; exact g7, by rw [F.i (by omega)]; exact g8, by rw [F.i (by omega)]; exact g9, fun i hi => by rw [F.i (by omega)]; exact g10 i hi⟩
  · by_cases e : i = j
    · rw [e, zSet, if_pos rfl]; exact h1
    · rw [zSet, if_neg e]
      exact ⟨by rw [F.2.2.1]; exact (g2.2.2.1 i hi).1, fun k k1 k2 => by rw [F.i (by omega)]; exact (g2.2.2.1 i hi).2 k k1 k2⟩
  · by_cases e : i = j
    · rw [e, zSet, if_pos rfl]; exact h2 u hu
    · rw [zSet, if_neg e, F.i (by omega)]; exact g2.2.2.2 i u hi hu
  · by_cases e : i = j
    · rw [e, zSet, if_pos rfl]; exact h3
    · rw [zSet, if_neg e, F.i (by omega)]; exact g3 i hi
/-- a piece's numbers with one changed -/
def zUp1 (p : Nat → Int) (k : Nat) (v : Int) : Nat → Int := fun i => if i = k then v else p i

theorem w39x (H : zCl h W n P mk sp bL bR na A) (hx : x < 0 ∨ (¬ x < 0 ∧ ¬ x < nI n)) (v4 : Value) : mm_wp (d + 3) 39 0 [.ref 1, .int x, .int x2, .ref 167, v4] [] h Q ↔ Q (.inl (some (.int 1))) (mm_nw h 32 6 6) := by
  simp only [s39_0, s39_0o, s39_0n, s39_1, s39_2, s39_2o, s39_2n, s39_3, s39_4, s39_5, s39_8, s39_9, s39_10, s39_13, s39_13o, s39_13n, s39_15, s39_16, s39_17, s39_17o, s39_17n, s39_19, s39_20, s39_21, s39_22, s40_0, s40_1, s40_4, s40_5, s40_8, s40_8o, s40_8n, s40_9, s40_10, s40_11, s40_12, s40_15, s40_18, s40_21, s40_22, s40_24, s40_27, s40_28, s40_28o, s40_28n, s40_29, s40_32, s40_34, s40_34o, s40_34n, s40_35, s40_36, s40_39, s40_40, s40_43, s40_46, s40_48, or_true, true_or, true_and, and_true, mm_o_some, mm_o_none, mm_bk_v, mm_bk_n, Nat.reduceAdd, kS1 H.1, kR1_1 H.1, kS3 H.1, c41x H hx, mm_bk_x, mm_s_ex, show mm_hnd 40 5 32 = none from rfl, show mm_ncv 40 5 = true from rfl, show mm_hnd 39 5 32 = some 13 from rfl]
theorem w39y (H : zCl h W n P mk sp bL bR na A) (hn : n ≤ 8) (hj : j < n) (hx : ¬ (0 ≤ x2.toInt ∧ x2.toInt ≤ 3)) (v4 : Value) : mm_wp (d + 3) 39 0 [.ref 1, .int (nI j), .int x2, .ref 167, v4] [] h Q ↔ Q (.inl (some (.int 2))) (mm_nw h 30 6 6) := by
  simp only [s39_0, s39_0o, s39_0n, s39_1, s39_2, s39_2o, s39_2n, s39_3, s39_4, s39_5, s39_8, s39_9, s39_10, s39_13, s39_13o, s39_13n, s39_15, s39_16, s39_17, s39_17o, s39_17n, s39_19, s39_20, s39_21, s39_22, s40_0, s40_1, s40_4, s40_5, s40_8, s40_8o, s40_8n, s40_9, s40_10, s40_11, s40_12, s40_15, s40_18, s40_21, s40_22, s40_24, s40_27, s40_28, s40_28o, s40_28n, s40_29, s40_32, s40_34, s40_34o, s40_34n, s40_35, s40_36, s40_39, s40_40, s40_43, s40_46, s40_48, or_true, true_or, true_and, and_true, mm_o_some, mm_o_none, mm_bk_v, mm_bk_n, Nat.reduceAdd, kS1 H.1, kR1_1 H.1, kS3 H.1, c41z H hn hj, c25, i32_0, i32_3, if_neg hx, if_true, mm_bk_x, mm_s_ex, Nat.reduceLeDiff, show mm_hnd 39 5 30 = some 17 from rfl]

theorem w43x (H : zCl h W n P mk sp bL bR na A) (hx : x < 0 ∨ (¬ x < 0 ∧ ¬ x < nI n)) (v4 : Value) : mm_wp (d + 3) 43 0 [.ref 1, .int x, .int x2, .ref 167, v4] [] h Q ↔ Q (.inl (some (.int 1))) (mm_nw h 32 6 6) := by
  simp only [s43_0, s43_0o, s43_0n, s43_1, s43_2, s43_2o, s43_2n, s43_3, s43_4, s43_5, s43_8, s43_9, s43_10, s43_13, s43_13o, s43_13n, s43_15, s43_16, s43_17, s43_17o, s43_17n, s43_19, s43_20, s43_21, s43_22, s44_0, s44_1, s44_4, s44_5, s44_8, s44_8o, s44_8n, s44_9, s44_10, s44_11, s44_13, s44_16, s44_19, s44_22, s44_23, s44_25, s44_28, s44_29, s44_29o, s44_29n, s44_30, s44_33, s44_35, s44_35o, s44_35n, s44_36, s44_37, s44_40, s44_41, s44_44, s44_47, s44_49, or_true, true_or, true_and, and_true, mm_o_some, mm_o_none, mm_bk_v, mm_bk_n, Nat.reduceAdd, kS1 H.1, kR1_1 H.1, kS3 H.1, c41x H hx, mm_bk_x, mm_s_ex, show mm_hnd 44 5 32 = none from rfl, show mm_ncv 44 5 = true from rfl, show mm_hnd 43 5 32 = some 13 from rfl]
theorem w43y (H : zCl h W n P mk sp bL bR na A) (hn : n ≤ 8) (hj : j < n) (hx : ¬ (0 ≤ x2.toInt ∧ x2.toInt ≤ 9)) (v4 : Value) : mm_wp (d + 3) 43 0 [.ref 1, .int (nI j), .int x2, .ref 167, v4] [] h Q ↔ Q (.inl (some (.int 2))) (mm_nw h 30 6 6) := by
  simp only [s43_0, s43_0o, s43_0n, s43_1, s43_2, s43_2o, s43_2n, s43_3, s43_4, s43_5, s43_8, s43_9, s43_10, s43_13, s43_13o, s43_13n, s43_15, s43_16, s43_17, s43_17o, s43_17n, s43_19, s43_20, s43_21, s43_22, s44_0, s44_1, s44_4, s44_5, s44_8, s44_8o, s44_8n, s44_9, s44_10, s44_11, s44_13, s44_16, s44_19, s44_22, s44_23, s44_25, s44_28, s44_29, s44_29o, s44_29n, s44_30, s44_33, s44_35, s44_35o, s44_35n, s44_36, s44_37, s44_40, s44_41, s44_44, s44_47, s44_49, or_true, true_or, true_and, and_true, mm_o_some, mm_o_none, mm_bk_v, mm_bk_n, Nat.reduceAdd, kS1 H.1, kR1_1 H.1, kS3 H.1, c41z H hn hj, c25, i32_0, i32_9, if_neg hx, if_true, mm_bk_x, mm_s_ex, Nat.reduceLeDiff, show mm_hnd 43 5 30 = some 17 from rfl]

theorem w45x (H : zCl h W n P mk sp bL bR na A) (hx : x < 0 ∨ (¬ x < 0 ∧ ¬ x < nI n)) (v4 : Value) : mm_wp (d + 3) 45 0 [.ref 1, .int x, .int x2, .ref 167, v4] [] h Q ↔ Q (.inl (some (.int 1))) (mm_nw h 32 6 6) := by
  simp only [s45_0, s45_0o, s45_0n, s45_1, s45_2, s45_2o, s45_2n, s45_3, s45_4, s45_5, s45_8, s45_9, s45_10, s45_13, s45_13o, s45_13n, s45_15, s45_16, s45_17, s45_17o, s45_17n, s45_19, s45_20, s45_21, s45_22, s46_0, s46_1, s46_4, s46_5, s46_8, s46_8o, s46_8n, s46_9, s46_10, s46_11, s46_13, s46_16, s46_19, s46_22, s46_23, s46_25, s46_28, s46_29, s46_29o, s46_29n, s46_30, s46_33, s46_35, s46_35o, s46_35n, s46_36, s46_37, s46_40, s46_41, s46_44, s46_47, s46_49, or_true, true_or, true_and, and_true, mm_o_some, mm_o_none, mm_bk_v, mm_bk_n, Nat.reduceAdd, kS1 H.1, kR1_1 H.1, kS3 H.1, c41x H hx, mm_bk_x, mm_s_ex, show mm_hnd 46 5 32 = none from rfl, show mm_ncv 46 5 = true from rfl, show mm_hnd 45 5 32 = some 13 from rfl]
theorem w45y (H : zCl h W n P mk sp bL bR na A) (hn : n ≤ 8) (hj : j < n) (hx : ¬ (0 ≤ x2.toInt ∧ x2.toInt ≤ 100000)) (v4 : Value) : mm_wp (d + 3) 45 0 [.ref 1, .int (nI j), .int x2, .ref 167, v4] [] h Q ↔ Q (.inl (some (.int 2))) (mm_nw h 30 6 6) := by
  simp only [s45_0, s45_0o, s45_0n, s45_1, s45_2, s45_2o, s45_2n, s45_3, s45_4, s45_5, s45_8, s45_9, s45_10, s45_13, s45_13o, s45_13n, s45_15, s45_16, s45_17, s45_17o, s45_17n, s45_19, s45_20, s45_21, s45_22, s46_0, s46_1, s46_4, s46_5, s46_8, s46_8o, s46_8n, s46_9, s46_10, s46_11, s46_13, s46_16, s46_19, s46_22, s46_23, s46_25, s46_28, s46_29, s46_29o, s46_29n, s46_30, s46_33, s46_35, s46_35o, s46_35n, s46_36, s46_37, s46_40, s46_41, s46_44, s46_47, s46_49, or_true, true_or, true_and, and_true, mm_o_some, mm_o_none, mm_bk_v, mm_bk_n, Nat.reduceAdd, kS1 H.1, kR1_1 H.1, kS3 H.1, c41z H hn hj, c25, i32_0, i32_100000, if_neg hx, if_true, mm_bk_x, mm_s_ex, Nat.reduceLeDiff, show mm_hnd 45 5 30 = some 17 from rfl]

theorem w39z (H : zCl h W n P mk sp bL bR na A) (hn : n ≤ 8) (hj : j < n) (hW : zWok W) (hPk : ∀ p, p < n → zPok (P p)) (hx : 0 ≤ x2.toInt ∧ x2.toInt ≤ 3) (v4 : Value) (K : ∀ h', zFr (fun x => (1 ≤ x ∧ x < 142) ∨ x = 167) h h' → zCl h' W n (zSet P j (zUp1 (P j) 7 x2.toInt)) (-1) sp 0 zR0 na A → mm_l h' 167 0 = (zI (P j 7)).toInt64 → Q (.inl (some (.int 0))) h') : mm_wp (d + 5) 39 0 [.ref 1, .int (nI j), .int x2, .ref 167, v4] [] h Q := by
  have H0 := H
  obtain ⟨g1, g2, g3, g4, g5, g6, g7, g8, g9, g10⟩ := H
  have hpj := hPk j hj
  have hk : zPok (zMk (P j) x2.toInt) := by
    simp only [zPok, zMk, Nat.reduceEqDiff, reduceIte] at *
    omega
  simp only [s39_0, s39_0o, s39_0n, s39_1, s39_2, s39_2o, s39_2n, s39_3, s39_4, s39_5, s39_8, s39_9, s39_10, s39_13, s39_13o, s39_13n, s39_15, s39_16, s39_17, s39_17o, s39_17n, s39_19, s39_20, s39_21, s39_22, s40_0, s40_1, s40_4, s40_5, s40_8, s40_8o, s40_8n, s40_9, s40_10, s40_11, s40_12, s40_15, s40_18, s40_21, s40_22, s40_24, s40_27, s40_28, s40_28o, s40_28n, s40_29, s40_32, s40_34, s40_34o, s40_34n, s40_35, s40_36, or_true, true_or, true_and, and_true, mm_o_some, mm_o_none, mm_bk_v, mm_bk_n, Nat.reduceAdd, kS1 g1, kR1_1 g1, kS3 g1, c41z H0 hn hj, c25, i32_0, i32_3, if_pos hx, if_neg n10, kS_piece g1 (show j < 8 by omega)]
  have e7 := (g2.2.2.1 j hj).2 7 (by decide) (by decide)
  rw [e7, ← zI_x x2]
  refine c31z (show j < 8 by omega) g1 (g2.2.2.1 j hj) hk g2.1 hW _ (fun f1 F1 a1 a2 a3 => ?_)
  have S1 := H0.set hn hj F1 a1 a2 a3
  simp only [s40_39, s40_40, s40_43, s40_46, s40_48, or_true, true_or, true_and, and_true, mm_o_some, mm_o_none, mm_bk_v, mm_bk_n, Nat.reduceAdd, kS1 S1.1, kR1_2 S1.1, kS21 S1.1]
  refine c27z S1 hn (fun f2 F2 S2 => ?_)
  simp only [s39_0, s39_0o, s39_0n, s39_1, s39_2, s39_2o, s39_2n, s39_3, s39_4, s39_5, s39_8, s39_9, s39_10, s39_13, s39_13o, s39_13n, s39_15, s39_16, s39_17, s39_17o, s39_17n, s39_19, s39_20, s39_21, s39_22, s40_39, s40_40, s40_43, s40_46, s40_48, or_true, true_or, true_and, and_true, mm_o_some, mm_o_none, mm_bk_v, mm_bk_n, Nat.reduceAdd, kS167 S2.1, show mm_in 0 1 = true from rfl, show (0 : Int32).toNatClampNeg = 0 from rfl]
  have F3 : zFr (fun x => x = 167) f2 (mm_pl f2 167 0 (zI (P j 7)).toInt64) := zFr.pl rfl
  refine K _ (((F1.mono (fun a ha => by omega)).trans (F2.mono (fun a ha => by omega))).trans (F3.mono (fun a ha => Or.inr ha))) (S2.fr F3 hn (fun x hx => by omega)) ?_
  rw [mm_l_pl, if_pos ⟨rfl, rfl⟩]

theorem w43z (H : zCl h W n P mk sp bL bR na A) (hn : n ≤ 8) (hj : j < n) (hx : 0 ≤ x2.toInt ∧ x2.toInt ≤ 9) (v4 : Value) (K : ∀ h', zFr (fun x => (1 ≤ x ∧ x < 142) ∨ x = 167) h h' → zCl h' W n (zSet P j (zUp1 (P j) 8 x2.toInt)) (-1) sp 0 zR0 na A → mm_l h' 167 0 = (zI (P j 8)).toInt64 → Q (.inl (some (.int 0))) h') : mm_wp (d + 5) 43 0 [.ref 1, .int (nI j), .int x2, .ref 167, v4] [] h Q := by
  have H0 := H
  obtain ⟨g1, g2, g3, g4, g5, g6, g7, g8, g9, g10⟩ := H
  have spc := kS_piece g1 (show j < 8 by omega)
  have e7 := (g2.2.2.1 j hj).2 8 (by decide) (by decide)
  have F1 : zFr (fun x => x = 5 + 2 * j ∨ x = 6 + 2 * j) h (mm_pi h (5 + 2 * j) 8 x2) := zFr.pi (Or.inl rfl)
  have S1 : zCl (mm_pi h (5 + 2 * j) 8 x2) W n (zSet P j (zUp1 (P j) 8 x2.toInt)) mk sp bL bR na A := by
    refine H0.set hn hj F1 ⟨by rw [mm_s_pi, spc], fun k k1 k2 => ?_⟩ (fun u hu => ?_) ?_
    · rw [mm_i_pi]
      by_cases e : k = 8
      · rw [if_pos ⟨rfl, e⟩, e, zUp1, if_pos rfl, zI_x]
      · rw [if_neg (fun z => e z.2), zUp1, if_neg e]; exact (g2.2.2.1 j hj).2 k k1 k2
    · rw [mm_i_pi, if_neg (by omega)]; exact g2.2.2.2 j u hj hu
    · rw [mm_i_pi, if_neg (by omega)]; exact g3 j hj
  simp only [s43_0, s43_0o, s43_0n, s43_1, s43_2, s43_2o, s43_2n, s43_3, s43_4, s43_5, s43_8, s43_9, s43_10, s43_13, s43_13o, s43_13n, s43_15, s43_16, s43_17, s43_17o, s43_17n, s43_19, s43_20, s43_21, s43_22, s44_0, s44_1, s44_4, s44_5, s44_8, s44_8o, s44_8n, s44_9, s44_10, s44_11, s44_13, s44_16, s44_19, s44_22, s44_23, s44_25, s44_28, s44_29, s44_29o, s44_29n, s44_30, s44_33, s44_35, s44_35o, s44_35n, s44_36, s44_37, or_true, true_or, true_and, and_true, mm_o_some, mm_o_none, mm_bk_v, mm_bk_n, Nat.reduceAdd, kS1 g1, kR1_1 g1, kS3 g1, c41z H0 hn hj, c25, i32_0, i32_9, if_pos hx, if_neg n10, spc, e7]
  generalize mm_pi h (5 + 2 * j) 8 x2 = f1 at *
  simp only [s44_40, s44_41, s44_44, s44_47, s44_49, or_true, true_or, true_and, and_true, mm_o_some, mm_o_none, mm_bk_v, mm_bk_n, Nat.reduceAdd, kS1 S1.1, kR1_2 S1.1, kS21 S1.1]
  refine c27z S1 hn (fun f2 F2 S2 => ?_)
  simp only [s43_0, s43_0o, s43_0n, s43_1, s43_2, s43_2o, s43_2n, s43_3, s43_4, s43_5, s43_8, s43_9, s43_10, s43_13, s43_13o, s43_13n, s43_15, s43_16, s43_17, s43_17o, s43_17n, s43_19, s43_20, s43_21, s43_22, s44_40, s44_41, s44_44, s44_47, s44_49, or_true, true_or, true_and, and_true, mm_o_some, mm_o_none, mm_bk_v, mm_bk_n, Nat.reduceAdd, kS167 S2.1, show mm_in 0 1 = true from rfl, show (0 : Int32).toNatClampNeg = 0 from rfl]
  have F3 : zFr (fun x => x = 167) f2 (mm_pl f2 167 0 (zI (P j 8)).toInt64) := zFr.pl rfl
  refine K _ (((F1.mono (fun a ha => by omega)).trans (F2.mono (fun a ha => by omega))).trans (F3.mono (fun a ha => Or.inr ha))) (S2.fr F3 hn (fun x hx => by omega)) ?_
  rw [mm_l_pl, if_pos ⟨rfl, rfl⟩]

theorem w45z (H : zCl h W n P mk sp bL bR na A) (hn : n ≤ 8) (hj : j < n) (hx : 0 ≤ x2.toInt ∧ x2.toInt ≤ 100000) (v4 : Value) (K : ∀ h', zFr (fun x => (1 ≤ x ∧ x < 142) ∨ x = 167) h h' → zCl h' W n (zSet P j (zUp1 (P j) 9 x2.toInt)) (-1) sp 0 zR0 na A → mm_l h' 167 0 = (zI (P j 9)).toInt64 → Q (.inl (some (.int 0))) h') : mm_wp (d + 5) 45 0 [.ref 1, .int (nI j), .int x2, .ref 167, v4] [] h Q := by
  have H0 := H
  obtain ⟨g1, g2, g3, g4, g5, g6, g7, g8, g9, g10⟩ := H
  have spc := kS_piece g1 (show j < 8 by omega)
  have e7 := (g2.2.2.1 j hj).2 9 (by decide) (by decide)
  have F1 : zFr (fun x => x = 5 + 2 * j ∨ x = 6 + 2 * j) h (mm_pi h (5 + 2 * j) 9 x2) := zFr.pi (Or.inl rfl)
  have S1 : zCl (mm_pi h (5 + 2 * j) 9 x2) W n (zSet P j (zUp1 (P j) 9 x2.toInt)) mk sp bL bR na A := by
    refine H0.set hn hj F1 ⟨by rw [mm_s_pi, spc], fun k k1 k2 => ?_⟩ (fun u hu => ?_) ?_
    · rw [mm_i_pi]
      by_cases e : k = 9
      · rw [if_pos ⟨rfl, e⟩, e, zUp1, if_pos rfl, zI_x]
      · rw [if_neg (fun z => e z.2), zUp1, if_neg e]; exact (g2.2.2.1 j hj).2 k k1 k2
    · rw [mm_i_pi, if_neg (by omega)]; exact g2.2.2.2 j u hj hu
    · rw [mm_i_pi, if_neg (by omega)]; exact g3 j hj
  simp only [s45_0, s45_0o, s45_0n, s45_1, s45_2, s45_2o, s45_2n, s45_3, s45_4, s45_5, s45_8, s45_9, s45_10, s45_13, s45_13o, s45_13n, s45_15, s45_16, s45_17, s45_17o, s45_17n, s45_19, s45_20, s45_21, s45_22, s46_0, s46_1, s46_4, s46_5, s46_8, s46_8o, s46_8n, s46_9, s46_10, s46_11, s46_13, s46_16, s46_19, s46_22, s46_23, s46_25, s46_28, s46_29, s46_29o, s46_29n, s46_30, s46_33, s46_35, s46_35o, s46_35n, s46_36, s46_37, or_true, true_or, true_and, and_true, mm_o_some, mm_o_none, mm_bk_v, mm_bk_n, Nat.reduceAdd, kS1 g1, kR1_1 g1, kS3 g1, c41z H0 hn hj, c25, i32_0, i32_100000, if_pos hx, if_neg n10, spc, e7]
  generalize mm_pi h (5 + 2 * j) 9 x2 = f1 at *
  simp only [s46_40, s46_41, s46_44, s46_47, s46_49, or_true, true_or, true_and, and_true, mm_o_some, mm_o_none, mm_bk_v, mm_bk_n, Nat.reduceAdd, kS1 S1.1, kR1_2 S1.1, kS21 S1.1]
  refine c27z S1 hn (fun f2 F2 S2 => ?_)
  simp only [s45_0, s45_0o, s45_0n, s45_1, s45_2, s45_2o, s45_2n, s45_3, s45_4, s45_5, s45_8, s45_9, s45_10, s45_13, s45_13o, s45_13n, s45_15, s45_16, s45_17, s45_17o, s45_17n, s45_19, s45_20, s45_21, s45_22, s46_40, s46_41, s46_44, s46_47, s46_49, or_true, true_or, true_and, and_true, mm_o_some, mm_o_none, mm_bk_v, mm_bk_n, Nat.reduceAdd, kS167 S2.1, show mm_in 0 1 = true from rfl, show (0 : Int32).toNatClampNeg = 0 from rfl]
  have F3 : zFr (fun x => x = 167) f2 (mm_pl f2 167 0 (zI (P j 9)).toInt64) := zFr.pl rfl
  refine K _ (((F1.mono (fun a ha => by omega)).trans (F2.mono (fun a ha => by omega))).trans (F3.mono (fun a ha => Or.inr ha))) (S2.fr F3 hn (fun x hx => by omega)) ?_
  rw [mm_l_pl, if_pos ⟨rfl, rfl⟩]

end
