/-! rows of the program, by rows.py -/
section
variable {d : Nat} {ls st : List Value} {h : mm_H} {Q : mm_Q} {o : Option Nat} {a b c : Nat} {x y x1 x2 x3 x4 x5 x6 : Int32} {w w2 w3 w4 : Int64} {q : UInt32} {l0 l1 l2 l3 l4 l5 l6 l7 l8 l9 l10 l11 l12 l13 l14 l15 l16 t0 t1 t2 t3 t4 t5 : Value}
/-! 9: LoadRoom$Row.<init>()V -/
theorem s9_0 : mm_wp d 9 0 [.ref a, l1] st h Q ↔ mm_wp d 9 1 [.ref a, l1] (.ref a :: st) h Q := wp_aloadR_n rfl rfl
theorem s9_1 : mm_wp d 9 1 ls (.ref a :: []) h Q ↔ mm_wp d 9 4 ls [] h Q := wp_objInit rfl rfl (Nat.le_of_ble_eq_true rfl)
theorem s9_4 : mm_wp d 9 4 [.ref a, l1] st h Q ↔ mm_wp d 9 5 [.ref a, l1] (.ref a :: st) h Q := wp_aloadR_n rfl rfl
theorem s9_5 : mm_wp d 9 5 ls st h Q ↔ mm_wp d 9 7 ls (.int (8 : Int32) :: st) h Q := wp_bipush rfl rfl
theorem s9_7 : mm_wp d 9 7 ls (.int x :: st) h Q ↔ (0 ≤ x ∧ x ≤ 1000) ∧ mm_wp d 9 10 ls (.ref (mm_n h) :: st) (mm_nw h 24 x.toNatClampNeg x.toNatClampNeg) Q := wp_newA rfl rfl (by decide)
theorem s9_10 : mm_wp d 9 10 ls (.ref b :: .ref a :: st) h Q ↔ (mm_s h a).1 = 7 ∧ mm_wp d 9 13 ls st (mm_pr h a 0 (some b)) Q := wp_putR rfl rfl
theorem s9_13 : mm_wp d 9 13 ls st h Q ↔ mm_wp d 9 14 ls (.int (0 : Int32) :: st) h Q := wp_iconst rfl rfl
theorem s9_14 : mm_wp d 9 14 [l0, l1] (.int x :: st) h Q ↔ mm_wp d 9 15 [l0, .int x] st h Q := wp_istore_n rfl rfl
theorem s9_15 : mm_wp d 9 15 [l0, .int x] st h Q ↔ mm_wp d 9 16 [l0, .int x] (.int x :: st) h Q := wp_iload_n rfl rfl
theorem s9_16 : mm_wp d 9 16 ls st h Q ↔ mm_wp d 9 18 ls (.int (8 : Int32) :: st) h Q := wp_bipush rfl rfl
theorem s9_18 : mm_wp d 9 18 ls (.int x2 :: .int x :: st) h Q ↔ if x2 ≤ x then mm_wp d 9 41 ls st h Q else mm_wp d 9 21 ls st h Q := wp_icmpge rfl rfl
theorem s9_21 : mm_wp d 9 21 [.ref a, l1] st h Q ↔ mm_wp d 9 22 [.ref a, l1] (.ref a :: st) h Q := wp_aloadR_n rfl rfl
theorem s9_22 : mm_wp d 9 22 ls (.ref a :: st) h Q ↔ (mm_s h a).1 = 7 ∧ mm_wp d 9 25 ls (mm_o (mm_r h a 0) :: st) h Q := wp_getR rfl rfl
theorem s9_25 : mm_wp d 9 25 [l0, .int x] st h Q ↔ mm_wp d 9 26 [l0, .int x] (.int x :: st) h Q := wp_iload_n rfl rfl
theorem s9_26 : mm_wp d 9 26 ls st h Q ↔ mm_wp d 9 29 ls (.ref (mm_n h) :: st) (mm_nw h 6 16 16) Q := wp_new rfl rfl rfl rfl
theorem s9_29 : mm_wp d 9 29 ls (.ref a :: st) h Q ↔ mm_wp d 9 30 ls (.ref a :: .ref a :: st) h Q := wp_dupR rfl
theorem s9_30 : mm_wp d 9 30 [l0, .int x] st h Q ↔ mm_wp d 9 31 [l0, .int x] (.int x :: st) h Q := wp_iload_n rfl rfl
theorem s9_31 : mm_wp (d + 1) 9 31 ls [.int x2, .ref a, t2, t1, t0] h Q ↔ mm_wp d 10 0 [.ref a, .int x2] [] h (mm_bk (d + 1) 9 31 ls [t2, t1, t0] Q) := wp_special (a := a) rfl rfl ⟨by decide, rfl⟩ ⟨Nat.le_of_ble_eq_true rfl, Nat.le_of_ble_eq_true rfl⟩ rfl rfl rfl rfl rfl
theorem s9_34 : mm_wp d 9 34 ls (.ref b :: .int x :: .ref a :: st) h Q ↔ (((mm_s h a).1 = 23 ∧ (mm_s h b).1 = 5 ∨ (mm_s h a).1 = 24 ∧ (mm_s h b).1 = 6 ∨ (mm_s h a).1 = 25 ∧ (mm_s h b).1 = 4) ∧ mm_in x (mm_s h a).2 = true) ∧ mm_wp d 9 35 ls st (mm_pr h a x.toNatClampNeg (some b)) Q := wp_aastore rfl
theorem s9_35 : mm_wp d 9 35 [l0, .int x] st h Q ↔ mm_wp d 9 38 [l0, .int (x + (1 : Int32))] st h Q := wp_iinc rfl rfl rfl rfl
theorem s9_38 : mm_wp d 9 38 ls st h Q ↔ mm_wp d 9 15 ls st h Q := wp_goto rfl rfl
theorem s9_41 : mm_wp d 9 41 ls st h Q ↔ Q (.inl none) h := wp_vret rfl rfl
/-! 10: LoadRoom$Placed.<init>(I)V -/
theorem s10_0 : mm_wp d 10 0 [.ref a, l1] st h Q ↔ mm_wp d 10 1 [.ref a, l1] (.ref a :: st) h Q := wp_aloadR_n rfl rfl
theorem s10_1 : mm_wp d 10 1 ls (.ref a :: []) h Q ↔ mm_wp d 10 4 ls [] h Q := wp_objInit rfl rfl (Nat.le_of_ble_eq_true rfl)
theorem s10_4 : mm_wp d 10 4 [.ref a, l1] st h Q ↔ mm_wp d 10 5 [.ref a, l1] (.ref a :: st) h Q := wp_aloadR_n rfl rfl
theorem s10_5 : mm_wp d 10 5 [l0, .int x] st h Q ↔ mm_wp d 10 6 [l0, .int x] (.int x :: st) h Q := wp_iload_n rfl rfl
theorem s10_6 : mm_wp d 10 6 ls (.int x :: .ref a :: st) h Q ↔ (mm_s h a).1 = 6 ∧ mm_wp d 10 9 ls st (mm_pi h a 0 x) Q := wp_putI rfl rfl
theorem s10_9 : mm_wp d 10 9 ls st h Q ↔ Q (.inl none) h := wp_vret rfl rfl
/-! 11: LoadRoom$Ends.<init>()V -/
theorem s11_0 : mm_wp d 11 0 [.ref a] st h Q ↔ mm_wp d 11 1 [.ref a] (.ref a :: st) h Q := wp_aloadR_n rfl rfl
theorem s11_1 : mm_wp d 11 1 ls (.ref a :: []) h Q ↔ mm_wp d 11 4 ls [] h Q := wp_objInit rfl rfl (Nat.le_of_ble_eq_true rfl)
theorem s11_4 : mm_wp d 11 4 [.ref a] st h Q ↔ mm_wp d 11 5 [.ref a] (.ref a :: st) h Q := wp_aloadR_n rfl rfl
theorem s11_5 : mm_wp d 11 5 ls st h Q ↔ mm_wp d 11 7 ls (.int (8 : Int32) :: st) h Q := wp_bipush rfl rfl
theorem s11_7 : mm_wp d 11 7 ls st h Q ↔ mm_wp d 11 9 ls (.int (8 : Int32) :: st) h Q := wp_bipush rfl rfl
theorem s11_9 : mm_wp d 11 9 ls (.int x2 :: .int x :: st) h Q ↔ (0 ≤ x ∧ x ≤ 1000 ∧ 0 ≤ x2 ∧ x2 ≤ 1000) ∧ mm_wp d 11 13 ls (.ref (mm_n h) :: st) (mm_nw2 h 26 20 x.toNatClampNeg x2.toNatClampNeg) Q := wp_newM rfl rfl
theorem s11_13 : mm_wp d 11 13 ls (.ref b :: .ref a :: st) h Q ↔ (mm_s h a).1 = 3 ∧ mm_wp d 11 16 ls st (mm_pr h a 0 (some b)) Q := wp_putR rfl rfl
theorem s11_16 : mm_wp d 11 16 [.ref a] st h Q ↔ mm_wp d 11 17 [.ref a] (.ref a :: st) h Q := wp_aloadR_n rfl rfl
theorem s11_17 : mm_wp d 11 17 ls st h Q ↔ mm_wp d 11 19 ls (.int (8 : Int32) :: st) h Q := wp_bipush rfl rfl
theorem s11_19 : mm_wp d 11 19 ls (.int x :: st) h Q ↔ (0 ≤ x ∧ x ≤ 1000) ∧ mm_wp d 11 21 ls (.ref (mm_n h) :: st) (mm_nw h 20 x.toNatClampNeg x.toNatClampNeg) Q := wp_newI rfl
theorem s11_21 : mm_wp d 11 21 ls (.ref b :: .ref a :: st) h Q ↔ (mm_s h a).1 = 3 ∧ mm_wp d 11 24 ls st (mm_pr h a 1 (some b)) Q := wp_putR rfl rfl
theorem s11_24 : mm_wp d 11 24 [.ref a] st h Q ↔ mm_wp d 11 25 [.ref a] (.ref a :: st) h Q := wp_aloadR_n rfl rfl
theorem s11_25 : mm_wp d 11 25 ls (.ref a :: st) h Q ↔ (mm_s h a).1 = 3 ∧ mm_wp d 11 28 ls (mm_o (mm_r h a 1) :: st) h Q := wp_getR rfl rfl
theorem s11_28 : mm_wp d 11 28 ls st h Q ↔ mm_wp d 11 29 ls (.int (0 : Int32) :: st) h Q := wp_iconst rfl rfl
theorem s11_29 : mm_wp d 11 29 ls st h Q ↔ mm_wp d 11 30 ls (.int (1 : Int32) :: st) h Q := wp_iconst rfl rfl
theorem s11_30 : mm_wp d 11 30 ls (.int x2 :: .int x :: .ref a :: st) h Q ↔ ((mm_s h a).1 = 20 ∧ ¬ a = 0 ∧ mm_in x (mm_s h a).2 = true) ∧ mm_wp d 11 31 ls st (mm_pi h a x.toNatClampNeg x2) Q := wp_iastore rfl
theorem s11_31 : mm_wp d 11 31 ls st h Q ↔ Q (.inl none) h := wp_vret rfl rfl
/-! 12: LoadRoom$Floor.<init>()V -/
theorem s12_0 : mm_wp d 12 0 [.ref a] st h Q ↔ mm_wp d 12 1 [.ref a] (.ref a :: st) h Q := wp_aloadR_n rfl rfl
theorem s12_1 : mm_wp d 12 1 ls (.ref a :: []) h Q ↔ mm_wp d 12 4 ls [] h Q := wp_objInit rfl rfl (Nat.le_of_ble_eq_true rfl)
theorem s12_4 : mm_wp d 12 4 ls st h Q ↔ Q (.inl none) h := wp_vret rfl rfl
/-! 13: LoadRoom$Axles.<init>()V -/
theorem s13_0 : mm_wp d 13 0 [.ref a] st h Q ↔ mm_wp d 13 1 [.ref a] (.ref a :: st) h Q := wp_aloadR_n rfl rfl
theorem s13_1 : mm_wp d 13 1 ls (.ref a :: []) h Q ↔ mm_wp d 13 4 ls [] h Q := wp_objInit rfl rfl (Nat.le_of_ble_eq_true rfl)
theorem s13_4 : mm_wp d 13 4 [.ref a] st h Q ↔ mm_wp d 13 5 [.ref a] (.ref a :: st) h Q := wp_aloadR_n rfl rfl
theorem s13_5 : mm_wp d 13 5 ls st h Q ↔ mm_wp d 13 7 ls (.int (6 : Int32) :: st) h Q := wp_bipush rfl rfl
theorem s13_7 : mm_wp d 13 7 ls (.int x :: st) h Q ↔ (0 ≤ x ∧ x ≤ 1000) ∧ mm_wp d 13 9 ls (.ref (mm_n h) :: st) (mm_nw h 20 x.toNatClampNeg x.toNatClampNeg) Q := wp_newI rfl
theorem s13_9 : mm_wp d 13 9 ls (.ref b :: .ref a :: st) h Q ↔ (mm_s h a).1 = 0 ∧ mm_wp d 13 12 ls st (mm_pr h a 0 (some b)) Q := wp_putR rfl rfl
theorem s13_12 : mm_wp d 13 12 ls st h Q ↔ Q (.inl none) h := wp_vret rfl rfl
/-! 14: LoadRoom.exact()Z -/
theorem s14_0 : mm_wp d 14 0 [.ref a] st h Q ↔ mm_wp d 14 1 [.ref a] (.ref a :: st) h Q := wp_aloadR_n rfl rfl
theorem s14_1 : mm_wp d 14 1 ls (.ref a :: st) h Q ↔ (mm_s h a).1 = 9 ∧ mm_wp d 14 4 ls (mm_o (mm_r h a 2) :: st) h Q := wp_getR rfl rfl
theorem s14_4 : mm_wp d 14 4 ls (.ref a :: st) h Q ↔ (mm_s h a).1 = 8 ∧ mm_wp d 14 7 ls (.int (mm_i h a 9) :: st) h Q := wp_getI rfl rfl (by decide) (by decide)
theorem s14_7 : mm_wp d 14 7 ls st h Q ↔ mm_wp d 14 8 ls (.int (-1 : Int32) :: st) h Q := wp_iconst rfl rfl
theorem s14_8 : mm_wp d 14 8 ls (.int x2 :: .int x :: st) h Q ↔ if x = x2 then mm_wp d 14 25 ls st h Q else mm_wp d 14 11 ls st h Q := wp_icmpeq rfl rfl
theorem s14_11 : mm_wp d 14 11 [.ref a] st h Q ↔ mm_wp d 14 12 [.ref a] (.ref a :: st) h Q := wp_aloadR_n rfl rfl
theorem s14_12 : mm_wp d 14 12 ls (.ref a :: st) h Q ↔ (mm_s h a).1 = 9 ∧ mm_wp d 14 15 ls (mm_o (mm_r h a 2) :: st) h Q := wp_getR rfl rfl
theorem s14_15 : mm_wp d 14 15 ls (.ref a :: st) h Q ↔ (mm_s h a).1 = 8 ∧ mm_wp d 14 18 ls (.int (mm_i h a 10) :: st) h Q := wp_getI rfl rfl (by decide) (by decide)
theorem s14_18 : mm_wp d 14 18 ls (.int x :: st) h Q ↔ if x = 0 then mm_wp d 14 21 ls st h Q else mm_wp d 14 25 ls st h Q := wp_ifne rfl rfl
theorem s14_21 : mm_wp d 14 21 ls st h Q ↔ mm_wp d 14 22 ls (.int (1 : Int32) :: st) h Q := wp_iconst rfl rfl
theorem s14_22 : mm_wp d 14 22 ls st h Q ↔ mm_wp d 14 26 ls st h Q := wp_goto rfl rfl
theorem s14_25 : mm_wp d 14 25 ls st h Q ↔ mm_wp d 14 26 ls (.int (0 : Int32) :: st) h Q := wp_iconst rfl rfl
theorem s14_26 : mm_wp d 14 26 ls (.int x :: st) h Q ↔ (x = 0 ∨ x = 1) ∧ Q (.inl (some (.int x))) h := wp_zret rfl rfl
/-! 15: LoadRoom.steps()I -/
theorem s15_0 : mm_wp d 15 0 [.ref a] st h Q ↔ mm_wp d 15 1 [.ref a] (.ref a :: st) h Q := wp_aloadR_n rfl rfl
theorem s15_1 : mm_wp d 15 1 ls (.ref a :: st) h Q ↔ (mm_s h a).1 = 9 ∧ mm_wp d 15 4 ls (mm_o (mm_r h a 2) :: st) h Q := wp_getR rfl rfl
theorem s15_4 : mm_wp d 15 4 ls (.ref a :: st) h Q ↔ (mm_s h a).1 = 8 ∧ mm_wp d 15 7 ls (.int (mm_i h a 9) :: st) h Q := wp_getI rfl rfl (by decide) (by decide)
theorem s15_7 : mm_wp d 15 7 ls (.int x :: st) h Q ↔ Q (.inl (some (.int x))) h := wp_iret rfl rfl
/-! 16: LoadRoom.bound()I -/
theorem s16_0 : mm_wp d 16 0 [.ref a] st h Q ↔ mm_wp d 16 1 [.ref a] (.ref a :: st) h Q := wp_aloadR_n rfl rfl
theorem s16_1 : mm_wp d 16 1 ls (.ref a :: st) h Q ↔ (mm_s h a).1 = 9 ∧ mm_wp d 16 4 ls (mm_o (mm_r h a 0) :: st) h Q := wp_getR rfl rfl
theorem s16_4 : mm_wp (d + 1) 16 4 ls [.ref a] h Q ↔ (mm_s h a).1 = 1 ∧ mm_wp d 17 0 [.ref a] [] h (mm_bk (d + 1) 16 4 ls [] Q) := wp_virtual rfl rfl ⟨by decide, rfl⟩ ⟨Nat.le_of_ble_eq_true rfl, Nat.le_of_ble_eq_true rfl⟩ rfl rfl rfl rfl rfl rfl
theorem s16_7 : mm_wp d 16 7 [.ref a] st h Q ↔ mm_wp d 16 8 [.ref a] (.ref a :: st) h Q := wp_aloadR_n rfl rfl
theorem s16_8 : mm_wp d 16 8 ls (.ref a :: st) h Q ↔ (mm_s h a).1 = 9 ∧ mm_wp d 16 11 ls (mm_o (mm_r h a 1) :: st) h Q := wp_getR rfl rfl
theorem s16_11 : mm_wp (d + 1) 16 11 ls [.ref a, t0] h Q ↔ (mm_s h a).1 = 2 ∧ mm_wp d 18 0 [.ref a, mm_j, mm_j] [] h (mm_bk (d + 1) 16 11 ls [t0] Q) := wp_virtual rfl rfl ⟨by decide, rfl⟩ ⟨Nat.le_of_ble_eq_true rfl, Nat.le_of_ble_eq_true rfl⟩ rfl rfl rfl rfl rfl rfl
theorem s16_14 : mm_wp (d + 1) 16 14 ls [.int x2, .int x] h Q ↔ mm_wp d 3 0 [.int x, .int x2] [] h (mm_bk (d + 1) 16 14 ls [] Q) := wp_static rfl rfl ⟨by decide, rfl⟩ ⟨Nat.le_of_ble_eq_true rfl, Nat.le_of_ble_eq_true rfl⟩ rfl rfl rfl rfl
theorem s16_17 : mm_wp d 16 17 ls (.int x :: st) h Q ↔ Q (.inl (some (.int x))) h := wp_iret rfl rfl
/-! 17: LoadRoom$Box.volume()I -/
theorem s17_0 : mm_wp d 17 0 [.ref a] st h Q ↔ mm_wp d 17 1 [.ref a] (.ref a :: st) h Q := wp_aloadR_n rfl rfl
theorem s17_1 : mm_wp d 17 1 ls (.ref a :: st) h Q ↔ (mm_s h a).1 = 1 ∧ mm_wp d 17 4 ls (.int (mm_i h a 0) :: st) h Q := wp_getI rfl rfl (by decide) (by decide)
theorem s17_4 : mm_wp d 17 4 [.ref a] st h Q ↔ mm_wp d 17 5 [.ref a] (.ref a :: st) h Q := wp_aloadR_n rfl rfl
theorem s17_5 : mm_wp d 17 5 ls (.ref a :: st) h Q ↔ (mm_s h a).1 = 1 ∧ mm_wp d 17 8 ls (.int (mm_i h a 1) :: st) h Q := wp_getI rfl rfl (by decide) (by decide)
theorem s17_8 : mm_wp d 17 8 ls (.int x2 :: .int x :: st) h Q ↔ mm_wp d 17 9 ls (.int (x * x2) :: st) h Q := wp_imul rfl
theorem s17_9 : mm_wp d 17 9 [.ref a] st h Q ↔ mm_wp d 17 10 [.ref a] (.ref a :: st) h Q := wp_aloadR_n rfl rfl
theorem s17_10 : mm_wp d 17 10 ls (.ref a :: st) h Q ↔ (mm_s h a).1 = 1 ∧ mm_wp d 17 13 ls (.int (mm_i h a 2) :: st) h Q := wp_getI rfl rfl (by decide) (by decide)
theorem s17_13 : mm_wp d 17 13 ls (.int x2 :: .int x :: st) h Q ↔ mm_wp d 17 14 ls (.int (x * x2) :: st) h Q := wp_imul rfl
theorem s17_14 : mm_wp d 17 14 ls (.int x :: st) h Q ↔ Q (.inl (some (.int x))) h := wp_iret rfl rfl
/-! 18: LoadRoom$Cargo.volume()I -/
theorem s18_0 : mm_wp d 18 0 ls st h Q ↔ mm_wp d 18 1 ls (.int (0 : Int32) :: st) h Q := wp_iconst rfl rfl
theorem s18_1 : mm_wp d 18 1 [l0, l1, l2] (.int x :: st) h Q ↔ mm_wp d 18 2 [l0, .int x, l2] st h Q := wp_istore_n rfl rfl
theorem s18_2 : mm_wp d 18 2 ls st h Q ↔ mm_wp d 18 3 ls (.int (0 : Int32) :: st) h Q := wp_iconst rfl rfl
theorem s18_3 : mm_wp d 18 3 [l0, l1, l2] (.int x :: st) h Q ↔ mm_wp d 18 4 [l0, l1, .int x] st h Q := wp_istore_n rfl rfl
theorem s18_4 : mm_wp d 18 4 [l0, l1, .int x] st h Q ↔ mm_wp d 18 5 [l0, l1, .int x] (.int x :: st) h Q := wp_iload_n rfl rfl
theorem s18_5 : mm_wp d 18 5 [.ref a, l1, l2] st h Q ↔ mm_wp d 18 6 [.ref a, l1, l2] (.ref a :: st) h Q := wp_aloadR_n rfl rfl
theorem s18_6 : mm_wp d 18 6 ls (.ref a :: st) h Q ↔ (mm_s h a).1 = 2 ∧ mm_wp d 18 9 ls (.int (mm_i h a 1) :: st) h Q := wp_getI rfl rfl (by decide) (by decide)
theorem s18_9 : mm_wp d 18 9 ls (.int x2 :: .int x :: st) h Q ↔ if x2 ≤ x then mm_wp d 18 42 ls st h Q else mm_wp d 18 12 ls st h Q := wp_icmpge rfl rfl
theorem s18_12 : mm_wp d 18 12 [.ref a, l1, l2] st h Q ↔ mm_wp d 18 13 [.ref a, l1, l2] (.ref a :: st) h Q := wp_aloadR_n rfl rfl
theorem s18_13 : mm_wp d 18 13 ls (.ref a :: st) h Q ↔ (mm_s h a).1 = 2 ∧ mm_wp d 18 16 ls (mm_o (mm_r h a 0) :: st) h Q := wp_getR rfl rfl
theorem s18_16 : mm_wp d 18 16 [l0, l1, .int x] st h Q ↔ mm_wp d 18 17 [l0, l1, .int x] (.int x :: st) h Q := wp_iload_n rfl rfl
theorem s18_17 : mm_wp d 18 17 ls (.int x :: .ref a :: st) h Q ↔ (23 ≤ (mm_s h a).1 ∧ (mm_s h a).1 ≤ 26 ∧ mm_in x (mm_s h a).2 = true) ∧ mm_wp d 18 18 ls (mm_o (mm_r h a x.toNatClampNeg) :: st) h Q := wp_aaload rfl
theorem s18_18 : mm_wp d 18 18 ls (.ref a :: st) h Q ↔ (mm_s h a).1 = 5 ∧ mm_wp d 18 21 ls (.int (mm_i h a 2) :: st) h Q := wp_getI rfl rfl (by decide) (by decide)
theorem s18_21 : mm_wp d 18 21 ls (.int x :: st) h Q ↔ if x ≤ 0 then mm_wp d 18 36 ls st h Q else mm_wp d 18 24 ls st h Q := wp_ifle rfl rfl
theorem s18_24 : mm_wp d 18 24 [l0, .int x, l2] st h Q ↔ mm_wp d 18 25 [l0, .int x, l2] (.int x :: st) h Q := wp_iload_n rfl rfl
theorem s18_25 : mm_wp d 18 25 [.ref a, l1, l2] st h Q ↔ mm_wp d 18 26 [.ref a, l1, l2] (.ref a :: st) h Q := wp_aloadR_n rfl rfl
theorem s18_26 : mm_wp d 18 26 ls (.ref a :: st) h Q ↔ (mm_s h a).1 = 2 ∧ mm_wp d 18 29 ls (mm_o (mm_r h a 0) :: st) h Q := wp_getR rfl rfl
theorem s18_29 : mm_wp d 18 29 [l0, l1, .int x] st h Q ↔ mm_wp d 18 30 [l0, l1, .int x] (.int x :: st) h Q := wp_iload_n rfl rfl
theorem s18_30 : mm_wp d 18 30 ls (.int x :: .ref a :: st) h Q ↔ (23 ≤ (mm_s h a).1 ∧ (mm_s h a).1 ≤ 26 ∧ mm_in x (mm_s h a).2 = true) ∧ mm_wp d 18 31 ls (mm_o (mm_r h a x.toNatClampNeg) :: st) h Q := wp_aaload rfl
theorem s18_31 : mm_wp (d + 1) 18 31 ls [.ref a, t0] h Q ↔ (mm_s h a).1 = 5 ∧ mm_wp d 19 0 [.ref a] [] h (mm_bk (d + 1) 18 31 ls [t0] Q) := wp_virtual rfl rfl ⟨by decide, rfl⟩ ⟨Nat.le_of_ble_eq_true rfl, Nat.le_of_ble_eq_true rfl⟩ rfl rfl rfl rfl rfl rfl
theorem s18_34 : mm_wp d 18 34 ls (.int x2 :: .int x :: st) h Q ↔ mm_wp d 18 35 ls (.int (x + x2) :: st) h Q := wp_iadd rfl
theorem s18_35 : mm_wp d 18 35 [l0, l1, l2] (.int x :: st) h Q ↔ mm_wp d 18 36 [l0, .int x, l2] st h Q := wp_istore_n rfl rfl
theorem s18_36 : mm_wp d 18 36 [l0, l1, .int x] st h Q ↔ mm_wp d 18 39 [l0, l1, .int (x + (1 : Int32))] st h Q := wp_iinc rfl rfl rfl rfl
theorem s18_39 : mm_wp d 18 39 ls st h Q ↔ mm_wp d 18 4 ls st h Q := wp_goto rfl rfl
theorem s18_42 : mm_wp d 18 42 [l0, .int x, l2] st h Q ↔ mm_wp d 18 43 [l0, .int x, l2] (.int x :: st) h Q := wp_iload_n rfl rfl
theorem s18_43 : mm_wp d 18 43 ls (.int x :: st) h Q ↔ Q (.inl (some (.int x))) h := wp_iret rfl rfl
/-! 19: LoadRoom$Piece.volume()I -/
theorem s19_0 : mm_wp d 19 0 [.ref a] st h Q ↔ mm_wp d 19 1 [.ref a] (.ref a :: st) h Q := wp_aloadR_n rfl rfl
theorem s19_1 : mm_wp d 19 1 ls (.ref a :: st) h Q ↔ (mm_s h a).1 = 5 ∧ mm_wp d 19 4 ls (.int (mm_i h a 3) :: st) h Q := wp_getI rfl rfl (by decide) (by decide)
theorem s19_4 : mm_wp d 19 4 [.ref a] st h Q ↔ mm_wp d 19 5 [.ref a] (.ref a :: st) h Q := wp_aloadR_n rfl rfl
theorem s19_5 : mm_wp d 19 5 ls (.ref a :: st) h Q ↔ (mm_s h a).1 = 5 ∧ mm_wp d 19 8 ls (.int (mm_i h a 4) :: st) h Q := wp_getI rfl rfl (by decide) (by decide)
theorem s19_8 : mm_wp d 19 8 ls (.int x2 :: .int x :: st) h Q ↔ mm_wp d 19 9 ls (.int (x * x2) :: st) h Q := wp_imul rfl
theorem s19_9 : mm_wp d 19 9 [.ref a] st h Q ↔ mm_wp d 19 10 [.ref a] (.ref a :: st) h Q := wp_aloadR_n rfl rfl
theorem s19_10 : mm_wp d 19 10 ls (.ref a :: st) h Q ↔ (mm_s h a).1 = 5 ∧ mm_wp d 19 13 ls (.int (mm_i h a 5) :: st) h Q := wp_getI rfl rfl (by decide) (by decide)
theorem s19_13 : mm_wp d 19 13 ls (.int x2 :: .int x :: st) h Q ↔ mm_wp d 19 14 ls (.int (x * x2) :: st) h Q := wp_imul rfl
theorem s19_14 : mm_wp d 19 14 ls (.int x :: st) h Q ↔ Q (.inl (some (.int x))) h := wp_iret rfl rfl
/-! 20: LoadRoom.moment()J -/
theorem s20_0 : mm_wp d 20 0 [.ref a] st h Q ↔ mm_wp d 20 1 [.ref a] (.ref a :: st) h Q := wp_aloadR_n rfl rfl
theorem s20_1 : mm_wp d 20 1 ls (.ref a :: st) h Q ↔ (mm_s h a).1 = 9 ∧ mm_wp d 20 4 ls (mm_o (mm_r h a 2) :: st) h Q := wp_getR rfl rfl
theorem s20_4 : mm_wp d 20 4 ls (.ref a :: st) h Q ↔ (mm_s h a).1 = 8 ∧ mm_wp d 20 7 ls (mm_o (mm_r h a 3) :: st) h Q := wp_getR rfl rfl
theorem s20_7 : mm_wp d 20 7 ls (.ref a :: st) h Q ↔ (mm_s h a).1 = 7 ∧ mm_wp d 20 10 ls (.long (mm_l h a 3) :: st) h Q := wp_getL rfl rfl
theorem s20_10 : mm_wp d 20 10 ls (.long w :: st) h Q ↔ Q (.inl (some (.long w))) h := wp_lret rfl rfl
/-! 21: LoadRoomLaw.cell([II)I -/
theorem s21_0 : mm_wp d 21 0 [l0, .int x] st h Q ↔ mm_wp d 21 1 [l0, .int x] (.int x :: st) h Q := wp_iload_n rfl rfl
theorem s21_1 : mm_wp d 21 1 [.ref a, l1] st h Q ↔ mm_wp d 21 2 [.ref a, l1] (.ref a :: st) h Q := wp_aloadR_n rfl rfl
theorem s21_1o : mm_wp d 21 1 [mm_o o, l1] st h Q ↔ mm_wp d 21 2 [mm_o o, l1] (mm_o o :: st) h Q := wp_aload_n rfl o rfl
theorem s21_1n : mm_wp d 21 1 [.null, l1] st h Q ↔ mm_wp d 21 2 [.null, l1] (.null :: st) h Q := wp_aload_n rfl none rfl
theorem s21_2 : mm_wp d 21 2 ls (.ref a :: st) h Q ↔ (20 ≤ (mm_s h a).1 ∧ (mm_s h a).1 ≤ 26) ∧ mm_wp d 21 3 ls (.int (nI (mm_s h a).2) :: st) h Q := wp_alen rfl
theorem s21_3 : mm_wp d 21 3 ls (.int x2 :: .int x :: st) h Q ↔ if x2 ≤ x then mm_wp d 21 12 ls st h Q else mm_wp d 21 6 ls st h Q := wp_icmpge rfl rfl
theorem s21_6 : mm_wp d 21 6 [.ref a, l1] st h Q ↔ mm_wp d 21 7 [.ref a, l1] (.ref a :: st) h Q := wp_aloadR_n rfl rfl
theorem s21_6o : mm_wp d 21 6 [mm_o o, l1] st h Q ↔ mm_wp d 21 7 [mm_o o, l1] (mm_o o :: st) h Q := wp_aload_n rfl o rfl
theorem s21_6n : mm_wp d 21 6 [.null, l1] st h Q ↔ mm_wp d 21 7 [.null, l1] (.null :: st) h Q := wp_aload_n rfl none rfl
theorem s21_7 : mm_wp d 21 7 [l0, .int x] st h Q ↔ mm_wp d 21 8 [l0, .int x] (.int x :: st) h Q := wp_iload_n rfl rfl
theorem s21_8 : mm_wp d 21 8 ls (.int x :: .ref a :: st) h Q ↔ ((mm_s h a).1 = 20 ∧ mm_in x (mm_s h a).2 = true) ∧ mm_wp d 21 9 ls (.int (mm_i h a x.toNatClampNeg) :: st) h Q := wp_iaload rfl
theorem s21_9 : mm_wp d 21 9 ls st h Q ↔ mm_wp d 21 13 ls st h Q := wp_goto rfl rfl
theorem s21_12 : mm_wp d 21 12 ls st h Q ↔ mm_wp d 21 13 ls (.int (0 : Int32) :: st) h Q := wp_iconst rfl rfl
theorem s21_13 : mm_wp d 21 13 ls (.int x :: st) h Q ↔ Q (.inl (some (.int x))) h := wp_iret rfl rfl
/-! 22: LoadRoomLaw.piece(LLoadRoom;IIII[J)I -/
theorem s22_0 : mm_wp d 22 0 [l0, l1, l2, l3, l4, .ref a, l6] st h Q ↔ mm_wp d 22 2 [l0, l1, l2, l3, l4, .ref a, l6] (.ref a :: st) h Q := wp_aloadR rfl rfl
theorem s22_0o : mm_wp d 22 0 [l0, l1, l2, l3, l4, mm_o o, l6] st h Q ↔ mm_wp d 22 2 [l0, l1, l2, l3, l4, mm_o o, l6] (mm_o o :: st) h Q := wp_aload rfl o rfl
theorem s22_0n : mm_wp d 22 0 [l0, l1, l2, l3, l4, .null, l6] st h Q ↔ mm_wp d 22 2 [l0, l1, l2, l3, l4, .null, l6] (.null :: st) h Q := wp_aload rfl none rfl
theorem s22_2 : mm_wp d 22 2 ls st h Q ↔ mm_wp d 22 3 ls (.int (0 : Int32) :: st) h Q := wp_iconst rfl rfl
theorem s22_3 : mm_wp d 22 3 [.ref a, l1, l2, l3, l4, l5, l6] st h Q ↔ mm_wp d 22 4 [.ref a, l1, l2, l3, l4, l5, l6] (.ref a :: st) h Q := wp_aloadR_n rfl rfl
theorem s22_3o : mm_wp d 22 3 [mm_o o, l1, l2, l3, l4, l5, l6] st h Q ↔ mm_wp d 22 4 [mm_o o, l1, l2, l3, l4, l5, l6] (mm_o o :: st) h Q := wp_aload_n rfl o rfl
theorem s22_3n : mm_wp d 22 3 [.null, l1, l2, l3, l4, l5, l6] st h Q ↔ mm_wp d 22 4 [.null, l1, l2, l3, l4, l5, l6] (.null :: st) h Q := wp_aload_n rfl none rfl
theorem s22_4 : mm_wp d 22 4 [l0, .int x, l2, l3, l4, l5, l6] st h Q ↔ mm_wp d 22 5 [l0, .int x, l2, l3, l4, l5, l6] (.int x :: st) h Q := wp_iload_n rfl rfl
theorem s22_5 : mm_wp d 22 5 [l0, l1, .int x, l3, l4, l5, l6] st h Q ↔ mm_wp d 22 6 [l0, l1, .int x, l3, l4, l5, l6] (.int x :: st) h Q := wp_iload_n rfl rfl
theorem s22_6 : mm_wp d 22 6 [l0, l1, l2, .int x, l4, l5, l6] st h Q ↔ mm_wp d 22 7 [l0, l1, l2, .int x, l4, l5, l6] (.int x :: st) h Q := wp_iload_n rfl rfl
theorem s22_7 : mm_wp d 22 7 [l0, l1, l2, l3, .int x, l5, l6] st h Q ↔ mm_wp d 22 9 [l0, l1, l2, l3, .int x, l5, l6] (.int x :: st) h Q := wp_iload rfl rfl
theorem s22_9 : mm_wp (d + 1) 22 9 ls [.int x5, .int x4, .int x3, .int x2, .ref a, t1, t0] h Q ↔ (mm_s h a).1 = 9 ∧ mm_wp d 23 0 [.ref a, .int x2, .int x3, .int x4, .int x5] [] h (mm_bk (d + 1) 22 9 ls [t1, t0] Q) := wp_virtual rfl rfl ⟨by decide, rfl⟩ ⟨Nat.le_of_ble_eq_true rfl, Nat.le_of_ble_eq_true rfl⟩ rfl rfl rfl rfl rfl rfl
theorem s22_12 : mm_wp d 22 12 ls (.int x :: st) h Q ↔ mm_wp d 22 13 ls (.long x.toInt64 :: st) h Q := wp_i2l rfl
theorem s22_13 : mm_wp d 22 13 ls (.long w :: .int x :: .ref a :: st) h Q ↔ ((mm_s h a).1 = 21 ∧ mm_in x (mm_s h a).2 = true) ∧ mm_wp d 22 14 ls st (mm_pl h a x.toNatClampNeg w) Q := wp_lastore rfl
theorem s22_14 : mm_wp d 22 14 ls st h Q ↔ mm_wp d 22 25 ls st h Q := wp_goto rfl rfl
theorem s22_17 : mm_wp d 22 17 [l0, l1, l2, l3, l4, l5, l6] (.ref a :: st) h Q ↔ mm_wp d 22 19 [l0, l1, l2, l3, l4, l5, .ref a] st h Q := wp_astoreR rfl rfl
theorem s22_17o : mm_wp d 22 17 [l0, l1, l2, l3, l4, l5, l6] (mm_o o :: st) h Q ↔ mm_wp d 22 19 [l0, l1, l2, l3, l4, l5, mm_o o] st h Q := wp_astore rfl o rfl
theorem s22_17n : mm_wp d 22 17 [l0, l1, l2, l3, l4, l5, l6] (.null :: st) h Q ↔ mm_wp d 22 19 [l0, l1, l2, l3, l4, l5, .null] st h Q := wp_astore rfl none rfl
theorem s22_19 : mm_wp d 22 19 ls st h Q ↔ mm_wp d 22 20 ls (.int (1 : Int32) :: st) h Q := wp_iconst rfl rfl
theorem s22_20 : mm_wp d 22 20 ls (.int x :: st) h Q ↔ Q (.inl (some (.int x))) h := wp_iret rfl rfl
theorem s22_21 : mm_wp d 22 21 [l0, l1, l2, l3, l4, l5, l6] (.ref a :: st) h Q ↔ mm_wp d 22 23 [l0, l1, l2, l3, l4, l5, .ref a] st h Q := wp_astoreR rfl rfl
theorem s22_21o : mm_wp d 22 21 [l0, l1, l2, l3, l4, l5, l6] (mm_o o :: st) h Q ↔ mm_wp d 22 23 [l0, l1, l2, l3, l4, l5, mm_o o] st h Q := wp_astore rfl o rfl
theorem s22_21n : mm_wp d 22 21 [l0, l1, l2, l3, l4, l5, l6] (.null :: st) h Q ↔ mm_wp d 22 23 [l0, l1, l2, l3, l4, l5, .null] st h Q := wp_astore rfl none rfl
theorem s22_23 : mm_wp d 22 23 ls st h Q ↔ mm_wp d 22 24 ls (.int (2 : Int32) :: st) h Q := wp_iconst rfl rfl
theorem s22_24 : mm_wp d 22 24 ls (.int x :: st) h Q ↔ Q (.inl (some (.int x))) h := wp_iret rfl rfl
theorem s22_25 : mm_wp d 22 25 ls st h Q ↔ mm_wp d 22 26 ls (.int (0 : Int32) :: st) h Q := wp_iconst rfl rfl
theorem s22_26 : mm_wp d 22 26 ls (.int x :: st) h Q ↔ Q (.inl (some (.int x))) h := wp_iret rfl rfl
/-! 23: LoadRoom.piece(IIII)I -/
theorem s23_0 : mm_wp d 23 0 [l0, .int x, l2, l3, l4] st h Q ↔ mm_wp d 23 1 [l0, .int x, l2, l3, l4] (.int x :: st) h Q := wp_iload_n rfl rfl
theorem s23_1 : mm_wp (d + 1) 23 1 ls [.int x] h Q ↔ mm_wp d 24 0 [.int x] [] h (mm_bk (d + 1) 23 1 ls [] Q) := wp_static rfl rfl ⟨by decide, rfl⟩ ⟨Nat.le_of_ble_eq_true rfl, Nat.le_of_ble_eq_true rfl⟩ rfl rfl rfl rfl
theorem s23_4 : mm_wp d 23 4 ls (.int x :: st) h Q ↔ if x = 0 then mm_wp d 23 21 ls st h Q else mm_wp d 23 7 ls st h Q := wp_ifeq rfl rfl
theorem s23_7 : mm_wp d 23 7 [l0, l1, .int x, l3, l4] st h Q ↔ mm_wp d 23 8 [l0, l1, .int x, l3, l4] (.int x :: st) h Q := wp_iload_n rfl rfl
theorem s23_8 : mm_wp (d + 1) 23 8 ls [.int x] h Q ↔ mm_wp d 24 0 [.int x] [] h (mm_bk (d + 1) 23 8 ls [] Q) := wp_static rfl rfl ⟨by decide, rfl⟩ ⟨Nat.le_of_ble_eq_true rfl, Nat.le_of_ble_eq_true rfl⟩ rfl rfl rfl rfl
theorem s23_11 : mm_wp d 23 11 ls (.int x :: st) h Q ↔ if x = 0 then mm_wp d 23 21 ls st h Q else mm_wp d 23 14 ls st h Q := wp_ifeq rfl rfl
theorem s23_14 : mm_wp d 23 14 [l0, l1, l2, .int x, l4] st h Q ↔ mm_wp d 23 15 [l0, l1, l2, .int x, l4] (.int x :: st) h Q := wp_iload_n rfl rfl
theorem s23_15 : mm_wp (d + 1) 23 15 ls [.int x] h Q ↔ mm_wp d 24 0 [.int x] [] h (mm_bk (d + 1) 23 15 ls [] Q) := wp_static rfl rfl ⟨by decide, rfl⟩ ⟨Nat.le_of_ble_eq_true rfl, Nat.le_of_ble_eq_true rfl⟩ rfl rfl rfl rfl
theorem s23_18 : mm_wp d 23 18 ls (.int x :: st) h Q ↔ if x = 0 then mm_wp d 23 21 ls st h Q else mm_wp d 23 31 ls st h Q := wp_ifne rfl rfl
theorem s23_21 : mm_wp d 23 21 ls st h Q ↔ mm_wp d 23 24 ls (.ref (mm_n h) :: st) (mm_nw h 30 6 6) Q := wp_new rfl rfl rfl rfl
theorem s23_24 : mm_wp d 23 24 ls (.ref a :: st) h Q ↔ mm_wp d 23 25 ls (.ref a :: .ref a :: st) h Q := wp_dupR rfl
theorem s23_25 : mm_wp d 23 25 ls st h Q ↔ mm_wp d 23 27 ls (.float (UInt32.ofNat 1) :: st) h Q := wp_ldcS rfl rfl rfl
theorem s23_27 : mm_wp d 23 27 ls (.float q :: .ref a :: [t0]) h Q ↔ (mm_s h a).1 = 30 ∧ mm_wp d 23 30 ls [t0] h Q := wp_excInit (z := 1001) rfl rfl (Nat.le_of_ble_eq_true rfl) rfl (Nat.le_of_ble_eq_true rfl)
theorem s23_30 : mm_wp d 23 30 ls (.ref a :: st) h Q ↔ 30 ≤ (mm_s h a).1 ∧ Q (.inr a) h := wp_athrow rfl rfl
theorem s23_31 : mm_wp d 23 31 [l0, l1, l2, l3, .int x] st h Q ↔ mm_wp d 23 33 [l0, l1, l2, l3, .int x] (.int x :: st) h Q := wp_iload rfl rfl
theorem s23_33 : mm_wp d 23 33 ls st h Q ↔ mm_wp d 23 34 ls (.int (1 : Int32) :: st) h Q := wp_iconst rfl rfl
theorem s23_34 : mm_wp d 23 34 ls st h Q ↔ mm_wp d 23 37 ls (.int (10000 : Int32) :: st) h Q := wp_sipush rfl rfl
theorem s23_37 : mm_wp (d + 1) 23 37 ls [.int x3, .int x2, .int x] h Q ↔ mm_wp d 25 0 [.int x, .int x2, .int x3] [] h (mm_bk (d + 1) 23 37 ls [] Q) := wp_static rfl rfl ⟨by decide, rfl⟩ ⟨Nat.le_of_ble_eq_true rfl, Nat.le_of_ble_eq_true rfl⟩ rfl rfl rfl rfl
theorem s23_40 : mm_wp d 23 40 ls (.int x :: st) h Q ↔ if x = 0 then mm_wp d 23 43 ls st h Q else mm_wp d 23 53 ls st h Q := wp_ifne rfl rfl
theorem s23_43 : mm_wp d 23 43 ls st h Q ↔ mm_wp d 23 46 ls (.ref (mm_n h) :: st) (mm_nw h 30 6 6) Q := wp_new rfl rfl rfl rfl
theorem s23_46 : mm_wp d 23 46 ls (.ref a :: st) h Q ↔ mm_wp d 23 47 ls (.ref a :: .ref a :: st) h Q := wp_dupR rfl
theorem s23_47 : mm_wp d 23 47 ls st h Q ↔ mm_wp d 23 49 ls (.float (UInt32.ofNat 2) :: st) h Q := wp_ldcS rfl rfl rfl
theorem s23_49 : mm_wp d 23 49 ls (.float q :: .ref a :: [t0]) h Q ↔ (mm_s h a).1 = 30 ∧ mm_wp d 23 52 ls [t0] h Q := wp_excInit (z := 1001) rfl rfl (Nat.le_of_ble_eq_true rfl) rfl (Nat.le_of_ble_eq_true rfl)
theorem s23_52 : mm_wp d 23 52 ls (.ref a :: st) h Q ↔ 30 ≤ (mm_s h a).1 ∧ Q (.inr a) h := wp_athrow rfl rfl
theorem s23_53 : mm_wp d 23 53 [.ref a, l1, l2, l3, l4] st h Q ↔ mm_wp d 23 54 [.ref a, l1, l2, l3, l4] (.ref a :: st) h Q := wp_aloadR_n rfl rfl
theorem s23_54 : mm_wp d 23 54 ls (.ref a :: st) h Q ↔ (mm_s h a).1 = 9 ∧ mm_wp d 23 57 ls (mm_o (mm_r h a 1) :: st) h Q := wp_getR rfl rfl
theorem s23_57 : mm_wp (d + 1) 23 57 ls [.ref a] h Q ↔ (mm_s h a).1 = 2 ∧ mm_wp d 26 0 [.ref a] [] h (mm_bk (d + 1) 23 57 ls [] Q) := wp_virtual rfl rfl ⟨by decide, rfl⟩ ⟨Nat.le_of_ble_eq_true rfl, Nat.le_of_ble_eq_true rfl⟩ rfl rfl rfl rfl rfl rfl
theorem s23_60 : mm_wp d 23 60 ls (.int x :: st) h Q ↔ if x = 0 then mm_wp d 23 73 ls st h Q else mm_wp d 23 63 ls st h Q := wp_ifeq rfl rfl
theorem s23_63 : mm_wp d 23 63 ls st h Q ↔ mm_wp d 23 66 ls (.ref (mm_n h) :: st) (mm_nw h 31 6 6) Q := wp_new rfl rfl rfl rfl
theorem s23_66 : mm_wp d 23 66 ls (.ref a :: st) h Q ↔ mm_wp d 23 67 ls (.ref a :: .ref a :: st) h Q := wp_dupR rfl
theorem s23_67 : mm_wp d 23 67 ls st h Q ↔ mm_wp d 23 69 ls (.float (UInt32.ofNat 3) :: st) h Q := wp_ldcS rfl rfl rfl
theorem s23_69 : mm_wp d 23 69 ls (.float q :: .ref a :: [t0]) h Q ↔ (mm_s h a).1 = 31 ∧ mm_wp d 23 72 ls [t0] h Q := wp_excInit (z := 1002) rfl rfl (Nat.le_of_ble_eq_true rfl) rfl (Nat.le_of_ble_eq_true rfl)
theorem s23_72 : mm_wp d 23 72 ls (.ref a :: st) h Q ↔ 30 ≤ (mm_s h a).1 ∧ Q (.inr a) h := wp_athrow rfl rfl
theorem s23_73 : mm_wp d 23 73 [.ref a, l1, l2, l3, l4] st h Q ↔ mm_wp d 23 74 [.ref a, l1, l2, l3, l4] (.ref a :: st) h Q := wp_aloadR_n rfl rfl
theorem s23_74 : mm_wp d 23 74 ls (.ref a :: st) h Q ↔ (mm_s h a).1 = 9 ∧ mm_wp d 23 77 ls (mm_o (mm_r h a 2) :: st) h Q := wp_getR rfl rfl
theorem s23_77 : mm_wp (d + 1) 23 77 ls [.ref a] h Q ↔ (mm_s h a).1 = 8 ∧ mm_wp d 27 0 [.ref a] [] h (mm_bk (d + 1) 23 77 ls [] Q) := wp_virtual rfl rfl ⟨by decide, rfl⟩ ⟨Nat.le_of_ble_eq_true rfl, Nat.le_of_ble_eq_true rfl⟩ rfl rfl rfl rfl rfl rfl
theorem s23_80 : mm_wp d 23 80 [.ref a, l1, l2, l3, l4] st h Q ↔ mm_wp d 23 81 [.ref a, l1, l2, l3, l4] (.ref a :: st) h Q := wp_aloadR_n rfl rfl
theorem s23_81 : mm_wp d 23 81 ls (.ref a :: st) h Q ↔ (mm_s h a).1 = 9 ∧ mm_wp d 23 84 ls (mm_o (mm_r h a 1) :: st) h Q := wp_getR rfl rfl
theorem s23_84 : mm_wp d 23 84 [l0, .int x, l2, l3, l4] st h Q ↔ mm_wp d 23 85 [l0, .int x, l2, l3, l4] (.int x :: st) h Q := wp_iload_n rfl rfl
theorem s23_85 : mm_wp d 23 85 [l0, l1, .int x, l3, l4] st h Q ↔ mm_wp d 23 86 [l0, l1, .int x, l3, l4] (.int x :: st) h Q := wp_iload_n rfl rfl
theorem s23_86 : mm_wp d 23 86 [l0, l1, l2, .int x, l4] st h Q ↔ mm_wp d 23 87 [l0, l1, l2, .int x, l4] (.int x :: st) h Q := wp_iload_n rfl rfl
theorem s23_87 : mm_wp d 23 87 [l0, l1, l2, l3, .int x] st h Q ↔ mm_wp d 23 89 [l0, l1, l2, l3, .int x] (.int x :: st) h Q := wp_iload rfl rfl
theorem s23_89 : mm_wp (d + 1) 23 89 ls [.int x5, .int x4, .int x3, .int x2, .ref a] h Q ↔ (mm_s h a).1 = 2 ∧ mm_wp d 29 0 [.ref a, .int x2, .int x3, .int x4, .int x5] [] h (mm_bk (d + 1) 23 89 ls [] Q) := wp_virtual rfl rfl ⟨by decide, rfl⟩ ⟨Nat.le_of_ble_eq_true rfl, Nat.le_of_ble_eq_true rfl⟩ rfl rfl rfl rfl rfl rfl
theorem s23_92 : mm_wp d 23 92 ls (.int x :: st) h Q ↔ Q (.inl (some (.int x))) h := wp_iret rfl rfl
/-! 24: LoadRoom.isLength(I)Z -/
theorem s24_0 : mm_wp d 24 0 [.int x] st h Q ↔ mm_wp d 24 1 [.int x] (.int x :: st) h Q := wp_iload_n rfl rfl
theorem s24_1 : mm_wp d 24 1 ls st h Q ↔ mm_wp d 24 2 ls (.int (1 : Int32) :: st) h Q := wp_iconst rfl rfl
theorem s24_2 : mm_wp d 24 2 ls st h Q ↔ mm_wp d 24 5 ls (.int (200 : Int32) :: st) h Q := wp_sipush rfl rfl
theorem s24_5 : mm_wp (d + 1) 24 5 ls [.int x3, .int x2, .int x] h Q ↔ mm_wp d 25 0 [.int x, .int x2, .int x3] [] h (mm_bk (d + 1) 24 5 ls [] Q) := wp_static rfl rfl ⟨by decide, rfl⟩ ⟨Nat.le_of_ble_eq_true rfl, Nat.le_of_ble_eq_true rfl⟩ rfl rfl rfl rfl
theorem s24_8 : mm_wp d 24 8 ls (.int x :: st) h Q ↔ (x = 0 ∨ x = 1) ∧ Q (.inl (some (.int x))) h := wp_zret rfl rfl
/-! 25: LoadRoom.isWithin(III)Z -/
theorem s25_0 : mm_wp d 25 0 [.int x, l1, l2] st h Q ↔ mm_wp d 25 1 [.int x, l1, l2] (.int x :: st) h Q := wp_iload_n rfl rfl
theorem s25_1 : mm_wp d 25 1 [l0, .int x, l2] st h Q ↔ mm_wp d 25 2 [l0, .int x, l2] (.int x :: st) h Q := wp_iload_n rfl rfl
theorem s25_2 : mm_wp d 25 2 ls (.int x2 :: .int x :: st) h Q ↔ if x < x2 then mm_wp d 25 14 ls st h Q else mm_wp d 25 5 ls st h Q := wp_icmplt rfl rfl
theorem s25_5 : mm_wp d 25 5 [.int x, l1, l2] st h Q ↔ mm_wp d 25 6 [.int x, l1, l2] (.int x :: st) h Q := wp_iload_n rfl rfl
theorem s25_6 : mm_wp d 25 6 [l0, l1, .int x] st h Q ↔ mm_wp d 25 7 [l0, l1, .int x] (.int x :: st) h Q := wp_iload_n rfl rfl
theorem s25_7 : mm_wp d 25 7 ls (.int x2 :: .int x :: st) h Q ↔ if x2 < x then mm_wp d 25 14 ls st h Q else mm_wp d 25 10 ls st h Q := wp_icmpgt rfl rfl
theorem s25_10 : mm_wp d 25 10 ls st h Q ↔ mm_wp d 25 11 ls (.int (1 : Int32) :: st) h Q := wp_iconst rfl rfl
theorem s25_11 : mm_wp d 25 11 ls st h Q ↔ mm_wp d 25 15 ls st h Q := wp_goto rfl rfl
theorem s25_14 : mm_wp d 25 14 ls st h Q ↔ mm_wp d 25 15 ls (.int (0 : Int32) :: st) h Q := wp_iconst rfl rfl
theorem s25_15 : mm_wp d 25 15 ls (.int x :: st) h Q ↔ (x = 0 ∨ x = 1) ∧ Q (.inl (some (.int x))) h := wp_zret rfl rfl
/-! 26: LoadRoom$Cargo.isFull()Z -/
theorem s26_0 : mm_wp d 26 0 [.ref a] st h Q ↔ mm_wp d 26 1 [.ref a] (.ref a :: st) h Q := wp_aloadR_n rfl rfl
theorem s26_1 : mm_wp d 26 1 ls (.ref a :: st) h Q ↔ (mm_s h a).1 = 2 ∧ mm_wp d 26 4 ls (.int (mm_i h a 1) :: st) h Q := wp_getI rfl rfl (by decide) (by decide)
theorem s26_4 : mm_wp d 26 4 ls st h Q ↔ mm_wp d 26 6 ls (.int (8 : Int32) :: st) h Q := wp_bipush rfl rfl
theorem s26_6 : mm_wp d 26 6 ls (.int x2 :: .int x :: st) h Q ↔ if x < x2 then mm_wp d 26 13 ls st h Q else mm_wp d 26 9 ls st h Q := wp_icmplt rfl rfl
theorem s26_9 : mm_wp d 26 9 ls st h Q ↔ mm_wp d 26 10 ls (.int (1 : Int32) :: st) h Q := wp_iconst rfl rfl
theorem s26_10 : mm_wp d 26 10 ls st h Q ↔ mm_wp d 26 14 ls st h Q := wp_goto rfl rfl
theorem s26_13 : mm_wp d 26 13 ls st h Q ↔ mm_wp d 26 14 ls (.int (0 : Int32) :: st) h Q := wp_iconst rfl rfl
theorem s26_14 : mm_wp d 26 14 ls (.int x :: st) h Q ↔ (x = 0 ∨ x = 1) ∧ Q (.inl (some (.int x))) h := wp_zret rfl rfl
/-! 27: LoadRoom$Search.forget()V -/
theorem s27_0 : mm_wp d 27 0 [.ref a] st h Q ↔ mm_wp d 27 1 [.ref a] (.ref a :: st) h Q := wp_aloadR_n rfl rfl
theorem s27_1 : mm_wp d 27 1 ls st h Q ↔ mm_wp d 27 2 ls (.int (-1 : Int32) :: st) h Q := wp_iconst rfl rfl
theorem s27_2 : mm_wp d 27 2 ls (.int x :: .ref a :: st) h Q ↔ (mm_s h a).1 = 8 ∧ mm_wp d 27 5 ls st (mm_pi h a 9 x) Q := wp_putI rfl rfl
theorem s27_5 : mm_wp d 27 5 [.ref a] st h Q ↔ mm_wp d 27 6 [.ref a] (.ref a :: st) h Q := wp_aloadR_n rfl rfl
theorem s27_6 : mm_wp d 27 6 ls (.ref a :: st) h Q ↔ (mm_s h a).1 = 8 ∧ mm_wp d 27 9 ls (mm_o (mm_r h a 3) :: st) h Q := wp_getR rfl rfl
theorem s27_9 : mm_wp (d + 1) 27 9 ls [.ref a] h Q ↔ (mm_s h a).1 = 7 ∧ mm_wp d 28 0 [.ref a] [] h (mm_bk (d + 1) 27 9 ls [] Q) := wp_virtual rfl rfl ⟨by decide, rfl⟩ ⟨Nat.le_of_ble_eq_true rfl, Nat.le_of_ble_eq_true rfl⟩ rfl rfl rfl rfl rfl rfl
theorem s27_12 : mm_wp d 27 12 ls st h Q ↔ Q (.inl none) h := wp_vret rfl rfl
/-! 28: LoadRoom$Row.clear()V -/
theorem s28_0 : mm_wp d 28 0 [.ref a] st h Q ↔ mm_wp d 28 1 [.ref a] (.ref a :: st) h Q := wp_aloadR_n rfl rfl
theorem s28_1 : mm_wp d 28 1 ls st h Q ↔ mm_wp d 28 2 ls (.int (0 : Int32) :: st) h Q := wp_iconst rfl rfl
theorem s28_2 : mm_wp d 28 2 ls (.int x :: .ref a :: st) h Q ↔ (mm_s h a).1 = 7 ∧ mm_wp d 28 5 ls st (mm_pi h a 1 x) Q := wp_putI rfl rfl
theorem s28_5 : mm_wp d 28 5 [.ref a] st h Q ↔ mm_wp d 28 6 [.ref a] (.ref a :: st) h Q := wp_aloadR_n rfl rfl
theorem s28_6 : mm_wp d 28 6 ls st h Q ↔ mm_wp d 28 7 ls (.int (0 : Int32) :: st) h Q := wp_iconst rfl rfl
theorem s28_7 : mm_wp d 28 7 ls (.int x :: .ref a :: st) h Q ↔ (mm_s h a).1 = 7 ∧ mm_wp d 28 10 ls st (mm_pi h a 2 x) Q := wp_putI rfl rfl
theorem s28_10 : mm_wp d 28 10 [.ref a] st h Q ↔ mm_wp d 28 11 [.ref a] (.ref a :: st) h Q := wp_aloadR_n rfl rfl
theorem s28_11 : mm_wp d 28 11 ls st h Q ↔ mm_wp d 28 12 ls (.long (0 : Int64) :: st) h Q := wp_lconst rfl rfl
theorem s28_12 : mm_wp d 28 12 ls (.long w :: .ref a :: st) h Q ↔ (mm_s h a).1 = 7 ∧ mm_wp d 28 15 ls st (mm_pl h a 3 w) Q := wp_putL rfl rfl
theorem s28_15 : mm_wp d 28 15 ls st h Q ↔ Q (.inl none) h := wp_vret rfl rfl
/-! 29: LoadRoom$Cargo.add(IIII)I -/
theorem s29_0 : mm_wp d 29 0 [.ref a, l1, l2, l3, l4] st h Q ↔ mm_wp d 29 1 [.ref a, l1, l2, l3, l4] (.ref a :: st) h Q := wp_aloadR_n rfl rfl
theorem s29_1 : mm_wp (d + 1) 29 1 ls [.ref a] h Q ↔ (mm_s h a).1 = 2 ∧ mm_wp d 26 0 [.ref a] [] h (mm_bk (d + 1) 29 1 ls [] Q) := wp_virtual rfl rfl ⟨by decide, rfl⟩ ⟨Nat.le_of_ble_eq_true rfl, Nat.le_of_ble_eq_true rfl⟩ rfl rfl rfl rfl rfl rfl
theorem s29_4 : mm_wp d 29 4 ls (.int x :: st) h Q ↔ if x = 0 then mm_wp d 29 9 ls st h Q else mm_wp d 29 7 ls st h Q := wp_ifeq rfl rfl
theorem s29_7 : mm_wp d 29 7 ls st h Q ↔ mm_wp d 29 8 ls (.int (-1 : Int32) :: st) h Q := wp_iconst rfl rfl
theorem s29_8 : mm_wp d 29 8 ls (.int x :: st) h Q ↔ Q (.inl (some (.int x))) h := wp_iret rfl rfl
theorem s29_9 : mm_wp d 29 9 [.ref a, l1, l2, l3, l4] st h Q ↔ mm_wp d 29 10 [.ref a, l1, l2, l3, l4] (.ref a :: st) h Q := wp_aloadR_n rfl rfl
theorem s29_10 : mm_wp d 29 10 ls (.ref a :: st) h Q ↔ (mm_s h a).1 = 2 ∧ mm_wp d 29 13 ls (mm_o (mm_r h a 0) :: st) h Q := wp_getR rfl rfl
theorem s29_13 : mm_wp d 29 13 [.ref a, l1, l2, l3, l4] st h Q ↔ mm_wp d 29 14 [.ref a, l1, l2, l3, l4] (.ref a :: st) h Q := wp_aloadR_n rfl rfl
theorem s29_14 : mm_wp d 29 14 ls (.ref a :: st) h Q ↔ (mm_s h a).1 = 2 ∧ mm_wp d 29 17 ls (.int (mm_i h a 1) :: st) h Q := wp_getI rfl rfl (by decide) (by decide)
theorem s29_17 : mm_wp d 29 17 ls (.int x :: .ref a :: st) h Q ↔ (23 ≤ (mm_s h a).1 ∧ (mm_s h a).1 ≤ 26 ∧ mm_in x (mm_s h a).2 = true) ∧ mm_wp d 29 18 ls (mm_o (mm_r h a x.toNatClampNeg) :: st) h Q := wp_aaload rfl
theorem s29_18 : mm_wp d 29 18 [l0, .int x, l2, l3, l4] st h Q ↔ mm_wp d 29 19 [l0, .int x, l2, l3, l4] (.int x :: st) h Q := wp_iload_n rfl rfl
theorem s29_19 : mm_wp d 29 19 [l0, l1, .int x, l3, l4] st h Q ↔ mm_wp d 29 20 [l0, l1, .int x, l3, l4] (.int x :: st) h Q := wp_iload_n rfl rfl
theorem s29_20 : mm_wp d 29 20 [l0, l1, l2, .int x, l4] st h Q ↔ mm_wp d 29 21 [l0, l1, l2, .int x, l4] (.int x :: st) h Q := wp_iload_n rfl rfl
theorem s29_21 : mm_wp d 29 21 [l0, l1, l2, l3, .int x] st h Q ↔ mm_wp d 29 23 [l0, l1, l2, l3, .int x] (.int x :: st) h Q := wp_iload rfl rfl
theorem s29_23 : mm_wp (d + 1) 29 23 ls [.int x5, .int x4, .int x3, .int x2, .ref a] h Q ↔ (mm_s h a).1 = 5 ∧ mm_wp d 30 0 [.ref a, .int x2, .int x3, .int x4, .int x5] [] h (mm_bk (d + 1) 29 23 ls [] Q) := wp_virtual rfl rfl ⟨by decide, rfl⟩ ⟨Nat.le_of_ble_eq_true rfl, Nat.le_of_ble_eq_true rfl⟩ rfl rfl rfl rfl rfl rfl
theorem s29_26 : mm_wp d 29 26 [.ref a, l1, l2, l3, l4] st h Q ↔ mm_wp d 29 27 [.ref a, l1, l2, l3, l4] (.ref a :: st) h Q := wp_aloadR_n rfl rfl
theorem s29_27 : mm_wp d 29 27 ls (.ref a :: st) h Q ↔ mm_wp d 29 28 ls (.ref a :: .ref a :: st) h Q := wp_dupR rfl
theorem s29_28 : mm_wp d 29 28 ls (.ref a :: st) h Q ↔ (mm_s h a).1 = 2 ∧ mm_wp d 29 31 ls (.int (mm_i h a 1) :: st) h Q := wp_getI rfl rfl (by decide) (by decide)
theorem s29_31 : mm_wp d 29 31 ls st h Q ↔ mm_wp d 29 32 ls (.int (1 : Int32) :: st) h Q := wp_iconst rfl rfl
theorem s29_32 : mm_wp d 29 32 ls (.int x2 :: .int x :: st) h Q ↔ mm_wp d 29 33 ls (.int (x + x2) :: st) h Q := wp_iadd rfl
theorem s29_33 : mm_wp d 29 33 ls (.int x :: .ref a :: st) h Q ↔ (mm_s h a).1 = 2 ∧ mm_wp d 29 36 ls st (mm_pi h a 1 x) Q := wp_putI rfl rfl
theorem s29_36 : mm_wp d 29 36 [.ref a, l1, l2, l3, l4] st h Q ↔ mm_wp d 29 37 [.ref a, l1, l2, l3, l4] (.ref a :: st) h Q := wp_aloadR_n rfl rfl
theorem s29_37 : mm_wp d 29 37 ls (.ref a :: st) h Q ↔ (mm_s h a).1 = 2 ∧ mm_wp d 29 40 ls (.int (mm_i h a 1) :: st) h Q := wp_getI rfl rfl (by decide) (by decide)
theorem s29_40 : mm_wp d 29 40 ls st h Q ↔ mm_wp d 29 41 ls (.int (1 : Int32) :: st) h Q := wp_iconst rfl rfl
theorem s29_41 : mm_wp d 29 41 ls (.int x2 :: .int x :: st) h Q ↔ mm_wp d 29 42 ls (.int (x - x2) :: st) h Q := wp_isub rfl
theorem s29_42 : mm_wp d 29 42 ls (.int x :: st) h Q ↔ Q (.inl (some (.int x))) h := wp_iret rfl rfl
/-! 30: LoadRoom$Piece.become(IIII)V -/
theorem s30_0 : mm_wp d 30 0 [.ref a, l1, l2, l3, l4] st h Q ↔ mm_wp d 30 1 [.ref a, l1, l2, l3, l4] (.ref a :: st) h Q := wp_aloadR_n rfl rfl
theorem s30_1 : mm_wp d 30 1 [l0, .int x, l2, l3, l4] st h Q ↔ mm_wp d 30 2 [l0, .int x, l2, l3, l4] (.int x :: st) h Q := wp_iload_n rfl rfl
theorem s30_2 : mm_wp d 30 2 ls (.int x :: .ref a :: st) h Q ↔ (mm_s h a).1 = 5 ∧ mm_wp d 30 5 ls st (mm_pi h a 3 x) Q := wp_putI rfl rfl
theorem s30_5 : mm_wp d 30 5 [.ref a, l1, l2, l3, l4] st h Q ↔ mm_wp d 30 6 [.ref a, l1, l2, l3, l4] (.ref a :: st) h Q := wp_aloadR_n rfl rfl
theorem s30_6 : mm_wp d 30 6 [l0, l1, .int x, l3, l4] st h Q ↔ mm_wp d 30 7 [l0, l1, .int x, l3, l4] (.int x :: st) h Q := wp_iload_n rfl rfl
theorem s30_7 : mm_wp d 30 7 ls (.int x :: .ref a :: st) h Q ↔ (mm_s h a).1 = 5 ∧ mm_wp d 30 10 ls st (mm_pi h a 4 x) Q := wp_putI rfl rfl
theorem s30_10 : mm_wp d 30 10 [.ref a, l1, l2, l3, l4] st h Q ↔ mm_wp d 30 11 [.ref a, l1, l2, l3, l4] (.ref a :: st) h Q := wp_aloadR_n rfl rfl
theorem s30_11 : mm_wp d 30 11 [l0, l1, l2, .int x, l4] st h Q ↔ mm_wp d 30 12 [l0, l1, l2, .int x, l4] (.int x :: st) h Q := wp_iload_n rfl rfl
theorem s30_12 : mm_wp d 30 12 ls (.int x :: .ref a :: st) h Q ↔ (mm_s h a).1 = 5 ∧ mm_wp d 30 15 ls st (mm_pi h a 5 x) Q := wp_putI rfl rfl
theorem s30_15 : mm_wp d 30 15 [.ref a, l1, l2, l3, l4] st h Q ↔ mm_wp d 30 16 [.ref a, l1, l2, l3, l4] (.ref a :: st) h Q := wp_aloadR_n rfl rfl
theorem s30_16 : mm_wp d 30 16 [l0, l1, l2, l3, .int x] st h Q ↔ mm_wp d 30 18 [l0, l1, l2, l3, .int x] (.int x :: st) h Q := wp_iload rfl rfl
theorem s30_18 : mm_wp d 30 18 ls (.int x :: .ref a :: st) h Q ↔ (mm_s h a).1 = 5 ∧ mm_wp d 30 21 ls st (mm_pi h a 6 x) Q := wp_putI rfl rfl
theorem s30_21 : mm_wp d 30 21 [.ref a, l1, l2, l3, l4] st h Q ↔ mm_wp d 30 22 [.ref a, l1, l2, l3, l4] (.ref a :: st) h Q := wp_aloadR_n rfl rfl
theorem s30_22 : mm_wp d 30 22 ls st h Q ↔ mm_wp d 30 23 ls (.int (0 : Int32) :: st) h Q := wp_iconst rfl rfl
theorem s30_23 : mm_wp d 30 23 ls (.int x :: .ref a :: st) h Q ↔ (mm_s h a).1 = 5 ∧ mm_wp d 30 26 ls st (mm_pi h a 8 x) Q := wp_putI rfl rfl
theorem s30_26 : mm_wp d 30 26 [.ref a, l1, l2, l3, l4] st h Q ↔ mm_wp d 30 27 [.ref a, l1, l2, l3, l4] (.ref a :: st) h Q := wp_aloadR_n rfl rfl
theorem s30_27 : mm_wp d 30 27 ls st h Q ↔ mm_wp d 30 29 ls (.int (100000 : Int32) :: st) h Q := wp_ldcI rfl rfl
theorem s30_29 : mm_wp d 30 29 ls (.int x :: .ref a :: st) h Q ↔ (mm_s h a).1 = 5 ∧ mm_wp d 30 32 ls st (mm_pi h a 9 x) Q := wp_putI rfl rfl
theorem s30_32 : mm_wp d 30 32 [.ref a, l1, l2, l3, l4] st h Q ↔ mm_wp d 30 33 [.ref a, l1, l2, l3, l4] (.ref a :: st) h Q := wp_aloadR_n rfl rfl
theorem s30_33 : mm_wp d 30 33 ls st h Q ↔ mm_wp d 30 34 ls (.int (0 : Int32) :: st) h Q := wp_iconst rfl rfl
theorem s30_34 : mm_wp (d + 1) 30 34 ls [.int x2, .ref a] h Q ↔ (mm_s h a).1 = 5 ∧ mm_wp d 31 0 [.ref a, .int x2, mm_j] [] h (mm_bk (d + 1) 30 34 ls [] Q) := wp_virtual rfl rfl ⟨by decide, rfl⟩ ⟨Nat.le_of_ble_eq_true rfl, Nat.le_of_ble_eq_true rfl⟩ rfl rfl rfl rfl rfl rfl
theorem s30_37 : mm_wp d 30 37 ls st h Q ↔ Q (.inl none) h := wp_vret rfl rfl
/-! 31: LoadRoom$Piece.mark(I)V -/
theorem s31_0 : mm_wp d 31 0 [.ref a, l1, l2] st h Q ↔ mm_wp d 31 1 [.ref a, l1, l2] (.ref a :: st) h Q := wp_aloadR_n rfl rfl
theorem s31_1 : mm_wp d 31 1 [l0, .int x, l2] st h Q ↔ mm_wp d 31 2 [l0, .int x, l2] (.int x :: st) h Q := wp_iload_n rfl rfl
theorem s31_2 : mm_wp d 31 2 ls (.int x :: .ref a :: st) h Q ↔ (mm_s h a).1 = 5 ∧ mm_wp d 31 5 ls st (mm_pi h a 7 x) Q := wp_putI rfl rfl
theorem s31_5 : mm_wp d 31 5 [.ref a, l1, l2] st h Q ↔ mm_wp d 31 6 [.ref a, l1, l2] (.ref a :: st) h Q := wp_aloadR_n rfl rfl
theorem s31_6 : mm_wp d 31 6 ls st h Q ↔ mm_wp d 31 7 ls (.int (0 : Int32) :: st) h Q := wp_iconst rfl rfl
theorem s31_7 : mm_wp d 31 7 ls (.int x :: .ref a :: st) h Q ↔ (mm_s h a).1 = 5 ∧ mm_wp d 31 10 ls st (mm_pi h a 2 x) Q := wp_putI rfl rfl
theorem s31_10 : mm_wp d 31 10 ls st h Q ↔ mm_wp d 31 11 ls (.int (0 : Int32) :: st) h Q := wp_iconst rfl rfl
theorem s31_11 : mm_wp d 31 11 [l0, l1, l2] (.int x :: st) h Q ↔ mm_wp d 31 12 [l0, l1, .int x] st h Q := wp_istore_n rfl rfl
theorem s31_12 : mm_wp d 31 12 [l0, l1, .int x] st h Q ↔ mm_wp d 31 13 [l0, l1, .int x] (.int x :: st) h Q := wp_iload_n rfl rfl
theorem s31_13 : mm_wp d 31 13 ls st h Q ↔ mm_wp d 31 15 ls (.int (6 : Int32) :: st) h Q := wp_bipush rfl rfl
theorem s31_15 : mm_wp d 31 15 ls (.int x2 :: .int x :: st) h Q ↔ if x2 ≤ x then mm_wp d 31 74 ls st h Q else mm_wp d 31 18 ls st h Q := wp_icmpge rfl rfl
theorem s31_18 : mm_wp d 31 18 [.ref a, l1, l2] st h Q ↔ mm_wp d 31 19 [.ref a, l1, l2] (.ref a :: st) h Q := wp_aloadR_n rfl rfl
theorem s31_19 : mm_wp d 31 19 ls (.ref a :: st) h Q ↔ (mm_s h a).1 = 5 ∧ mm_wp d 31 22 ls (mm_o (mm_r h a 1) :: st) h Q := wp_getR rfl rfl
theorem s31_22 : mm_wp d 31 22 [l0, l1, .int x] st h Q ↔ mm_wp d 31 23 [l0, l1, .int x] (.int x :: st) h Q := wp_iload_n rfl rfl
theorem s31_23 : mm_wp d 31 23 [.ref a, l1, l2] st h Q ↔ mm_wp d 31 24 [.ref a, l1, l2] (.ref a :: st) h Q := wp_aloadR_n rfl rfl
theorem s31_24 : mm_wp d 31 24 [l0, l1, .int x] st h Q ↔ mm_wp d 31 25 [l0, l1, .int x] (.int x :: st) h Q := wp_iload_n rfl rfl
theorem s31_25 : mm_wp (d + 1) 31 25 ls [.int x2, .ref a, t1, t0] h Q ↔ (mm_s h a).1 = 5 ∧ mm_wp d 32 0 [.ref a, .int x2, mm_j] [] h (mm_bk (d + 1) 31 25 ls [t1, t0] Q) := wp_virtual rfl rfl ⟨by decide, rfl⟩ ⟨Nat.le_of_ble_eq_true rfl, Nat.le_of_ble_eq_true rfl⟩ rfl rfl rfl rfl rfl rfl
theorem s31_28 : mm_wp d 31 28 ls (.int x :: st) h Q ↔ if x = 0 then mm_wp d 31 43 ls st h Q else mm_wp d 31 31 ls st h Q := wp_ifeq rfl rfl
theorem s31_31 : mm_wp d 31 31 [.ref a, l1, l2] st h Q ↔ mm_wp d 31 32 [.ref a, l1, l2] (.ref a :: st) h Q := wp_aloadR_n rfl rfl
theorem s31_32 : mm_wp d 31 32 [l0, l1, .int x] st h Q ↔ mm_wp d 31 33 [l0, l1, .int x] (.int x :: st) h Q := wp_iload_n rfl rfl
theorem s31_33 : mm_wp (d + 1) 31 33 ls [.int x2, .ref a, t1, t0] h Q ↔ (mm_s h a).1 = 5 ∧ mm_wp d 38 0 [.ref a, .int x2] [] h (mm_bk (d + 1) 31 33 ls [t1, t0] Q) := wp_virtual rfl rfl ⟨by decide, rfl⟩ ⟨Nat.le_of_ble_eq_true rfl, Nat.le_of_ble_eq_true rfl⟩ rfl rfl rfl rfl rfl rfl
theorem s31_36 : mm_wp d 31 36 ls (.int x :: st) h Q ↔ if x = 0 then mm_wp d 31 43 ls st h Q else mm_wp d 31 39 ls st h Q := wp_ifeq rfl rfl
theorem s31_39 : mm_wp d 31 39 ls st h Q ↔ mm_wp d 31 40 ls (.int (1 : Int32) :: st) h Q := wp_iconst rfl rfl
theorem s31_40 : mm_wp d 31 40 ls st h Q ↔ mm_wp d 31 44 ls st h Q := wp_goto rfl rfl
theorem s31_43 : mm_wp d 31 43 ls st h Q ↔ mm_wp d 31 44 ls (.int (0 : Int32) :: st) h Q := wp_iconst rfl rfl
theorem s31_44 : mm_wp d 31 44 ls (.int x2 :: .int x :: .ref a :: st) h Q ↔ ((mm_s h a).1 = 22 ∧ (x2 = 0 ∨ x2 = 1) ∧ mm_in x (mm_s h a).2 = true) ∧ mm_wp d 31 45 ls st (mm_pi h a x.toNatClampNeg x2) Q := wp_bastore rfl
theorem s31_45 : mm_wp d 31 45 [.ref a, l1, l2] st h Q ↔ mm_wp d 31 46 [.ref a, l1, l2] (.ref a :: st) h Q := wp_aloadR_n rfl rfl
theorem s31_46 : mm_wp d 31 46 ls (.ref a :: st) h Q ↔ mm_wp d 31 47 ls (.ref a :: .ref a :: st) h Q := wp_dupR rfl
theorem s31_47 : mm_wp d 31 47 ls (.ref a :: st) h Q ↔ (mm_s h a).1 = 5 ∧ mm_wp d 31 50 ls (.int (mm_i h a 2) :: st) h Q := wp_getI rfl rfl (by decide) (by decide)
theorem s31_50 : mm_wp d 31 50 [.ref a, l1, l2] st h Q ↔ mm_wp d 31 51 [.ref a, l1, l2] (.ref a :: st) h Q := wp_aloadR_n rfl rfl
theorem s31_51 : mm_wp d 31 51 ls (.ref a :: st) h Q ↔ (mm_s h a).1 = 5 ∧ mm_wp d 31 54 ls (mm_o (mm_r h a 1) :: st) h Q := wp_getR rfl rfl
theorem s31_54 : mm_wp d 31 54 [l0, l1, .int x] st h Q ↔ mm_wp d 31 55 [l0, l1, .int x] (.int x :: st) h Q := wp_iload_n rfl rfl
theorem s31_55 : mm_wp d 31 55 ls (.int x :: .ref a :: st) h Q ↔ ((mm_s h a).1 = 22 ∧ mm_in x (mm_s h a).2 = true) ∧ mm_wp d 31 56 ls (.int (mm_i h a x.toNatClampNeg) :: st) h Q := wp_baload rfl
theorem s31_56 : mm_wp d 31 56 ls (.int x :: st) h Q ↔ if x = 0 then mm_wp d 31 63 ls st h Q else mm_wp d 31 59 ls st h Q := wp_ifeq rfl rfl
theorem s31_59 : mm_wp d 31 59 ls st h Q ↔ mm_wp d 31 60 ls (.int (1 : Int32) :: st) h Q := wp_iconst rfl rfl
theorem s31_60 : mm_wp d 31 60 ls st h Q ↔ mm_wp d 31 64 ls st h Q := wp_goto rfl rfl
theorem s31_63 : mm_wp d 31 63 ls st h Q ↔ mm_wp d 31 64 ls (.int (0 : Int32) :: st) h Q := wp_iconst rfl rfl
theorem s31_64 : mm_wp d 31 64 ls (.int x2 :: .int x :: st) h Q ↔ mm_wp d 31 65 ls (.int (x + x2) :: st) h Q := wp_iadd rfl
theorem s31_65 : mm_wp d 31 65 ls (.int x :: .ref a :: st) h Q ↔ (mm_s h a).1 = 5 ∧ mm_wp d 31 68 ls st (mm_pi h a 2 x) Q := wp_putI rfl rfl
theorem s31_68 : mm_wp d 31 68 [l0, l1, .int x] st h Q ↔ mm_wp d 31 71 [l0, l1, .int (x + (1 : Int32))] st h Q := wp_iinc rfl rfl rfl rfl
theorem s31_71 : mm_wp d 31 71 ls st h Q ↔ mm_wp d 31 12 ls st h Q := wp_goto rfl rfl
theorem s31_74 : mm_wp d 31 74 ls st h Q ↔ Q (.inl none) h := wp_vret rfl rfl
/-! 32: LoadRoom$Piece.counts(I)Z -/
theorem s32_0 : mm_wp d 32 0 [.ref a, l1, l2] st h Q ↔ mm_wp d 32 1 [.ref a, l1, l2] (.ref a :: st) h Q := wp_aloadR_n rfl rfl
theorem s32_1 : mm_wp d 32 1 [l0, .int x, l2] st h Q ↔ mm_wp d 32 2 [l0, .int x, l2] (.int x :: st) h Q := wp_iload_n rfl rfl
theorem s32_2 : mm_wp (d + 1) 32 2 ls [.int x2, .ref a] h Q ↔ (mm_s h a).1 = 5 ∧ mm_wp d 33 0 [.ref a, .int x2] [] h (mm_bk (d + 1) 32 2 ls [] Q) := wp_virtual rfl rfl ⟨by decide, rfl⟩ ⟨Nat.le_of_ble_eq_true rfl, Nat.le_of_ble_eq_true rfl⟩ rfl rfl rfl rfl rfl rfl
theorem s32_5 : mm_wp d 32 5 ls (.int x :: st) h Q ↔ if x = 0 then mm_wp d 32 8 ls st h Q else mm_wp d 32 10 ls st h Q := wp_ifne rfl rfl
theorem s32_8 : mm_wp d 32 8 ls st h Q ↔ mm_wp d 32 9 ls (.int (0 : Int32) :: st) h Q := wp_iconst rfl rfl
theorem s32_9 : mm_wp d 32 9 ls (.int x :: st) h Q ↔ (x = 0 ∨ x = 1) ∧ Q (.inl (some (.int x))) h := wp_zret rfl rfl
theorem s32_10 : mm_wp d 32 10 ls st h Q ↔ mm_wp d 32 11 ls (.int (0 : Int32) :: st) h Q := wp_iconst rfl rfl
theorem s32_11 : mm_wp d 32 11 [l0, l1, l2] (.int x :: st) h Q ↔ mm_wp d 32 12 [l0, l1, .int x] st h Q := wp_istore_n rfl rfl
theorem s32_12 : mm_wp d 32 12 [l0, l1, .int x] st h Q ↔ mm_wp d 32 13 [l0, l1, .int x] (.int x :: st) h Q := wp_iload_n rfl rfl
theorem s32_13 : mm_wp d 32 13 [l0, .int x, l2] st h Q ↔ mm_wp d 32 14 [l0, .int x, l2] (.int x :: st) h Q := wp_iload_n rfl rfl
theorem s32_14 : mm_wp d 32 14 ls (.int x2 :: .int x :: st) h Q ↔ if x2 ≤ x then mm_wp d 32 42 ls st h Q else mm_wp d 32 17 ls st h Q := wp_icmpge rfl rfl
theorem s32_17 : mm_wp d 32 17 [.ref a, l1, l2] st h Q ↔ mm_wp d 32 18 [.ref a, l1, l2] (.ref a :: st) h Q := wp_aloadR_n rfl rfl
theorem s32_18 : mm_wp d 32 18 [l0, l1, .int x] st h Q ↔ mm_wp d 32 19 [l0, l1, .int x] (.int x :: st) h Q := wp_iload_n rfl rfl
theorem s32_19 : mm_wp (d + 1) 32 19 ls [.int x2, .ref a] h Q ↔ (mm_s h a).1 = 5 ∧ mm_wp d 33 0 [.ref a, .int x2] [] h (mm_bk (d + 1) 32 19 ls [] Q) := wp_virtual rfl rfl ⟨by decide, rfl⟩ ⟨Nat.le_of_ble_eq_true rfl, Nat.le_of_ble_eq_true rfl⟩ rfl rfl rfl rfl rfl rfl
theorem s32_22 : mm_wp d 32 22 ls (.int x :: st) h Q ↔ if x = 0 then mm_wp d 32 36 ls st h Q else mm_wp d 32 25 ls st h Q := wp_ifeq rfl rfl
theorem s32_25 : mm_wp d 32 25 [.ref a, l1, l2] st h Q ↔ mm_wp d 32 26 [.ref a, l1, l2] (.ref a :: st) h Q := wp_aloadR_n rfl rfl
theorem s32_26 : mm_wp d 32 26 [l0, l1, .int x] st h Q ↔ mm_wp d 32 27 [l0, l1, .int x] (.int x :: st) h Q := wp_iload_n rfl rfl
theorem s32_27 : mm_wp d 32 27 [l0, .int x, l2] st h Q ↔ mm_wp d 32 28 [l0, .int x, l2] (.int x :: st) h Q := wp_iload_n rfl rfl
theorem s32_28 : mm_wp (d + 1) 32 28 ls [.int x3, .int x2, .ref a] h Q ↔ (mm_s h a).1 = 5 ∧ mm_wp d 34 0 [.ref a, .int x2, .int x3] [] h (mm_bk (d + 1) 32 28 ls [] Q) := wp_virtual rfl rfl ⟨by decide, rfl⟩ ⟨Nat.le_of_ble_eq_true rfl, Nat.le_of_ble_eq_true rfl⟩ rfl rfl rfl rfl rfl rfl
theorem s32_31 : mm_wp d 32 31 ls (.int x :: st) h Q ↔ if x = 0 then mm_wp d 32 36 ls st h Q else mm_wp d 32 34 ls st h Q := wp_ifeq rfl rfl
theorem s32_34 : mm_wp d 32 34 ls st h Q ↔ mm_wp d 32 35 ls (.int (0 : Int32) :: st) h Q := wp_iconst rfl rfl
theorem s32_35 : mm_wp d 32 35 ls (.int x :: st) h Q ↔ (x = 0 ∨ x = 1) ∧ Q (.inl (some (.int x))) h := wp_zret rfl rfl
theorem s32_36 : mm_wp d 32 36 [l0, l1, .int x] st h Q ↔ mm_wp d 32 39 [l0, l1, .int (x + (1 : Int32))] st h Q := wp_iinc rfl rfl rfl rfl
theorem s32_39 : mm_wp d 32 39 ls st h Q ↔ mm_wp d 32 12 ls st h Q := wp_goto rfl rfl
theorem s32_42 : mm_wp d 32 42 ls st h Q ↔ mm_wp d 32 43 ls (.int (1 : Int32) :: st) h Q := wp_iconst rfl rfl
theorem s32_43 : mm_wp d 32 43 ls (.int x :: st) h Q ↔ (x = 0 ∨ x = 1) ∧ Q (.inl (some (.int x))) h := wp_zret rfl rfl
/-! 33: LoadRoom$Piece.allows(I)Z -/
theorem s33_0 : mm_wp d 33 0 [l0, .int x] st h Q ↔ mm_wp d 33 1 [l0, .int x] (.int x :: st) h Q := wp_iload_n rfl rfl
theorem s33_1 : mm_wp d 33 1 ls (.int x :: st) h Q ↔ if x = 0 then mm_wp d 33 4 ls st h Q else mm_wp d 33 6 ls st h Q := wp_ifne rfl rfl
theorem s33_4 : mm_wp d 33 4 ls st h Q ↔ mm_wp d 33 5 ls (.int (1 : Int32) :: st) h Q := wp_iconst rfl rfl
theorem s33_5 : mm_wp d 33 5 ls (.int x :: st) h Q ↔ (x = 0 ∨ x = 1) ∧ Q (.inl (some (.int x))) h := wp_zret rfl rfl
theorem s33_6 : mm_wp d 33 6 [l0, .int x] st h Q ↔ mm_wp d 33 7 [l0, .int x] (.int x :: st) h Q := wp_iload_n rfl rfl
theorem s33_7 : mm_wp d 33 7 ls st h Q ↔ mm_wp d 33 8 ls (.int (1 : Int32) :: st) h Q := wp_iconst rfl rfl
theorem s33_8 : mm_wp d 33 8 ls (.int x2 :: .int x :: st) h Q ↔ if x = x2 then mm_wp d 33 11 ls st h Q else mm_wp d 33 29 ls st h Q := wp_icmpne rfl rfl
theorem s33_11 : mm_wp d 33 11 [.ref a, l1] st h Q ↔ mm_wp d 33 12 [.ref a, l1] (.ref a :: st) h Q := wp_aloadR_n rfl rfl
theorem s33_12 : mm_wp d 33 12 ls (.ref a :: st) h Q ↔ (mm_s h a).1 = 5 ∧ mm_wp d 33 15 ls (.int (mm_i h a 7) :: st) h Q := wp_getI rfl rfl (by decide) (by decide)
theorem s33_15 : mm_wp d 33 15 ls st h Q ↔ mm_wp d 33 16 ls (.int (1 : Int32) :: st) h Q := wp_iconst rfl rfl
theorem s33_16 : mm_wp d 33 16 ls (.int x2 :: .int x :: st) h Q ↔ mm_wp d 33 17 ls (.int (x &&& x2) :: st) h Q := wp_iand rfl
theorem s33_17 : mm_wp d 33 17 ls st h Q ↔ mm_wp d 33 18 ls (.int (1 : Int32) :: st) h Q := wp_iconst rfl rfl
theorem s33_18 : mm_wp d 33 18 ls (.int x2 :: .int x :: st) h Q ↔ if x = x2 then mm_wp d 33 21 ls st h Q else mm_wp d 33 25 ls st h Q := wp_icmpne rfl rfl
theorem s33_21 : mm_wp d 33 21 ls st h Q ↔ mm_wp d 33 22 ls (.int (1 : Int32) :: st) h Q := wp_iconst rfl rfl
theorem s33_22 : mm_wp d 33 22 ls st h Q ↔ mm_wp d 33 42 ls st h Q := wp_goto rfl rfl
theorem s33_25 : mm_wp d 33 25 ls st h Q ↔ mm_wp d 33 26 ls (.int (0 : Int32) :: st) h Q := wp_iconst rfl rfl
theorem s33_26 : mm_wp d 33 26 ls st h Q ↔ mm_wp d 33 42 ls st h Q := wp_goto rfl rfl
theorem s33_29 : mm_wp d 33 29 [.ref a, l1] st h Q ↔ mm_wp d 33 30 [.ref a, l1] (.ref a :: st) h Q := wp_aloadR_n rfl rfl
theorem s33_30 : mm_wp d 33 30 ls (.ref a :: st) h Q ↔ (mm_s h a).1 = 5 ∧ mm_wp d 33 33 ls (.int (mm_i h a 7) :: st) h Q := wp_getI rfl rfl (by decide) (by decide)
theorem s33_33 : mm_wp d 33 33 ls st h Q ↔ mm_wp d 33 34 ls (.int (2 : Int32) :: st) h Q := wp_iconst rfl rfl
theorem s33_34 : mm_wp d 33 34 ls (.int x2 :: .int x :: st) h Q ↔ if x < x2 then mm_wp d 33 41 ls st h Q else mm_wp d 33 37 ls st h Q := wp_icmplt rfl rfl
theorem s33_37 : mm_wp d 33 37 ls st h Q ↔ mm_wp d 33 38 ls (.int (1 : Int32) :: st) h Q := wp_iconst rfl rfl
theorem s33_38 : mm_wp d 33 38 ls st h Q ↔ mm_wp d 33 42 ls st h Q := wp_goto rfl rfl
theorem s33_41 : mm_wp d 33 41 ls st h Q ↔ mm_wp d 33 42 ls (.int (0 : Int32) :: st) h Q := wp_iconst rfl rfl
theorem s33_42 : mm_wp d 33 42 ls (.int x :: st) h Q ↔ (x = 0 ∨ x = 1) ∧ Q (.inl (some (.int x))) h := wp_zret rfl rfl
/-! 34: LoadRoom$Piece.looksAlike(II)Z -/
theorem s34_0 : mm_wp d 34 0 [.ref a, l1, l2] st h Q ↔ mm_wp d 34 1 [.ref a, l1, l2] (.ref a :: st) h Q := wp_aloadR_n rfl rfl
theorem s34_1 : mm_wp d 34 1 [l0, .int x, l2] st h Q ↔ mm_wp d 34 2 [l0, .int x, l2] (.int x :: st) h Q := wp_iload_n rfl rfl
theorem s34_2 : mm_wp (d + 1) 34 2 ls [.int x2, .ref a] h Q ↔ (mm_s h a).1 = 5 ∧ mm_wp d 35 0 [.ref a, .int x2] [] h (mm_bk (d + 1) 34 2 ls [] Q) := wp_virtual rfl rfl ⟨by decide, rfl⟩ ⟨Nat.le_of_ble_eq_true rfl, Nat.le_of_ble_eq_true rfl⟩ rfl rfl rfl rfl rfl rfl
theorem s34_5 : mm_wp d 34 5 [.ref a, l1, l2] st h Q ↔ mm_wp d 34 6 [.ref a, l1, l2] (.ref a :: st) h Q := wp_aloadR_n rfl rfl
theorem s34_6 : mm_wp d 34 6 [l0, l1, .int x] st h Q ↔ mm_wp d 34 7 [l0, l1, .int x] (.int x :: st) h Q := wp_iload_n rfl rfl
theorem s34_7 : mm_wp (d + 1) 34 7 ls [.int x2, .ref a, t0] h Q ↔ (mm_s h a).1 = 5 ∧ mm_wp d 35 0 [.ref a, .int x2] [] h (mm_bk (d + 1) 34 7 ls [t0] Q) := wp_virtual rfl rfl ⟨by decide, rfl⟩ ⟨Nat.le_of_ble_eq_true rfl, Nat.le_of_ble_eq_true rfl⟩ rfl rfl rfl rfl rfl rfl
theorem s34_10 : mm_wp d 34 10 ls (.int x2 :: .int x :: st) h Q ↔ if x = x2 then mm_wp d 34 13 ls st h Q else mm_wp d 34 43 ls st h Q := wp_icmpne rfl rfl
theorem s34_13 : mm_wp d 34 13 [.ref a, l1, l2] st h Q ↔ mm_wp d 34 14 [.ref a, l1, l2] (.ref a :: st) h Q := wp_aloadR_n rfl rfl
theorem s34_14 : mm_wp d 34 14 [l0, .int x, l2] st h Q ↔ mm_wp d 34 15 [l0, .int x, l2] (.int x :: st) h Q := wp_iload_n rfl rfl
theorem s34_15 : mm_wp (d + 1) 34 15 ls [.int x2, .ref a] h Q ↔ (mm_s h a).1 = 5 ∧ mm_wp d 36 0 [.ref a, .int x2] [] h (mm_bk (d + 1) 34 15 ls [] Q) := wp_virtual rfl rfl ⟨by decide, rfl⟩ ⟨Nat.le_of_ble_eq_true rfl, Nat.le_of_ble_eq_true rfl⟩ rfl rfl rfl rfl rfl rfl
theorem s34_18 : mm_wp d 34 18 [.ref a, l1, l2] st h Q ↔ mm_wp d 34 19 [.ref a, l1, l2] (.ref a :: st) h Q := wp_aloadR_n rfl rfl
theorem s34_19 : mm_wp d 34 19 [l0, l1, .int x] st h Q ↔ mm_wp d 34 20 [l0, l1, .int x] (.int x :: st) h Q := wp_iload_n rfl rfl
theorem s34_20 : mm_wp (d + 1) 34 20 ls [.int x2, .ref a, t0] h Q ↔ (mm_s h a).1 = 5 ∧ mm_wp d 36 0 [.ref a, .int x2] [] h (mm_bk (d + 1) 34 20 ls [t0] Q) := wp_virtual rfl rfl ⟨by decide, rfl⟩ ⟨Nat.le_of_ble_eq_true rfl, Nat.le_of_ble_eq_true rfl⟩ rfl rfl rfl rfl rfl rfl
theorem s34_23 : mm_wp d 34 23 ls (.int x2 :: .int x :: st) h Q ↔ if x = x2 then mm_wp d 34 26 ls st h Q else mm_wp d 34 43 ls st h Q := wp_icmpne rfl rfl
theorem s34_26 : mm_wp d 34 26 [.ref a, l1, l2] st h Q ↔ mm_wp d 34 27 [.ref a, l1, l2] (.ref a :: st) h Q := wp_aloadR_n rfl rfl
theorem s34_27 : mm_wp d 34 27 [l0, .int x, l2] st h Q ↔ mm_wp d 34 28 [l0, .int x, l2] (.int x :: st) h Q := wp_iload_n rfl rfl
theorem s34_28 : mm_wp (d + 1) 34 28 ls [.int x2, .ref a] h Q ↔ (mm_s h a).1 = 5 ∧ mm_wp d 37 0 [.ref a, .int x2] [] h (mm_bk (d + 1) 34 28 ls [] Q) := wp_virtual rfl rfl ⟨by decide, rfl⟩ ⟨Nat.le_of_ble_eq_true rfl, Nat.le_of_ble_eq_true rfl⟩ rfl rfl rfl rfl rfl rfl
theorem s34_31 : mm_wp d 34 31 [.ref a, l1, l2] st h Q ↔ mm_wp d 34 32 [.ref a, l1, l2] (.ref a :: st) h Q := wp_aloadR_n rfl rfl
theorem s34_32 : mm_wp d 34 32 [l0, l1, .int x] st h Q ↔ mm_wp d 34 33 [l0, l1, .int x] (.int x :: st) h Q := wp_iload_n rfl rfl
theorem s34_33 : mm_wp (d + 1) 34 33 ls [.int x2, .ref a, t0] h Q ↔ (mm_s h a).1 = 5 ∧ mm_wp d 37 0 [.ref a, .int x2] [] h (mm_bk (d + 1) 34 33 ls [t0] Q) := wp_virtual rfl rfl ⟨by decide, rfl⟩ ⟨Nat.le_of_ble_eq_true rfl, Nat.le_of_ble_eq_true rfl⟩ rfl rfl rfl rfl rfl rfl
theorem s34_36 : mm_wp d 34 36 ls (.int x2 :: .int x :: st) h Q ↔ if x = x2 then mm_wp d 34 39 ls st h Q else mm_wp d 34 43 ls st h Q := wp_icmpne rfl rfl
theorem s34_39 : mm_wp d 34 39 ls st h Q ↔ mm_wp d 34 40 ls (.int (1 : Int32) :: st) h Q := wp_iconst rfl rfl
theorem s34_40 : mm_wp d 34 40 ls st h Q ↔ mm_wp d 34 44 ls st h Q := wp_goto rfl rfl
theorem s34_43 : mm_wp d 34 43 ls st h Q ↔ mm_wp d 34 44 ls (.int (0 : Int32) :: st) h Q := wp_iconst rfl rfl
theorem s34_44 : mm_wp d 34 44 ls (.int x :: st) h Q ↔ (x = 0 ∨ x = 1) ∧ Q (.inl (some (.int x))) h := wp_zret rfl rfl
/-! 35: LoadRoom$Piece.widthIn(I)I -/
theorem s35_0 : mm_wp d 35 0 [l0, .int x] st h Q ↔ mm_wp d 35 1 [l0, .int x] (.int x :: st) h Q := wp_iload_n rfl rfl
theorem s35_1d (hx : x.toInt < 1 ∨ 5 < x.toInt) : mm_wp d 35 1 ls (.int x :: st) h Q ↔ mm_wp d 35 46 ls st h Q := wp_tabOut rfl hx rfl
theorem s35_1_1 : mm_wp d 35 1 ls (.int (1 : Int32) :: st) h Q ↔ mm_wp d 35 36 ls st h Q := wp_tabIn rfl (by decide) rfl
theorem s35_1_2 : mm_wp d 35 1 ls (.int (2 : Int32) :: st) h Q ↔ mm_wp d 35 41 ls st h Q := wp_tabIn rfl (by decide) rfl
theorem s35_1_3 : mm_wp d 35 1 ls (.int (3 : Int32) :: st) h Q ↔ mm_wp d 35 36 ls st h Q := wp_tabIn rfl (by decide) rfl
theorem s35_1_4 : mm_wp d 35 1 ls (.int (4 : Int32) :: st) h Q ↔ mm_wp d 35 46 ls st h Q := wp_tabIn rfl (by decide) rfl
theorem s35_1_5 : mm_wp d 35 1 ls (.int (5 : Int32) :: st) h Q ↔ mm_wp d 35 41 ls st h Q := wp_tabIn rfl (by decide) rfl
theorem s35_36 : mm_wp d 35 36 [.ref a, l1] st h Q ↔ mm_wp d 35 37 [.ref a, l1] (.ref a :: st) h Q := wp_aloadR_n rfl rfl
theorem s35_37 : mm_wp d 35 37 ls (.ref a :: st) h Q ↔ (mm_s h a).1 = 5 ∧ mm_wp d 35 40 ls (.int (mm_i h a 5) :: st) h Q := wp_getI rfl rfl (by decide) (by decide)
theorem s35_40 : mm_wp d 35 40 ls (.int x :: st) h Q ↔ Q (.inl (some (.int x))) h := wp_iret rfl rfl
theorem s35_41 : mm_wp d 35 41 [.ref a, l1] st h Q ↔ mm_wp d 35 42 [.ref a, l1] (.ref a :: st) h Q := wp_aloadR_n rfl rfl
theorem s35_42 : mm_wp d 35 42 ls (.ref a :: st) h Q ↔ (mm_s h a).1 = 5 ∧ mm_wp d 35 45 ls (.int (mm_i h a 4) :: st) h Q := wp_getI rfl rfl (by decide) (by decide)
theorem s35_45 : mm_wp d 35 45 ls (.int x :: st) h Q ↔ Q (.inl (some (.int x))) h := wp_iret rfl rfl
theorem s35_46 : mm_wp d 35 46 [.ref a, l1] st h Q ↔ mm_wp d 35 47 [.ref a, l1] (.ref a :: st) h Q := wp_aloadR_n rfl rfl
theorem s35_47 : mm_wp d 35 47 ls (.ref a :: st) h Q ↔ (mm_s h a).1 = 5 ∧ mm_wp d 35 50 ls (.int (mm_i h a 3) :: st) h Q := wp_getI rfl rfl (by decide) (by decide)
theorem s35_50 : mm_wp d 35 50 ls (.int x :: st) h Q ↔ Q (.inl (some (.int x))) h := wp_iret rfl rfl
/-! 36: LoadRoom$Piece.heightIn(I)I -/
theorem s36_0 : mm_wp d 36 0 [l0, .int x] st h Q ↔ mm_wp d 36 1 [l0, .int x] (.int x :: st) h Q := wp_iload_n rfl rfl
theorem s36_1d (hx : x.toInt < 2 ∨ 5 < x.toInt) : mm_wp d 36 1 ls (.int x :: st) h Q ↔ mm_wp d 36 42 ls st h Q := wp_tabOut rfl hx rfl
theorem s36_1_2 : mm_wp d 36 1 ls (.int (2 : Int32) :: st) h Q ↔ mm_wp d 36 32 ls st h Q := wp_tabIn rfl (by decide) rfl
theorem s36_1_3 : mm_wp d 36 1 ls (.int (3 : Int32) :: st) h Q ↔ mm_wp d 36 32 ls st h Q := wp_tabIn rfl (by decide) rfl
theorem s36_1_4 : mm_wp d 36 1 ls (.int (4 : Int32) :: st) h Q ↔ mm_wp d 36 37 ls st h Q := wp_tabIn rfl (by decide) rfl
theorem s36_1_5 : mm_wp d 36 1 ls (.int (5 : Int32) :: st) h Q ↔ mm_wp d 36 37 ls st h Q := wp_tabIn rfl (by decide) rfl
theorem s36_32 : mm_wp d 36 32 [.ref a, l1] st h Q ↔ mm_wp d 36 33 [.ref a, l1] (.ref a :: st) h Q := wp_aloadR_n rfl rfl
theorem s36_33 : mm_wp d 36 33 ls (.ref a :: st) h Q ↔ (mm_s h a).1 = 5 ∧ mm_wp d 36 36 ls (.int (mm_i h a 3) :: st) h Q := wp_getI rfl rfl (by decide) (by decide)
theorem s36_36 : mm_wp d 36 36 ls (.int x :: st) h Q ↔ Q (.inl (some (.int x))) h := wp_iret rfl rfl
theorem s36_37 : mm_wp d 36 37 [.ref a, l1] st h Q ↔ mm_wp d 36 38 [.ref a, l1] (.ref a :: st) h Q := wp_aloadR_n rfl rfl
theorem s36_38 : mm_wp d 36 38 ls (.ref a :: st) h Q ↔ (mm_s h a).1 = 5 ∧ mm_wp d 36 41 ls (.int (mm_i h a 5) :: st) h Q := wp_getI rfl rfl (by decide) (by decide)
theorem s36_41 : mm_wp d 36 41 ls (.int x :: st) h Q ↔ Q (.inl (some (.int x))) h := wp_iret rfl rfl
theorem s36_42 : mm_wp d 36 42 [.ref a, l1] st h Q ↔ mm_wp d 36 43 [.ref a, l1] (.ref a :: st) h Q := wp_aloadR_n rfl rfl
theorem s36_43 : mm_wp d 36 43 ls (.ref a :: st) h Q ↔ (mm_s h a).1 = 5 ∧ mm_wp d 36 46 ls (.int (mm_i h a 4) :: st) h Q := wp_getI rfl rfl (by decide) (by decide)
theorem s36_46 : mm_wp d 36 46 ls (.int x :: st) h Q ↔ Q (.inl (some (.int x))) h := wp_iret rfl rfl
/-! 37: LoadRoom$Piece.depthIn(I)I -/
theorem s37_0 : mm_wp d 37 0 [l0, .int x] st h Q ↔ mm_wp d 37 1 [l0, .int x] (.int x :: st) h Q := wp_iload_n rfl rfl
theorem s37_1d (hx : x.toInt < 1 ∨ 5 < x.toInt) : mm_wp d 37 1 ls (.int x :: st) h Q ↔ mm_wp d 37 46 ls st h Q := wp_tabOut rfl hx rfl
theorem s37_1_1 : mm_wp d 37 1 ls (.int (1 : Int32) :: st) h Q ↔ mm_wp d 37 36 ls st h Q := wp_tabIn rfl (by decide) rfl
theorem s37_1_2 : mm_wp d 37 1 ls (.int (2 : Int32) :: st) h Q ↔ mm_wp d 37 46 ls st h Q := wp_tabIn rfl (by decide) rfl
theorem s37_1_3 : mm_wp d 37 1 ls (.int (3 : Int32) :: st) h Q ↔ mm_wp d 37 41 ls st h Q := wp_tabIn rfl (by decide) rfl
theorem s37_1_4 : mm_wp d 37 1 ls (.int (4 : Int32) :: st) h Q ↔ mm_wp d 37 41 ls st h Q := wp_tabIn rfl (by decide) rfl
theorem s37_1_5 : mm_wp d 37 1 ls (.int (5 : Int32) :: st) h Q ↔ mm_wp d 37 36 ls st h Q := wp_tabIn rfl (by decide) rfl
theorem s37_36 : mm_wp d 37 36 [.ref a, l1] st h Q ↔ mm_wp d 37 37 [.ref a, l1] (.ref a :: st) h Q := wp_aloadR_n rfl rfl
theorem s37_37 : mm_wp d 37 37 ls (.ref a :: st) h Q ↔ (mm_s h a).1 = 5 ∧ mm_wp d 37 40 ls (.int (mm_i h a 3) :: st) h Q := wp_getI rfl rfl (by decide) (by decide)
theorem s37_40 : mm_wp d 37 40 ls (.int x :: st) h Q ↔ Q (.inl (some (.int x))) h := wp_iret rfl rfl
theorem s37_41 : mm_wp d 37 41 [.ref a, l1] st h Q ↔ mm_wp d 37 42 [.ref a, l1] (.ref a :: st) h Q := wp_aloadR_n rfl rfl
theorem s37_42 : mm_wp d 37 42 ls (.ref a :: st) h Q ↔ (mm_s h a).1 = 5 ∧ mm_wp d 37 45 ls (.int (mm_i h a 4) :: st) h Q := wp_getI rfl rfl (by decide) (by decide)
theorem s37_45 : mm_wp d 37 45 ls (.int x :: st) h Q ↔ Q (.inl (some (.int x))) h := wp_iret rfl rfl
theorem s37_46 : mm_wp d 37 46 [.ref a, l1] st h Q ↔ mm_wp d 37 47 [.ref a, l1] (.ref a :: st) h Q := wp_aloadR_n rfl rfl
theorem s37_47 : mm_wp d 37 47 ls (.ref a :: st) h Q ↔ (mm_s h a).1 = 5 ∧ mm_wp d 37 50 ls (.int (mm_i h a 5) :: st) h Q := wp_getI rfl rfl (by decide) (by decide)
theorem s37_50 : mm_wp d 37 50 ls (.int x :: st) h Q ↔ Q (.inl (some (.int x))) h := wp_iret rfl rfl
/-! 38: LoadRoom$Piece.goesIn(I)Z -/
theorem s38_0 : mm_wp d 38 0 [.ref a, l1] st h Q ↔ mm_wp d 38 1 [.ref a, l1] (.ref a :: st) h Q := wp_aloadR_n rfl rfl
theorem s38_1 : mm_wp d 38 1 [l0, .int x] st h Q ↔ mm_wp d 38 2 [l0, .int x] (.int x :: st) h Q := wp_iload_n rfl rfl
theorem s38_2 : mm_wp (d + 1) 38 2 ls [.int x2, .ref a] h Q ↔ (mm_s h a).1 = 5 ∧ mm_wp d 35 0 [.ref a, .int x2] [] h (mm_bk (d + 1) 38 2 ls [] Q) := wp_virtual rfl rfl ⟨by decide, rfl⟩ ⟨Nat.le_of_ble_eq_true rfl, Nat.le_of_ble_eq_true rfl⟩ rfl rfl rfl rfl rfl rfl
theorem s38_5 : mm_wp d 38 5 [.ref a, l1] st h Q ↔ mm_wp d 38 6 [.ref a, l1] (.ref a :: st) h Q := wp_aloadR_n rfl rfl
theorem s38_6 : mm_wp d 38 6 ls (.ref a :: st) h Q ↔ (mm_s h a).1 = 5 ∧ mm_wp d 38 9 ls (mm_o (mm_r h a 0) :: st) h Q := wp_getR rfl rfl
theorem s38_9 : mm_wp d 38 9 ls (.ref a :: st) h Q ↔ (mm_s h a).1 = 1 ∧ mm_wp d 38 12 ls (.int (mm_i h a 0) :: st) h Q := wp_getI rfl rfl (by decide) (by decide)
theorem s38_12 : mm_wp d 38 12 ls (.int x2 :: .int x :: st) h Q ↔ if x2 < x then mm_wp d 38 49 ls st h Q else mm_wp d 38 15 ls st h Q := wp_icmpgt rfl rfl
theorem s38_15 : mm_wp d 38 15 [.ref a, l1] st h Q ↔ mm_wp d 38 16 [.ref a, l1] (.ref a :: st) h Q := wp_aloadR_n rfl rfl
theorem s38_16 : mm_wp d 38 16 [l0, .int x] st h Q ↔ mm_wp d 38 17 [l0, .int x] (.int x :: st) h Q := wp_iload_n rfl rfl
theorem s38_17 : mm_wp (d + 1) 38 17 ls [.int x2, .ref a] h Q ↔ (mm_s h a).1 = 5 ∧ mm_wp d 36 0 [.ref a, .int x2] [] h (mm_bk (d + 1) 38 17 ls [] Q) := wp_virtual rfl rfl ⟨by decide, rfl⟩ ⟨Nat.le_of_ble_eq_true rfl, Nat.le_of_ble_eq_true rfl⟩ rfl rfl rfl rfl rfl rfl
theorem s38_20 : mm_wp d 38 20 [.ref a, l1] st h Q ↔ mm_wp d 38 21 [.ref a, l1] (.ref a :: st) h Q := wp_aloadR_n rfl rfl
theorem s38_21 : mm_wp d 38 21 ls (.ref a :: st) h Q ↔ (mm_s h a).1 = 5 ∧ mm_wp d 38 24 ls (mm_o (mm_r h a 0) :: st) h Q := wp_getR rfl rfl
theorem s38_24 : mm_wp d 38 24 ls (.ref a :: st) h Q ↔ (mm_s h a).1 = 1 ∧ mm_wp d 38 27 ls (.int (mm_i h a 1) :: st) h Q := wp_getI rfl rfl (by decide) (by decide)
theorem s38_27 : mm_wp d 38 27 ls (.int x2 :: .int x :: st) h Q ↔ if x2 < x then mm_wp d 38 49 ls st h Q else mm_wp d 38 30 ls st h Q := wp_icmpgt rfl rfl
theorem s38_30 : mm_wp d 38 30 [.ref a, l1] st h Q ↔ mm_wp d 38 31 [.ref a, l1] (.ref a :: st) h Q := wp_aloadR_n rfl rfl
theorem s38_31 : mm_wp d 38 31 [l0, .int x] st h Q ↔ mm_wp d 38 32 [l0, .int x] (.int x :: st) h Q := wp_iload_n rfl rfl
theorem s38_32 : mm_wp (d + 1) 38 32 ls [.int x2, .ref a] h Q ↔ (mm_s h a).1 = 5 ∧ mm_wp d 37 0 [.ref a, .int x2] [] h (mm_bk (d + 1) 38 32 ls [] Q) := wp_virtual rfl rfl ⟨by decide, rfl⟩ ⟨Nat.le_of_ble_eq_true rfl, Nat.le_of_ble_eq_true rfl⟩ rfl rfl rfl rfl rfl rfl
theorem s38_35 : mm_wp d 38 35 [.ref a, l1] st h Q ↔ mm_wp d 38 36 [.ref a, l1] (.ref a :: st) h Q := wp_aloadR_n rfl rfl
theorem s38_36 : mm_wp d 38 36 ls (.ref a :: st) h Q ↔ (mm_s h a).1 = 5 ∧ mm_wp d 38 39 ls (mm_o (mm_r h a 0) :: st) h Q := wp_getR rfl rfl
theorem s38_39 : mm_wp d 38 39 ls (.ref a :: st) h Q ↔ (mm_s h a).1 = 1 ∧ mm_wp d 38 42 ls (.int (mm_i h a 2) :: st) h Q := wp_getI rfl rfl (by decide) (by decide)
theorem s38_42 : mm_wp d 38 42 ls (.int x2 :: .int x :: st) h Q ↔ if x2 < x then mm_wp d 38 49 ls st h Q else mm_wp d 38 45 ls st h Q := wp_icmpgt rfl rfl
theorem s38_45 : mm_wp d 38 45 ls st h Q ↔ mm_wp d 38 46 ls (.int (1 : Int32) :: st) h Q := wp_iconst rfl rfl
theorem s38_46 : mm_wp d 38 46 ls st h Q ↔ mm_wp d 38 50 ls st h Q := wp_goto rfl rfl
theorem s38_49 : mm_wp d 38 49 ls st h Q ↔ mm_wp d 38 50 ls (.int (0 : Int32) :: st) h Q := wp_iconst rfl rfl
theorem s38_50 : mm_wp d 38 50 ls (.int x :: st) h Q ↔ (x = 0 ∨ x = 1) ∧ Q (.inl (some (.int x))) h := wp_zret rfl rfl
/-! 39: LoadRoomLaw.turn(LLoadRoom;II[J)I -/
theorem s39_0 : mm_wp d 39 0 [l0, l1, l2, .ref a, l4] st h Q ↔ mm_wp d 39 1 [l0, l1, l2, .ref a, l4] (.ref a :: st) h Q := wp_aloadR_n rfl rfl
theorem s39_0o : mm_wp d 39 0 [l0, l1, l2, mm_o o, l4] st h Q ↔ mm_wp d 39 1 [l0, l1, l2, mm_o o, l4] (mm_o o :: st) h Q := wp_aload_n rfl o rfl
theorem s39_0n : mm_wp d 39 0 [l0, l1, l2, .null, l4] st h Q ↔ mm_wp d 39 1 [l0, l1, l2, .null, l4] (.null :: st) h Q := wp_aload_n rfl none rfl
theorem s39_1 : mm_wp d 39 1 ls st h Q ↔ mm_wp d 39 2 ls (.int (0 : Int32) :: st) h Q := wp_iconst rfl rfl
theorem s39_2 : mm_wp d 39 2 [.ref a, l1, l2, l3, l4] st h Q ↔ mm_wp d 39 3 [.ref a, l1, l2, l3, l4] (.ref a :: st) h Q := wp_aloadR_n rfl rfl
theorem s39_2o : mm_wp d 39 2 [mm_o o, l1, l2, l3, l4] st h Q ↔ mm_wp d 39 3 [mm_o o, l1, l2, l3, l4] (mm_o o :: st) h Q := wp_aload_n rfl o rfl
theorem s39_2n : mm_wp d 39 2 [.null, l1, l2, l3, l4] st h Q ↔ mm_wp d 39 3 [.null, l1, l2, l3, l4] (.null :: st) h Q := wp_aload_n rfl none rfl
theorem s39_3 : mm_wp d 39 3 [l0, .int x, l2, l3, l4] st h Q ↔ mm_wp d 39 4 [l0, .int x, l2, l3, l4] (.int x :: st) h Q := wp_iload_n rfl rfl
theorem s39_4 : mm_wp d 39 4 [l0, l1, .int x, l3, l4] st h Q ↔ mm_wp d 39 5 [l0, l1, .int x, l3, l4] (.int x :: st) h Q := wp_iload_n rfl rfl
theorem s39_5 : mm_wp (d + 1) 39 5 ls [.int x3, .int x2, .ref a, t1, t0] h Q ↔ (mm_s h a).1 = 9 ∧ mm_wp d 40 0 [.ref a, .int x2, .int x3, mm_j, mm_j] [] h (mm_bk (d + 1) 39 5 ls [t1, t0] Q) := wp_virtual rfl rfl ⟨by decide, rfl⟩ ⟨Nat.le_of_ble_eq_true rfl, Nat.le_of_ble_eq_true rfl⟩ rfl rfl rfl rfl rfl rfl
theorem s39_8 : mm_wp d 39 8 ls (.int x :: st) h Q ↔ mm_wp d 39 9 ls (.long x.toInt64 :: st) h Q := wp_i2l rfl
theorem s39_9 : mm_wp d 39 9 ls (.long w :: .int x :: .ref a :: st) h Q ↔ ((mm_s h a).1 = 21 ∧ mm_in x (mm_s h a).2 = true) ∧ mm_wp d 39 10 ls st (mm_pl h a x.toNatClampNeg w) Q := wp_lastore rfl
theorem s39_10 : mm_wp d 39 10 ls st h Q ↔ mm_wp d 39 21 ls st h Q := wp_goto rfl rfl
theorem s39_13 : mm_wp d 39 13 [l0, l1, l2, l3, l4] (.ref a :: st) h Q ↔ mm_wp d 39 15 [l0, l1, l2, l3, .ref a] st h Q := wp_astoreR rfl rfl
theorem s39_13o : mm_wp d 39 13 [l0, l1, l2, l3, l4] (mm_o o :: st) h Q ↔ mm_wp d 39 15 [l0, l1, l2, l3, mm_o o] st h Q := wp_astore rfl o rfl
theorem s39_13n : mm_wp d 39 13 [l0, l1, l2, l3, l4] (.null :: st) h Q ↔ mm_wp d 39 15 [l0, l1, l2, l3, .null] st h Q := wp_astore rfl none rfl
theorem s39_15 : mm_wp d 39 15 ls st h Q ↔ mm_wp d 39 16 ls (.int (1 : Int32) :: st) h Q := wp_iconst rfl rfl
theorem s39_16 : mm_wp d 39 16 ls (.int x :: st) h Q ↔ Q (.inl (some (.int x))) h := wp_iret rfl rfl
theorem s39_17 : mm_wp d 39 17 [l0, l1, l2, l3, l4] (.ref a :: st) h Q ↔ mm_wp d 39 19 [l0, l1, l2, l3, .ref a] st h Q := wp_astoreR rfl rfl
theorem s39_17o : mm_wp d 39 17 [l0, l1, l2, l3, l4] (mm_o o :: st) h Q ↔ mm_wp d 39 19 [l0, l1, l2, l3, mm_o o] st h Q := wp_astore rfl o rfl
theorem s39_17n : mm_wp d 39 17 [l0, l1, l2, l3, l4] (.null :: st) h Q ↔ mm_wp d 39 19 [l0, l1, l2, l3, .null] st h Q := wp_astore rfl none rfl
theorem s39_19 : mm_wp d 39 19 ls st h Q ↔ mm_wp d 39 20 ls (.int (2 : Int32) :: st) h Q := wp_iconst rfl rfl
theorem s39_20 : mm_wp d 39 20 ls (.int x :: st) h Q ↔ Q (.inl (some (.int x))) h := wp_iret rfl rfl
theorem s39_21 : mm_wp d 39 21 ls st h Q ↔ mm_wp d 39 22 ls (.int (0 : Int32) :: st) h Q := wp_iconst rfl rfl
theorem s39_22 : mm_wp d 39 22 ls (.int x :: st) h Q ↔ Q (.inl (some (.int x))) h := wp_iret rfl rfl
/-! 40: LoadRoom.turn(II)I -/
theorem s40_0 : mm_wp d 40 0 [.ref a, l1, l2, l3, l4] st h Q ↔ mm_wp d 40 1 [.ref a, l1, l2, l3, l4] (.ref a :: st) h Q := wp_aloadR_n rfl rfl
theorem s40_1 : mm_wp d 40 1 ls (.ref a :: st) h Q ↔ (mm_s h a).1 = 9 ∧ mm_wp d 40 4 ls (mm_o (mm_r h a 1) :: st) h Q := wp_getR rfl rfl
theorem s40_4 : mm_wp d 40 4 [l0, .int x, l2, l3, l4] st h Q ↔ mm_wp d 40 5 [l0, .int x, l2, l3, l4] (.int x :: st) h Q := wp_iload_n rfl rfl
theorem s40_5 : mm_wp (d + 1) 40 5 ls [.int x2, .ref a] h Q ↔ (mm_s h a).1 = 2 ∧ mm_wp d 41 0 [.ref a, .int x2] [] h (mm_bk (d + 1) 40 5 ls [] Q) := wp_virtual rfl rfl ⟨by decide, rfl⟩ ⟨Nat.le_of_ble_eq_true rfl, Nat.le_of_ble_eq_true rfl⟩ rfl rfl rfl rfl rfl rfl
theorem s40_8 : mm_wp d 40 8 [l0, l1, l2, l3, l4] (.ref a :: st) h Q ↔ mm_wp d 40 9 [l0, l1, l2, .ref a, l4] st h Q := wp_astoreR_n rfl rfl
theorem s40_8o : mm_wp d 40 8 [l0, l1, l2, l3, l4] (mm_o o :: st) h Q ↔ mm_wp d 40 9 [l0, l1, l2, mm_o o, l4] st h Q := wp_astore_n rfl o rfl
theorem s40_8n : mm_wp d 40 8 [l0, l1, l2, l3, l4] (.null :: st) h Q ↔ mm_wp d 40 9 [l0, l1, l2, .null, l4] st h Q := wp_astore_n rfl none rfl
theorem s40_9 : mm_wp d 40 9 [l0, l1, .int x, l3, l4] st h Q ↔ mm_wp d 40 10 [l0, l1, .int x, l3, l4] (.int x :: st) h Q := wp_iload_n rfl rfl
theorem s40_10 : mm_wp d 40 10 ls st h Q ↔ mm_wp d 40 11 ls (.int (0 : Int32) :: st) h Q := wp_iconst rfl rfl
theorem s40_11 : mm_wp d 40 11 ls st h Q ↔ mm_wp d 40 12 ls (.int (3 : Int32) :: st) h Q := wp_iconst rfl rfl
theorem s40_12 : mm_wp (d + 1) 40 12 ls [.int x3, .int x2, .int x] h Q ↔ mm_wp d 25 0 [.int x, .int x2, .int x3] [] h (mm_bk (d + 1) 40 12 ls [] Q) := wp_static rfl rfl ⟨by decide, rfl⟩ ⟨Nat.le_of_ble_eq_true rfl, Nat.le_of_ble_eq_true rfl⟩ rfl rfl rfl rfl
theorem s40_15 : mm_wp d 40 15 ls (.int x :: st) h Q ↔ if x = 0 then mm_wp d 40 18 ls st h Q else mm_wp d 40 28 ls st h Q := wp_ifne rfl rfl
theorem s40_18 : mm_wp d 40 18 ls st h Q ↔ mm_wp d 40 21 ls (.ref (mm_n h) :: st) (mm_nw h 30 6 6) Q := wp_new rfl rfl rfl rfl
theorem s40_21 : mm_wp d 40 21 ls (.ref a :: st) h Q ↔ mm_wp d 40 22 ls (.ref a :: .ref a :: st) h Q := wp_dupR rfl
theorem s40_22 : mm_wp d 40 22 ls st h Q ↔ mm_wp d 40 24 ls (.float (UInt32.ofNat 4) :: st) h Q := wp_ldcS rfl rfl rfl
theorem s40_24 : mm_wp d 40 24 ls (.float q :: .ref a :: [t0]) h Q ↔ (mm_s h a).1 = 30 ∧ mm_wp d 40 27 ls [t0] h Q := wp_excInit (z := 1001) rfl rfl (Nat.le_of_ble_eq_true rfl) rfl (Nat.le_of_ble_eq_true rfl)
theorem s40_27 : mm_wp d 40 27 ls (.ref a :: st) h Q ↔ 30 ≤ (mm_s h a).1 ∧ Q (.inr a) h := wp_athrow rfl rfl
theorem s40_28 : mm_wp d 40 28 [l0, l1, l2, .ref a, l4] st h Q ↔ mm_wp d 40 29 [l0, l1, l2, .ref a, l4] (.ref a :: st) h Q := wp_aloadR_n rfl rfl
theorem s40_28o : mm_wp d 40 28 [l0, l1, l2, mm_o o, l4] st h Q ↔ mm_wp d 40 29 [l0, l1, l2, mm_o o, l4] (mm_o o :: st) h Q := wp_aload_n rfl o rfl
theorem s40_28n : mm_wp d 40 28 [l0, l1, l2, .null, l4] st h Q ↔ mm_wp d 40 29 [l0, l1, l2, .null, l4] (.null :: st) h Q := wp_aload_n rfl none rfl
theorem s40_29 : mm_wp d 40 29 ls (.ref a :: st) h Q ↔ (mm_s h a).1 = 5 ∧ mm_wp d 40 32 ls (.int (mm_i h a 7) :: st) h Q := wp_getI rfl rfl (by decide) (by decide)
theorem s40_32 : mm_wp d 40 32 [l0, l1, l2, l3, l4] (.int x :: st) h Q ↔ mm_wp d 40 34 [l0, l1, l2, l3, .int x] st h Q := wp_istore rfl rfl
theorem s40_34 : mm_wp d 40 34 [l0, l1, l2, .ref a, l4] st h Q ↔ mm_wp d 40 35 [l0, l1, l2, .ref a, l4] (.ref a :: st) h Q := wp_aloadR_n rfl rfl
theorem s40_34o : mm_wp d 40 34 [l0, l1, l2, mm_o o, l4] st h Q ↔ mm_wp d 40 35 [l0, l1, l2, mm_o o, l4] (mm_o o :: st) h Q := wp_aload_n rfl o rfl
theorem s40_34n : mm_wp d 40 34 [l0, l1, l2, .null, l4] st h Q ↔ mm_wp d 40 35 [l0, l1, l2, .null, l4] (.null :: st) h Q := wp_aload_n rfl none rfl
theorem s40_35 : mm_wp d 40 35 [l0, l1, .int x, l3, l4] st h Q ↔ mm_wp d 40 36 [l0, l1, .int x, l3, l4] (.int x :: st) h Q := wp_iload_n rfl rfl
theorem s40_36 : mm_wp (d + 1) 40 36 ls [.int x2, .ref a] h Q ↔ (mm_s h a).1 = 5 ∧ mm_wp d 31 0 [.ref a, .int x2, mm_j] [] h (mm_bk (d + 1) 40 36 ls [] Q) := wp_virtual rfl rfl ⟨by decide, rfl⟩ ⟨Nat.le_of_ble_eq_true rfl, Nat.le_of_ble_eq_true rfl⟩ rfl rfl rfl rfl rfl rfl
theorem s40_39 : mm_wp d 40 39 [.ref a, l1, l2, l3, l4] st h Q ↔ mm_wp d 40 40 [.ref a, l1, l2, l3, l4] (.ref a :: st) h Q := wp_aloadR_n rfl rfl
theorem s40_40 : mm_wp d 40 40 ls (.ref a :: st) h Q ↔ (mm_s h a).1 = 9 ∧ mm_wp d 40 43 ls (mm_o (mm_r h a 2) :: st) h Q := wp_getR rfl rfl
theorem s40_43 : mm_wp (d + 1) 40 43 ls [.ref a] h Q ↔ (mm_s h a).1 = 8 ∧ mm_wp d 27 0 [.ref a] [] h (mm_bk (d + 1) 40 43 ls [] Q) := wp_virtual rfl rfl ⟨by decide, rfl⟩ ⟨Nat.le_of_ble_eq_true rfl, Nat.le_of_ble_eq_true rfl⟩ rfl rfl rfl rfl rfl rfl
theorem s40_46 : mm_wp d 40 46 [l0, l1, l2, l3, .int x] st h Q ↔ mm_wp d 40 48 [l0, l1, l2, l3, .int x] (.int x :: st) h Q := wp_iload rfl rfl
theorem s40_48 : mm_wp d 40 48 ls (.int x :: st) h Q ↔ Q (.inl (some (.int x))) h := wp_iret rfl rfl
/-! 41: LoadRoom$Cargo.get(I)LLoadRoom$Piece; -/
theorem s41_0 : mm_wp d 41 0 [.ref a, l1] st h Q ↔ mm_wp d 41 1 [.ref a, l1] (.ref a :: st) h Q := wp_aloadR_n rfl rfl
theorem s41_1 : mm_wp d 41 1 [l0, .int x] st h Q ↔ mm_wp d 41 2 [l0, .int x] (.int x :: st) h Q := wp_iload_n rfl rfl
theorem s41_2 : mm_wp (d + 1) 41 2 ls [.int x2, .ref a] h Q ↔ (mm_s h a).1 = 2 ∧ mm_wp d 42 0 [.ref a, .int x2] [] h (mm_bk (d + 1) 41 2 ls [] Q) := wp_virtual rfl rfl ⟨by decide, rfl⟩ ⟨Nat.le_of_ble_eq_true rfl, Nat.le_of_ble_eq_true rfl⟩ rfl rfl rfl rfl rfl rfl
theorem s41_5 : mm_wp d 41 5 [.ref a, l1] st h Q ↔ mm_wp d 41 6 [.ref a, l1] (.ref a :: st) h Q := wp_aloadR_n rfl rfl
theorem s41_6 : mm_wp d 41 6 ls (.ref a :: st) h Q ↔ (mm_s h a).1 = 2 ∧ mm_wp d 41 9 ls (mm_o (mm_r h a 0) :: st) h Q := wp_getR rfl rfl
theorem s41_9 : mm_wp d 41 9 [l0, .int x] st h Q ↔ mm_wp d 41 10 [l0, .int x] (.int x :: st) h Q := wp_iload_n rfl rfl
theorem s41_10 : mm_wp d 41 10 ls (.int x :: .ref a :: st) h Q ↔ (23 ≤ (mm_s h a).1 ∧ (mm_s h a).1 ≤ 26 ∧ mm_in x (mm_s h a).2 = true) ∧ mm_wp d 41 11 ls (mm_o (mm_r h a x.toNatClampNeg) :: st) h Q := wp_aaload rfl
theorem s41_11 : mm_wp d 41 11 ls (.ref a :: st) h Q ↔ Q (.inl (some (.ref a))) h := wp_aret rfl rfl (some a)
theorem s41_11o : mm_wp d 41 11 ls (mm_o o :: st) h Q ↔ Q (.inl (some (mm_o o))) h := wp_aret rfl rfl o
theorem s41_11n : mm_wp d 41 11 ls (.null :: st) h Q ↔ Q (.inl (some .null)) h := wp_aret rfl rfl none
/-! 42: LoadRoom$Cargo.demand(I)V -/
theorem s42_0 : mm_wp d 42 0 [l0, .int x] st h Q ↔ mm_wp d 42 1 [l0, .int x] (.int x :: st) h Q := wp_iload_n rfl rfl
theorem s42_1 : mm_wp d 42 1 ls (.int x :: st) h Q ↔ if x < 0 then mm_wp d 42 12 ls st h Q else mm_wp d 42 4 ls st h Q := wp_iflt rfl rfl
theorem s42_4 : mm_wp d 42 4 [l0, .int x] st h Q ↔ mm_wp d 42 5 [l0, .int x] (.int x :: st) h Q := wp_iload_n rfl rfl
theorem s42_5 : mm_wp d 42 5 [.ref a, l1] st h Q ↔ mm_wp d 42 6 [.ref a, l1] (.ref a :: st) h Q := wp_aloadR_n rfl rfl
theorem s42_6 : mm_wp d 42 6 ls (.ref a :: st) h Q ↔ (mm_s h a).1 = 2 ∧ mm_wp d 42 9 ls (.int (mm_i h a 1) :: st) h Q := wp_getI rfl rfl (by decide) (by decide)
theorem s42_9 : mm_wp d 42 9 ls (.int x2 :: .int x :: st) h Q ↔ if x < x2 then mm_wp d 42 22 ls st h Q else mm_wp d 42 12 ls st h Q := wp_icmplt rfl rfl
theorem s42_12 : mm_wp d 42 12 ls st h Q ↔ mm_wp d 42 15 ls (.ref (mm_n h) :: st) (mm_nw h 32 6 6) Q := wp_new rfl rfl rfl rfl
theorem s42_15 : mm_wp d 42 15 ls (.ref a :: st) h Q ↔ mm_wp d 42 16 ls (.ref a :: .ref a :: st) h Q := wp_dupR rfl
theorem s42_16 : mm_wp d 42 16 ls st h Q ↔ mm_wp d 42 18 ls (.float (UInt32.ofNat 0) :: st) h Q := wp_ldcS rfl rfl rfl
theorem s42_18 : mm_wp d 42 18 ls (.float q :: .ref a :: [t0]) h Q ↔ (mm_s h a).1 = 32 ∧ mm_wp d 42 21 ls [t0] h Q := wp_excInit (z := 1003) rfl rfl (Nat.le_of_ble_eq_true rfl) rfl (Nat.le_of_ble_eq_true rfl)
theorem s42_21 : mm_wp d 42 21 ls (.ref a :: st) h Q ↔ 30 ≤ (mm_s h a).1 ∧ Q (.inr a) h := wp_athrow rfl rfl
theorem s42_22 : mm_wp d 42 22 ls st h Q ↔ Q (.inl none) h := wp_vret rfl rfl
/-! 43: LoadRoomLaw.order(LLoadRoom;II[J)I -/
theorem s43_0 : mm_wp d 43 0 [l0, l1, l2, .ref a, l4] st h Q ↔ mm_wp d 43 1 [l0, l1, l2, .ref a, l4] (.ref a :: st) h Q := wp_aloadR_n rfl rfl
theorem s43_0o : mm_wp d 43 0 [l0, l1, l2, mm_o o, l4] st h Q ↔ mm_wp d 43 1 [l0, l1, l2, mm_o o, l4] (mm_o o :: st) h Q := wp_aload_n rfl o rfl
theorem s43_0n : mm_wp d 43 0 [l0, l1, l2, .null, l4] st h Q ↔ mm_wp d 43 1 [l0, l1, l2, .null, l4] (.null :: st) h Q := wp_aload_n rfl none rfl
theorem s43_1 : mm_wp d 43 1 ls st h Q ↔ mm_wp d 43 2 ls (.int (0 : Int32) :: st) h Q := wp_iconst rfl rfl
theorem s43_2 : mm_wp d 43 2 [.ref a, l1, l2, l3, l4] st h Q ↔ mm_wp d 43 3 [.ref a, l1, l2, l3, l4] (.ref a :: st) h Q := wp_aloadR_n rfl rfl
theorem s43_2o : mm_wp d 43 2 [mm_o o, l1, l2, l3, l4] st h Q ↔ mm_wp d 43 3 [mm_o o, l1, l2, l3, l4] (mm_o o :: st) h Q := wp_aload_n rfl o rfl
theorem s43_2n : mm_wp d 43 2 [.null, l1, l2, l3, l4] st h Q ↔ mm_wp d 43 3 [.null, l1, l2, l3, l4] (.null :: st) h Q := wp_aload_n rfl none rfl
theorem s43_3 : mm_wp d 43 3 [l0, .int x, l2, l3, l4] st h Q ↔ mm_wp d 43 4 [l0, .int x, l2, l3, l4] (.int x :: st) h Q := wp_iload_n rfl rfl
theorem s43_4 : mm_wp d 43 4 [l0, l1, .int x, l3, l4] st h Q ↔ mm_wp d 43 5 [l0, l1, .int x, l3, l4] (.int x :: st) h Q := wp_iload_n rfl rfl
theorem s43_5 : mm_wp (d + 1) 43 5 ls [.int x3, .int x2, .ref a, t1, t0] h Q ↔ (mm_s h a).1 = 9 ∧ mm_wp d 44 0 [.ref a, .int x2, .int x3, mm_j, mm_j] [] h (mm_bk (d + 1) 43 5 ls [t1, t0] Q) := wp_virtual rfl rfl ⟨by decide, rfl⟩ ⟨Nat.le_of_ble_eq_true rfl, Nat.le_of_ble_eq_true rfl⟩ rfl rfl rfl rfl rfl rfl
theorem s43_8 : mm_wp d 43 8 ls (.int x :: st) h Q ↔ mm_wp d 43 9 ls (.long x.toInt64 :: st) h Q := wp_i2l rfl
theorem s43_9 : mm_wp d 43 9 ls (.long w :: .int x :: .ref a :: st) h Q ↔ ((mm_s h a).1 = 21 ∧ mm_in x (mm_s h a).2 = true) ∧ mm_wp d 43 10 ls st (mm_pl h a x.toNatClampNeg w) Q := wp_lastore rfl
theorem s43_10 : mm_wp d 43 10 ls st h Q ↔ mm_wp d 43 21 ls st h Q := wp_goto rfl rfl
theorem s43_13 : mm_wp d 43 13 [l0, l1, l2, l3, l4] (.ref a :: st) h Q ↔ mm_wp d 43 15 [l0, l1, l2, l3, .ref a] st h Q := wp_astoreR rfl rfl
theorem s43_13o : mm_wp d 43 13 [l0, l1, l2, l3, l4] (mm_o o :: st) h Q ↔ mm_wp d 43 15 [l0, l1, l2, l3, mm_o o] st h Q := wp_astore rfl o rfl
theorem s43_13n : mm_wp d 43 13 [l0, l1, l2, l3, l4] (.null :: st) h Q ↔ mm_wp d 43 15 [l0, l1, l2, l3, .null] st h Q := wp_astore rfl none rfl
theorem s43_15 : mm_wp d 43 15 ls st h Q ↔ mm_wp d 43 16 ls (.int (1 : Int32) :: st) h Q := wp_iconst rfl rfl
theorem s43_16 : mm_wp d 43 16 ls (.int x :: st) h Q ↔ Q (.inl (some (.int x))) h := wp_iret rfl rfl
theorem s43_17 : mm_wp d 43 17 [l0, l1, l2, l3, l4] (.ref a :: st) h Q ↔ mm_wp d 43 19 [l0, l1, l2, l3, .ref a] st h Q := wp_astoreR rfl rfl
theorem s43_17o : mm_wp d 43 17 [l0, l1, l2, l3, l4] (mm_o o :: st) h Q ↔ mm_wp d 43 19 [l0, l1, l2, l3, mm_o o] st h Q := wp_astore rfl o rfl
theorem s43_17n : mm_wp d 43 17 [l0, l1, l2, l3, l4] (.null :: st) h Q ↔ mm_wp d 43 19 [l0, l1, l2, l3, .null] st h Q := wp_astore rfl none rfl
theorem s43_19 : mm_wp d 43 19 ls st h Q ↔ mm_wp d 43 20 ls (.int (2 : Int32) :: st) h Q := wp_iconst rfl rfl
theorem s43_20 : mm_wp d 43 20 ls (.int x :: st) h Q ↔ Q (.inl (some (.int x))) h := wp_iret rfl rfl
theorem s43_21 : mm_wp d 43 21 ls st h Q ↔ mm_wp d 43 22 ls (.int (0 : Int32) :: st) h Q := wp_iconst rfl rfl
theorem s43_22 : mm_wp d 43 22 ls (.int x :: st) h Q ↔ Q (.inl (some (.int x))) h := wp_iret rfl rfl
/-! 44: LoadRoom.order(II)I -/
theorem s44_0 : mm_wp d 44 0 [.ref a, l1, l2, l3, l4] st h Q ↔ mm_wp d 44 1 [.ref a, l1, l2, l3, l4] (.ref a :: st) h Q := wp_aloadR_n rfl rfl
theorem s44_1 : mm_wp d 44 1 ls (.ref a :: st) h Q ↔ (mm_s h a).1 = 9 ∧ mm_wp d 44 4 ls (mm_o (mm_r h a 1) :: st) h Q := wp_getR rfl rfl
theorem s44_4 : mm_wp d 44 4 [l0, .int x, l2, l3, l4] st h Q ↔ mm_wp d 44 5 [l0, .int x, l2, l3, l4] (.int x :: st) h Q := wp_iload_n rfl rfl
theorem s44_5 : mm_wp (d + 1) 44 5 ls [.int x2, .ref a] h Q ↔ (mm_s h a).1 = 2 ∧ mm_wp d 41 0 [.ref a, .int x2] [] h (mm_bk (d + 1) 44 5 ls [] Q) := wp_virtual rfl rfl ⟨by decide, rfl⟩ ⟨Nat.le_of_ble_eq_true rfl, Nat.le_of_ble_eq_true rfl⟩ rfl rfl rfl rfl rfl rfl
theorem s44_8 : mm_wp d 44 8 [l0, l1, l2, l3, l4] (.ref a :: st) h Q ↔ mm_wp d 44 9 [l0, l1, l2, .ref a, l4] st h Q := wp_astoreR_n rfl rfl
theorem s44_8o : mm_wp d 44 8 [l0, l1, l2, l3, l4] (mm_o o :: st) h Q ↔ mm_wp d 44 9 [l0, l1, l2, mm_o o, l4] st h Q := wp_astore_n rfl o rfl
theorem s44_8n : mm_wp d 44 8 [l0, l1, l2, l3, l4] (.null :: st) h Q ↔ mm_wp d 44 9 [l0, l1, l2, .null, l4] st h Q := wp_astore_n rfl none rfl
theorem s44_9 : mm_wp d 44 9 [l0, l1, .int x, l3, l4] st h Q ↔ mm_wp d 44 10 [l0, l1, .int x, l3, l4] (.int x :: st) h Q := wp_iload_n rfl rfl
theorem s44_10 : mm_wp d 44 10 ls st h Q ↔ mm_wp d 44 11 ls (.int (0 : Int32) :: st) h Q := wp_iconst rfl rfl
theorem s44_11 : mm_wp d 44 11 ls st h Q ↔ mm_wp d 44 13 ls (.int (9 : Int32) :: st) h Q := wp_bipush rfl rfl
theorem s44_13 : mm_wp (d + 1) 44 13 ls [.int x3, .int x2, .int x] h Q ↔ mm_wp d 25 0 [.int x, .int x2, .int x3] [] h (mm_bk (d + 1) 44 13 ls [] Q) := wp_static rfl rfl ⟨by decide, rfl⟩ ⟨Nat.le_of_ble_eq_true rfl, Nat.le_of_ble_eq_true rfl⟩ rfl rfl rfl rfl
theorem s44_16 : mm_wp d 44 16 ls (.int x :: st) h Q ↔ if x = 0 then mm_wp d 44 19 ls st h Q else mm_wp d 44 29 ls st h Q := wp_ifne rfl rfl
theorem s44_19 : mm_wp d 44 19 ls st h Q ↔ mm_wp d 44 22 ls (.ref (mm_n h) :: st) (mm_nw h 30 6 6) Q := wp_new rfl rfl rfl rfl
theorem s44_22 : mm_wp d 44 22 ls (.ref a :: st) h Q ↔ mm_wp d 44 23 ls (.ref a :: .ref a :: st) h Q := wp_dupR rfl
theorem s44_23 : mm_wp d 44 23 ls st h Q ↔ mm_wp d 44 25 ls (.float (UInt32.ofNat 5) :: st) h Q := wp_ldcS rfl rfl rfl
theorem s44_25 : mm_wp d 44 25 ls (.float q :: .ref a :: [t0]) h Q ↔ (mm_s h a).1 = 30 ∧ mm_wp d 44 28 ls [t0] h Q := wp_excInit (z := 1001) rfl rfl (Nat.le_of_ble_eq_true rfl) rfl (Nat.le_of_ble_eq_true rfl)
theorem s44_28 : mm_wp d 44 28 ls (.ref a :: st) h Q ↔ 30 ≤ (mm_s h a).1 ∧ Q (.inr a) h := wp_athrow rfl rfl
theorem s44_29 : mm_wp d 44 29 [l0, l1, l2, .ref a, l4] st h Q ↔ mm_wp d 44 30 [l0, l1, l2, .ref a, l4] (.ref a :: st) h Q := wp_aloadR_n rfl rfl
theorem s44_29o : mm_wp d 44 29 [l0, l1, l2, mm_o o, l4] st h Q ↔ mm_wp d 44 30 [l0, l1, l2, mm_o o, l4] (mm_o o :: st) h Q := wp_aload_n rfl o rfl
theorem s44_29n : mm_wp d 44 29 [l0, l1, l2, .null, l4] st h Q ↔ mm_wp d 44 30 [l0, l1, l2, .null, l4] (.null :: st) h Q := wp_aload_n rfl none rfl
theorem s44_30 : mm_wp d 44 30 ls (.ref a :: st) h Q ↔ (mm_s h a).1 = 5 ∧ mm_wp d 44 33 ls (.int (mm_i h a 8) :: st) h Q := wp_getI rfl rfl (by decide) (by decide)
theorem s44_33 : mm_wp d 44 33 [l0, l1, l2, l3, l4] (.int x :: st) h Q ↔ mm_wp d 44 35 [l0, l1, l2, l3, .int x] st h Q := wp_istore rfl rfl
theorem s44_35 : mm_wp d 44 35 [l0, l1, l2, .ref a, l4] st h Q ↔ mm_wp d 44 36 [l0, l1, l2, .ref a, l4] (.ref a :: st) h Q := wp_aloadR_n rfl rfl
theorem s44_35o : mm_wp d 44 35 [l0, l1, l2, mm_o o, l4] st h Q ↔ mm_wp d 44 36 [l0, l1, l2, mm_o o, l4] (mm_o o :: st) h Q := wp_aload_n rfl o rfl
theorem s44_35n : mm_wp d 44 35 [l0, l1, l2, .null, l4] st h Q ↔ mm_wp d 44 36 [l0, l1, l2, .null, l4] (.null :: st) h Q := wp_aload_n rfl none rfl
theorem s44_36 : mm_wp d 44 36 [l0, l1, .int x, l3, l4] st h Q ↔ mm_wp d 44 37 [l0, l1, .int x, l3, l4] (.int x :: st) h Q := wp_iload_n rfl rfl
theorem s44_37 : mm_wp d 44 37 ls (.int x :: .ref a :: st) h Q ↔ (mm_s h a).1 = 5 ∧ mm_wp d 44 40 ls st (mm_pi h a 8 x) Q := wp_putI rfl rfl
theorem s44_40 : mm_wp d 44 40 [.ref a, l1, l2, l3, l4] st h Q ↔ mm_wp d 44 41 [.ref a, l1, l2, l3, l4] (.ref a :: st) h Q := wp_aloadR_n rfl rfl
theorem s44_41 : mm_wp d 44 41 ls (.ref a :: st) h Q ↔ (mm_s h a).1 = 9 ∧ mm_wp d 44 44 ls (mm_o (mm_r h a 2) :: st) h Q := wp_getR rfl rfl
theorem s44_44 : mm_wp (d + 1) 44 44 ls [.ref a] h Q ↔ (mm_s h a).1 = 8 ∧ mm_wp d 27 0 [.ref a] [] h (mm_bk (d + 1) 44 44 ls [] Q) := wp_virtual rfl rfl ⟨by decide, rfl⟩ ⟨Nat.le_of_ble_eq_true rfl, Nat.le_of_ble_eq_true rfl⟩ rfl rfl rfl rfl rfl rfl
theorem s44_47 : mm_wp d 44 47 [l0, l1, l2, l3, .int x] st h Q ↔ mm_wp d 44 49 [l0, l1, l2, l3, .int x] (.int x :: st) h Q := wp_iload rfl rfl
theorem s44_49 : mm_wp d 44 49 ls (.int x :: st) h Q ↔ Q (.inl (some (.int x))) h := wp_iret rfl rfl
/-! 45: LoadRoomLaw.limit(LLoadRoom;II[J)I -/
theorem s45_0 : mm_wp d 45 0 [l0, l1, l2, .ref a, l4] st h Q ↔ mm_wp d 45 1 [l0, l1, l2, .ref a, l4] (.ref a :: st) h Q := wp_aloadR_n rfl rfl
theorem s45_0o : mm_wp d 45 0 [l0, l1, l2, mm_o o, l4] st h Q ↔ mm_wp d 45 1 [l0, l1, l2, mm_o o, l4] (mm_o o :: st) h Q := wp_aload_n rfl o rfl
theorem s45_0n : mm_wp d 45 0 [l0, l1, l2, .null, l4] st h Q ↔ mm_wp d 45 1 [l0, l1, l2, .null, l4] (.null :: st) h Q := wp_aload_n rfl none rfl
theorem s45_1 : mm_wp d 45 1 ls st h Q ↔ mm_wp d 45 2 ls (.int (0 : Int32) :: st) h Q := wp_iconst rfl rfl
theorem s45_2 : mm_wp d 45 2 [.ref a, l1, l2, l3, l4] st h Q ↔ mm_wp d 45 3 [.ref a, l1, l2, l3, l4] (.ref a :: st) h Q := wp_aloadR_n rfl rfl
theorem s45_2o : mm_wp d 45 2 [mm_o o, l1, l2, l3, l4] st h Q ↔ mm_wp d 45 3 [mm_o o, l1, l2, l3, l4] (mm_o o :: st) h Q := wp_aload_n rfl o rfl
theorem s45_2n : mm_wp d 45 2 [.null, l1, l2, l3, l4] st h Q ↔ mm_wp d 45 3 [.null, l1, l2, l3, l4] (.null :: st) h Q := wp_aload_n rfl none rfl
theorem s45_3 : mm_wp d 45 3 [l0, .int x, l2, l3, l4] st h Q ↔ mm_wp d 45 4 [l0, .int x, l2, l3, l4] (.int x :: st) h Q := wp_iload_n rfl rfl
theorem s45_4 : mm_wp d 45 4 [l0, l1, .int x, l3, l4] st h Q ↔ mm_wp d 45 5 [l0, l1, .int x, l3, l4] (.int x :: st) h Q := wp_iload_n rfl rfl
theorem s45_5 : mm_wp (d + 1) 45 5 ls [.int x3, .int x2, .ref a, t1, t0] h Q ↔ (mm_s h a).1 = 9 ∧ mm_wp d 46 0 [.ref a, .int x2, .int x3, mm_j, mm_j] [] h (mm_bk (d + 1) 45 5 ls [t1, t0] Q) := wp_virtual rfl rfl ⟨by decide, rfl⟩ ⟨Nat.le_of_ble_eq_true rfl, Nat.le_of_ble_eq_true rfl⟩ rfl rfl rfl rfl rfl rfl
theorem s45_8 : mm_wp d 45 8 ls (.int x :: st) h Q ↔ mm_wp d 45 9 ls (.long x.toInt64 :: st) h Q := wp_i2l rfl
theorem s45_9 : mm_wp d 45 9 ls (.long w :: .int x :: .ref a :: st) h Q ↔ ((mm_s h a).1 = 21 ∧ mm_in x (mm_s h a).2 = true) ∧ mm_wp d 45 10 ls st (mm_pl h a x.toNatClampNeg w) Q := wp_lastore rfl
theorem s45_10 : mm_wp d 45 10 ls st h Q ↔ mm_wp d 45 21 ls st h Q := wp_goto rfl rfl
theorem s45_13 : mm_wp d 45 13 [l0, l1, l2, l3, l4] (.ref a :: st) h Q ↔ mm_wp d 45 15 [l0, l1, l2, l3, .ref a] st h Q := wp_astoreR rfl rfl
theorem s45_13o : mm_wp d 45 13 [l0, l1, l2, l3, l4] (mm_o o :: st) h Q ↔ mm_wp d 45 15 [l0, l1, l2, l3, mm_o o] st h Q := wp_astore rfl o rfl
theorem s45_13n : mm_wp d 45 13 [l0, l1, l2, l3, l4] (.null :: st) h Q ↔ mm_wp d 45 15 [l0, l1, l2, l3, .null] st h Q := wp_astore rfl none rfl
theorem s45_15 : mm_wp d 45 15 ls st h Q ↔ mm_wp d 45 16 ls (.int (1 : Int32) :: st) h Q := wp_iconst rfl rfl
theorem s45_16 : mm_wp d 45 16 ls (.int x :: st) h Q ↔ Q (.inl (some (.int x))) h := wp_iret rfl rfl
theorem s45_17 : mm_wp d 45 17 [l0, l1, l2, l3, l4] (.ref a :: st) h Q ↔ mm_wp d 45 19 [l0, l1, l2, l3, .ref a] st h Q := wp_astoreR rfl rfl
theorem s45_17o : mm_wp d 45 17 [l0, l1, l2, l3, l4] (mm_o o :: st) h Q ↔ mm_wp d 45 19 [l0, l1, l2, l3, mm_o o] st h Q := wp_astore rfl o rfl
theorem s45_17n : mm_wp d 45 17 [l0, l1, l2, l3, l4] (.null :: st) h Q ↔ mm_wp d 45 19 [l0, l1, l2, l3, .null] st h Q := wp_astore rfl none rfl
theorem s45_19 : mm_wp d 45 19 ls st h Q ↔ mm_wp d 45 20 ls (.int (2 : Int32) :: st) h Q := wp_iconst rfl rfl
theorem s45_20 : mm_wp d 45 20 ls (.int x :: st) h Q ↔ Q (.inl (some (.int x))) h := wp_iret rfl rfl
theorem s45_21 : mm_wp d 45 21 ls st h Q ↔ mm_wp d 45 22 ls (.int (0 : Int32) :: st) h Q := wp_iconst rfl rfl
theorem s45_22 : mm_wp d 45 22 ls (.int x :: st) h Q ↔ Q (.inl (some (.int x))) h := wp_iret rfl rfl
/-! 46: LoadRoom.limit(II)I -/
theorem s46_0 : mm_wp d 46 0 [.ref a, l1, l2, l3, l4] st h Q ↔ mm_wp d 46 1 [.ref a, l1, l2, l3, l4] (.ref a :: st) h Q := wp_aloadR_n rfl rfl
theorem s46_1 : mm_wp d 46 1 ls (.ref a :: st) h Q ↔ (mm_s h a).1 = 9 ∧ mm_wp d 46 4 ls (mm_o (mm_r h a 1) :: st) h Q := wp_getR rfl rfl
theorem s46_4 : mm_wp d 46 4 [l0, .int x, l2, l3, l4] st h Q ↔ mm_wp d 46 5 [l0, .int x, l2, l3, l4] (.int x :: st) h Q := wp_iload_n rfl rfl
theorem s46_5 : mm_wp (d + 1) 46 5 ls [.int x2, .ref a] h Q ↔ (mm_s h a).1 = 2 ∧ mm_wp d 41 0 [.ref a, .int x2] [] h (mm_bk (d + 1) 46 5 ls [] Q) := wp_virtual rfl rfl ⟨by decide, rfl⟩ ⟨Nat.le_of_ble_eq_true rfl, Nat.le_of_ble_eq_true rfl⟩ rfl rfl rfl rfl rfl rfl
theorem s46_8 : mm_wp d 46 8 [l0, l1, l2, l3, l4] (.ref a :: st) h Q ↔ mm_wp d 46 9 [l0, l1, l2, .ref a, l4] st h Q := wp_astoreR_n rfl rfl
theorem s46_8o : mm_wp d 46 8 [l0, l1, l2, l3, l4] (mm_o o :: st) h Q ↔ mm_wp d 46 9 [l0, l1, l2, mm_o o, l4] st h Q := wp_astore_n rfl o rfl
theorem s46_8n : mm_wp d 46 8 [l0, l1, l2, l3, l4] (.null :: st) h Q ↔ mm_wp d 46 9 [l0, l1, l2, .null, l4] st h Q := wp_astore_n rfl none rfl
theorem s46_9 : mm_wp d 46 9 [l0, l1, .int x, l3, l4] st h Q ↔ mm_wp d 46 10 [l0, l1, .int x, l3, l4] (.int x :: st) h Q := wp_iload_n rfl rfl
theorem s46_10 : mm_wp d 46 10 ls st h Q ↔ mm_wp d 46 11 ls (.int (0 : Int32) :: st) h Q := wp_iconst rfl rfl
theorem s46_11 : mm_wp d 46 11 ls st h Q ↔ mm_wp d 46 13 ls (.int (100000 : Int32) :: st) h Q := wp_ldcI rfl rfl
theorem s46_13 : mm_wp (d + 1) 46 13 ls [.int x3, .int x2, .int x] h Q ↔ mm_wp d 25 0 [.int x, .int x2, .int x3] [] h (mm_bk (d + 1) 46 13 ls [] Q) := wp_static rfl rfl ⟨by decide, rfl⟩ ⟨Nat.le_of_ble_eq_true rfl, Nat.le_of_ble_eq_true rfl⟩ rfl rfl rfl rfl
theorem s46_16 : mm_wp d 46 16 ls (.int x :: st) h Q ↔ if x = 0 then mm_wp d 46 19 ls st h Q else mm_wp d 46 29 ls st h Q := wp_ifne rfl rfl
theorem s46_19 : mm_wp d 46 19 ls st h Q ↔ mm_wp d 46 22 ls (.ref (mm_n h) :: st) (mm_nw h 30 6 6) Q := wp_new rfl rfl rfl rfl
theorem s46_22 : mm_wp d 46 22 ls (.ref a :: st) h Q ↔ mm_wp d 46 23 ls (.ref a :: .ref a :: st) h Q := wp_dupR rfl
theorem s46_23 : mm_wp d 46 23 ls st h Q ↔ mm_wp d 46 25 ls (.float (UInt32.ofNat 6) :: st) h Q := wp_ldcS rfl rfl rfl
theorem s46_25 : mm_wp d 46 25 ls (.float q :: .ref a :: [t0]) h Q ↔ (mm_s h a).1 = 30 ∧ mm_wp d 46 28 ls [t0] h Q := wp_excInit (z := 1001) rfl rfl (Nat.le_of_ble_eq_true rfl) rfl (Nat.le_of_ble_eq_true rfl)
theorem s46_28 : mm_wp d 46 28 ls (.ref a :: st) h Q ↔ 30 ≤ (mm_s h a).1 ∧ Q (.inr a) h := wp_athrow rfl rfl
theorem s46_29 : mm_wp d 46 29 [l0, l1, l2, .ref a, l4] st h Q ↔ mm_wp d 46 30 [l0, l1, l2, .ref a, l4] (.ref a :: st) h Q := wp_aloadR_n rfl rfl
theorem s46_29o : mm_wp d 46 29 [l0, l1, l2, mm_o o, l4] st h Q ↔ mm_wp d 46 30 [l0, l1, l2, mm_o o, l4] (mm_o o :: st) h Q := wp_aload_n rfl o rfl
theorem s46_29n : mm_wp d 46 29 [l0, l1, l2, .null, l4] st h Q ↔ mm_wp d 46 30 [l0, l1, l2, .null, l4] (.null :: st) h Q := wp_aload_n rfl none rfl
theorem s46_30 : mm_wp d 46 30 ls (.ref a :: st) h Q ↔ (mm_s h a).1 = 5 ∧ mm_wp d 46 33 ls (.int (mm_i h a 9) :: st) h Q := wp_getI rfl rfl (by decide) (by decide)
theorem s46_33 : mm_wp d 46 33 [l0, l1, l2, l3, l4] (.int x :: st) h Q ↔ mm_wp d 46 35 [l0, l1, l2, l3, .int x] st h Q := wp_istore rfl rfl
theorem s46_35 : mm_wp d 46 35 [l0, l1, l2, .ref a, l4] st h Q ↔ mm_wp d 46 36 [l0, l1, l2, .ref a, l4] (.ref a :: st) h Q := wp_aloadR_n rfl rfl
theorem s46_35o : mm_wp d 46 35 [l0, l1, l2, mm_o o, l4] st h Q ↔ mm_wp d 46 36 [l0, l1, l2, mm_o o, l4] (mm_o o :: st) h Q := wp_aload_n rfl o rfl
theorem s46_35n : mm_wp d 46 35 [l0, l1, l2, .null, l4] st h Q ↔ mm_wp d 46 36 [l0, l1, l2, .null, l4] (.null :: st) h Q := wp_aload_n rfl none rfl
theorem s46_36 : mm_wp d 46 36 [l0, l1, .int x, l3, l4] st h Q ↔ mm_wp d 46 37 [l0, l1, .int x, l3, l4] (.int x :: st) h Q := wp_iload_n rfl rfl
theorem s46_37 : mm_wp d 46 37 ls (.int x :: .ref a :: st) h Q ↔ (mm_s h a).1 = 5 ∧ mm_wp d 46 40 ls st (mm_pi h a 9 x) Q := wp_putI rfl rfl
theorem s46_40 : mm_wp d 46 40 [.ref a, l1, l2, l3, l4] st h Q ↔ mm_wp d 46 41 [.ref a, l1, l2, l3, l4] (.ref a :: st) h Q := wp_aloadR_n rfl rfl
theorem s46_41 : mm_wp d 46 41 ls (.ref a :: st) h Q ↔ (mm_s h a).1 = 9 ∧ mm_wp d 46 44 ls (mm_o (mm_r h a 2) :: st) h Q := wp_getR rfl rfl
theorem s46_44 : mm_wp (d + 1) 46 44 ls [.ref a] h Q ↔ (mm_s h a).1 = 8 ∧ mm_wp d 27 0 [.ref a] [] h (mm_bk (d + 1) 46 44 ls [] Q) := wp_virtual rfl rfl ⟨by decide, rfl⟩ ⟨Nat.le_of_ble_eq_true rfl, Nat.le_of_ble_eq_true rfl⟩ rfl rfl rfl rfl rfl rfl
theorem s46_47 : mm_wp d 46 47 [l0, l1, l2, l3, .int x] st h Q ↔ mm_wp d 46 49 [l0, l1, l2, l3, .int x] (.int x :: st) h Q := wp_iload rfl rfl
theorem s46_49 : mm_wp d 46 49 ls (.int x :: st) h Q ↔ Q (.inl (some (.int x))) h := wp_iret rfl rfl
/-! 47: LoadRoomLaw.fits(LLoadRoom;I[J)I -/
theorem s47_0 : mm_wp d 47 0 [l0, l1, .ref a, l3] st h Q ↔ mm_wp d 47 1 [l0, l1, .ref a, l3] (.ref a :: st) h Q := wp_aloadR_n rfl rfl
theorem s47_0o : mm_wp d 47 0 [l0, l1, mm_o o, l3] st h Q ↔ mm_wp d 47 1 [l0, l1, mm_o o, l3] (mm_o o :: st) h Q := wp_aload_n rfl o rfl
theorem s47_0n : mm_wp d 47 0 [l0, l1, .null, l3] st h Q ↔ mm_wp d 47 1 [l0, l1, .null, l3] (.null :: st) h Q := wp_aload_n rfl none rfl
theorem s47_1 : mm_wp d 47 1 ls st h Q ↔ mm_wp d 47 2 ls (.int (0 : Int32) :: st) h Q := wp_iconst rfl rfl
theorem s47_2 : mm_wp d 47 2 [.ref a, l1, l2, l3] st h Q ↔ mm_wp d 47 3 [.ref a, l1, l2, l3] (.ref a :: st) h Q := wp_aloadR_n rfl rfl
theorem s47_2o : mm_wp d 47 2 [mm_o o, l1, l2, l3] st h Q ↔ mm_wp d 47 3 [mm_o o, l1, l2, l3] (mm_o o :: st) h Q := wp_aload_n rfl o rfl
theorem s47_2n : mm_wp d 47 2 [.null, l1, l2, l3] st h Q ↔ mm_wp d 47 3 [.null, l1, l2, l3] (.null :: st) h Q := wp_aload_n rfl none rfl
theorem s47_3 : mm_wp d 47 3 [l0, .int x, l2, l3] st h Q ↔ mm_wp d 47 4 [l0, .int x, l2, l3] (.int x :: st) h Q := wp_iload_n rfl rfl
theorem s47_4 : mm_wp (d + 1) 47 4 ls [.int x2, .ref a, t1, t0] h Q ↔ (mm_s h a).1 = 9 ∧ mm_wp d 48 0 [.ref a, .int x2] [] h (mm_bk (d + 1) 47 4 ls [t1, t0] Q) := wp_virtual rfl rfl ⟨by decide, rfl⟩ ⟨Nat.le_of_ble_eq_true rfl, Nat.le_of_ble_eq_true rfl⟩ rfl rfl rfl rfl rfl rfl
theorem s47_7 : mm_wp d 47 7 ls (.int x :: st) h Q ↔ mm_wp d 47 8 ls (.long x.toInt64 :: st) h Q := wp_i2l rfl
theorem s47_8 : mm_wp d 47 8 ls (.long w :: .int x :: .ref a :: st) h Q ↔ ((mm_s h a).1 = 21 ∧ mm_in x (mm_s h a).2 = true) ∧ mm_wp d 47 9 ls st (mm_pl h a x.toNatClampNeg w) Q := wp_lastore rfl
theorem s47_9 : mm_wp d 47 9 ls st h Q ↔ mm_wp d 47 15 ls st h Q := wp_goto rfl rfl
theorem s47_12 : mm_wp d 47 12 [l0, l1, l2, l3] (.ref a :: st) h Q ↔ mm_wp d 47 13 [l0, l1, l2, .ref a] st h Q := wp_astoreR_n rfl rfl
theorem s47_12o : mm_wp d 47 12 [l0, l1, l2, l3] (mm_o o :: st) h Q ↔ mm_wp d 47 13 [l0, l1, l2, mm_o o] st h Q := wp_astore_n rfl o rfl
theorem s47_12n : mm_wp d 47 12 [l0, l1, l2, l3] (.null :: st) h Q ↔ mm_wp d 47 13 [l0, l1, l2, .null] st h Q := wp_astore_n rfl none rfl
theorem s47_13 : mm_wp d 47 13 ls st h Q ↔ mm_wp d 47 14 ls (.int (1 : Int32) :: st) h Q := wp_iconst rfl rfl
theorem s47_14 : mm_wp d 47 14 ls (.int x :: st) h Q ↔ Q (.inl (some (.int x))) h := wp_iret rfl rfl
theorem s47_15 : mm_wp d 47 15 ls st h Q ↔ mm_wp d 47 16 ls (.int (0 : Int32) :: st) h Q := wp_iconst rfl rfl
theorem s47_16 : mm_wp d 47 16 ls (.int x :: st) h Q ↔ Q (.inl (some (.int x))) h := wp_iret rfl rfl
/-! 48: LoadRoom.fits(I)I -/
theorem s48_0 : mm_wp d 48 0 [.ref a, l1] st h Q ↔ mm_wp d 48 1 [.ref a, l1] (.ref a :: st) h Q := wp_aloadR_n rfl rfl
theorem s48_1 : mm_wp d 48 1 ls (.ref a :: st) h Q ↔ (mm_s h a).1 = 9 ∧ mm_wp d 48 4 ls (mm_o (mm_r h a 1) :: st) h Q := wp_getR rfl rfl
theorem s48_4 : mm_wp d 48 4 [l0, .int x] st h Q ↔ mm_wp d 48 5 [l0, .int x] (.int x :: st) h Q := wp_iload_n rfl rfl
theorem s48_5 : mm_wp (d + 1) 48 5 ls [.int x2, .ref a] h Q ↔ (mm_s h a).1 = 2 ∧ mm_wp d 41 0 [.ref a, .int x2] [] h (mm_bk (d + 1) 48 5 ls [] Q) := wp_virtual rfl rfl ⟨by decide, rfl⟩ ⟨Nat.le_of_ble_eq_true rfl, Nat.le_of_ble_eq_true rfl⟩ rfl rfl rfl rfl rfl rfl
theorem s48_8 : mm_wp d 48 8 ls (.ref a :: st) h Q ↔ (mm_s h a).1 = 5 ∧ mm_wp d 48 11 ls (.int (mm_i h a 2) :: st) h Q := wp_getI rfl rfl (by decide) (by decide)
theorem s48_11 : mm_wp d 48 11 ls (.int x :: st) h Q ↔ Q (.inl (some (.int x))) h := wp_iret rfl rfl
/-! 49: LoadRoomLaw.pack(LLoadRoom;I[J)I -/
theorem s49_0 : mm_wp d 49 0 [l0, l1, .ref a, l3] st h Q ↔ mm_wp d 49 1 [l0, l1, .ref a, l3] (.ref a :: st) h Q := wp_aloadR_n rfl rfl
theorem s49_0o : mm_wp d 49 0 [l0, l1, mm_o o, l3] st h Q ↔ mm_wp d 49 1 [l0, l1, mm_o o, l3] (mm_o o :: st) h Q := wp_aload_n rfl o rfl
theorem s49_0n : mm_wp d 49 0 [l0, l1, .null, l3] st h Q ↔ mm_wp d 49 1 [l0, l1, .null, l3] (.null :: st) h Q := wp_aload_n rfl none rfl
theorem s49_1 : mm_wp d 49 1 ls st h Q ↔ mm_wp d 49 2 ls (.int (0 : Int32) :: st) h Q := wp_iconst rfl rfl
theorem s49_2 : mm_wp d 49 2 [.ref a, l1, l2, l3] st h Q ↔ mm_wp d 49 3 [.ref a, l1, l2, l3] (.ref a :: st) h Q := wp_aloadR_n rfl rfl
theorem s49_2o : mm_wp d 49 2 [mm_o o, l1, l2, l3] st h Q ↔ mm_wp d 49 3 [mm_o o, l1, l2, l3] (mm_o o :: st) h Q := wp_aload_n rfl o rfl
theorem s49_2n : mm_wp d 49 2 [.null, l1, l2, l3] st h Q ↔ mm_wp d 49 3 [.null, l1, l2, l3] (.null :: st) h Q := wp_aload_n rfl none rfl
theorem s49_3 : mm_wp d 49 3 [l0, .int x, l2, l3] st h Q ↔ mm_wp d 49 4 [l0, .int x, l2, l3] (.int x :: st) h Q := wp_iload_n rfl rfl
theorem s49_4 : mm_wp (d + 1) 49 4 ls [.int x2, .ref a, t1, t0] h Q ↔ (mm_s h a).1 = 9 ∧ mm_wp d 50 0 [.ref a, .int x2] [] h (mm_bk (d + 1) 49 4 ls [t1, t0] Q) := wp_virtual rfl rfl ⟨by decide, rfl⟩ ⟨Nat.le_of_ble_eq_true rfl, Nat.le_of_ble_eq_true rfl⟩ rfl rfl rfl rfl rfl rfl
theorem s49_7 : mm_wp d 49 7 ls (.int x :: st) h Q ↔ mm_wp d 49 8 ls (.long x.toInt64 :: st) h Q := wp_i2l rfl
theorem s49_8 : mm_wp d 49 8 ls (.long w :: .int x :: .ref a :: st) h Q ↔ ((mm_s h a).1 = 21 ∧ mm_in x (mm_s h a).2 = true) ∧ mm_wp d 49 9 ls st (mm_pl h a x.toNatClampNeg w) Q := wp_lastore rfl
theorem s49_9 : mm_wp d 49 9 ls st h Q ↔ mm_wp d 49 15 ls st h Q := wp_goto rfl rfl
theorem s49_12 : mm_wp d 49 12 [l0, l1, l2, l3] (.ref a :: st) h Q ↔ mm_wp d 49 13 [l0, l1, l2, .ref a] st h Q := wp_astoreR_n rfl rfl
theorem s49_12o : mm_wp d 49 12 [l0, l1, l2, l3] (mm_o o :: st) h Q ↔ mm_wp d 49 13 [l0, l1, l2, mm_o o] st h Q := wp_astore_n rfl o rfl
theorem s49_12n : mm_wp d 49 12 [l0, l1, l2, l3] (.null :: st) h Q ↔ mm_wp d 49 13 [l0, l1, l2, .null] st h Q := wp_astore_n rfl none rfl
theorem s49_13 : mm_wp d 49 13 ls st h Q ↔ mm_wp d 49 14 ls (.int (1 : Int32) :: st) h Q := wp_iconst rfl rfl
theorem s49_14 : mm_wp d 49 14 ls (.int x :: st) h Q ↔ Q (.inl (some (.int x))) h := wp_iret rfl rfl
theorem s49_15 : mm_wp d 49 15 ls st h Q ↔ mm_wp d 49 16 ls (.int (0 : Int32) :: st) h Q := wp_iconst rfl rfl
theorem s49_16 : mm_wp d 49 16 ls (.int x :: st) h Q ↔ Q (.inl (some (.int x))) h := wp_iret rfl rfl
/-! 50: LoadRoom.pack(I)I -/
theorem s50_0 : mm_wp d 50 0 [l0, .int x] st h Q ↔ mm_wp d 50 1 [l0, .int x] (.int x :: st) h Q := wp_iload_n rfl rfl
theorem s50_1 : mm_wp d 50 1 ls st h Q ↔ mm_wp d 50 2 ls (.int (1 : Int32) :: st) h Q := wp_iconst rfl rfl
theorem s50_2 : mm_wp d 50 2 ls st h Q ↔ mm_wp d 50 5 ls (.int (1000 : Int32) :: st) h Q := wp_sipush rfl rfl
theorem s50_5 : mm_wp (d + 1) 50 5 ls [.int x3, .int x2, .int x] h Q ↔ mm_wp d 25 0 [.int x, .int x2, .int x3] [] h (mm_bk (d + 1) 50 5 ls [] Q) := wp_static rfl rfl ⟨by decide, rfl⟩ ⟨Nat.le_of_ble_eq_true rfl, Nat.le_of_ble_eq_true rfl⟩ rfl rfl rfl rfl
theorem s50_8 : mm_wp d 50 8 ls (.int x :: st) h Q ↔ if x = 0 then mm_wp d 50 11 ls st h Q else mm_wp d 50 21 ls st h Q := wp_ifne rfl rfl
theorem s50_11 : mm_wp d 50 11 ls st h Q ↔ mm_wp d 50 14 ls (.ref (mm_n h) :: st) (mm_nw h 30 6 6) Q := wp_new rfl rfl rfl rfl
theorem s50_14 : mm_wp d 50 14 ls (.ref a :: st) h Q ↔ mm_wp d 50 15 ls (.ref a :: .ref a :: st) h Q := wp_dupR rfl
theorem s50_15 : mm_wp d 50 15 ls st h Q ↔ mm_wp d 50 17 ls (.float (UInt32.ofNat 7) :: st) h Q := wp_ldcS rfl rfl rfl
theorem s50_17 : mm_wp d 50 17 ls (.float q :: .ref a :: [t0]) h Q ↔ (mm_s h a).1 = 30 ∧ mm_wp d 50 20 ls [t0] h Q := wp_excInit (z := 1001) rfl rfl (Nat.le_of_ble_eq_true rfl) rfl (Nat.le_of_ble_eq_true rfl)
theorem s50_20 : mm_wp d 50 20 ls (.ref a :: st) h Q ↔ 30 ≤ (mm_s h a).1 ∧ Q (.inr a) h := wp_athrow rfl rfl
theorem s50_21 : mm_wp d 50 21 [.ref a, l1] st h Q ↔ mm_wp d 50 22 [.ref a, l1] (.ref a :: st) h Q := wp_aloadR_n rfl rfl
theorem s50_22 : mm_wp d 50 22 ls (.ref a :: st) h Q ↔ (mm_s h a).1 = 9 ∧ mm_wp d 50 25 ls (mm_o (mm_r h a 2) :: st) h Q := wp_getR rfl rfl
theorem s50_25 : mm_wp d 50 25 [l0, .int x] st h Q ↔ mm_wp d 50 26 [l0, .int x] (.int x :: st) h Q := wp_iload_n rfl rfl
theorem s50_26 : mm_wp (d + 1) 50 26 ls [.int x2, .ref a] h Q ↔ (mm_s h a).1 = 8 ∧ mm_wp d 51 0 [.ref a, .int x2] [] h (mm_bk (d + 1) 50 26 ls [] Q) := wp_virtual rfl rfl ⟨by decide, rfl⟩ ⟨Nat.le_of_ble_eq_true rfl, Nat.le_of_ble_eq_true rfl⟩ rfl rfl rfl rfl rfl rfl
theorem s50_29 : mm_wp d 50 29 [.ref a, l1] st h Q ↔ mm_wp d 50 30 [.ref a, l1] (.ref a :: st) h Q := wp_aloadR_n rfl rfl
theorem s50_30 : mm_wp d 50 30 ls (.ref a :: st) h Q ↔ (mm_s h a).1 = 9 ∧ mm_wp d 50 33 ls (mm_o (mm_r h a 2) :: st) h Q := wp_getR rfl rfl
theorem s50_33 : mm_wp d 50 33 ls st h Q ↔ mm_wp d 50 34 ls (.int (0 : Int32) :: st) h Q := wp_iconst rfl rfl
theorem s50_34 : mm_wp (d + 1) 50 34 ls [.int x2, .ref a] h Q ↔ (mm_s h a).1 = 8 ∧ mm_wp d 52 0 [.ref a, .int x2, mm_j, mm_j, mm_j, mm_j, mm_j] [] h (mm_bk (d + 1) 50 34 ls [] Q) := wp_virtual rfl rfl ⟨by decide, rfl⟩ ⟨Nat.le_of_ble_eq_true rfl, Nat.le_of_ble_eq_true rfl⟩ rfl rfl rfl rfl rfl rfl
theorem s50_37 : mm_wp d 50 37 [.ref a, l1] st h Q ↔ mm_wp d 50 38 [.ref a, l1] (.ref a :: st) h Q := wp_aloadR_n rfl rfl
theorem s50_38 : mm_wp d 50 38 ls (.ref a :: st) h Q ↔ (mm_s h a).1 = 9 ∧ mm_wp d 50 41 ls (mm_o (mm_r h a 2) :: st) h Q := wp_getR rfl rfl
theorem s50_41 : mm_wp d 50 41 ls (.ref a :: st) h Q ↔ (mm_s h a).1 = 8 ∧ mm_wp d 50 44 ls (mm_o (mm_r h a 3) :: st) h Q := wp_getR rfl rfl
theorem s50_44 : mm_wp d 50 44 ls (.ref a :: st) h Q ↔ (mm_s h a).1 = 7 ∧ mm_wp d 50 47 ls (.int (mm_i h a 2) :: st) h Q := wp_getI rfl rfl (by decide) (by decide)
theorem s50_47 : mm_wp d 50 47 ls (.int x :: st) h Q ↔ Q (.inl (some (.int x))) h := wp_iret rfl rfl
/-! 51: LoadRoom$Search.start(I)V -/
theorem s51_0 : mm_wp d 51 0 [.ref a, l1] st h Q ↔ mm_wp d 51 1 [.ref a, l1] (.ref a :: st) h Q := wp_aloadR_n rfl rfl
theorem s51_1 : mm_wp d 51 1 [l0, .int x] st h Q ↔ mm_wp d 51 2 [l0, .int x] (.int x :: st) h Q := wp_iload_n rfl rfl
theorem s51_2 : mm_wp d 51 2 ls (.int x :: .ref a :: st) h Q ↔ (mm_s h a).1 = 8 ∧ mm_wp d 51 5 ls st (mm_pi h a 8 x) Q := wp_putI rfl rfl
theorem s51_5 : mm_wp d 51 5 [.ref a, l1] st h Q ↔ mm_wp d 51 6 [.ref a, l1] (.ref a :: st) h Q := wp_aloadR_n rfl rfl
theorem s51_6 : mm_wp d 51 6 ls st h Q ↔ mm_wp d 51 7 ls (.int (0 : Int32) :: st) h Q := wp_iconst rfl rfl
theorem s51_7 : mm_wp d 51 7 ls (.int x :: .ref a :: st) h Q ↔ (mm_s h a).1 = 8 ∧ mm_wp d 51 10 ls st (mm_pi h a 9 x) Q := wp_putI rfl rfl
theorem s51_10 : mm_wp d 51 10 [.ref a, l1] st h Q ↔ mm_wp d 51 11 [.ref a, l1] (.ref a :: st) h Q := wp_aloadR_n rfl rfl
theorem s51_11 : mm_wp d 51 11 ls st h Q ↔ mm_wp d 51 12 ls (.int (0 : Int32) :: st) h Q := wp_iconst rfl rfl
theorem s51_12 : mm_wp d 51 12 ls (.int x :: .ref a :: st) h Q ↔ (mm_s h a).1 = 8 ∧ (x = 0 ∨ x = 1) ∧ mm_wp d 51 15 ls st (mm_pi h a 10 x) Q := wp_putZ rfl rfl
theorem s51_15 : mm_wp d 51 15 [.ref a, l1] st h Q ↔ mm_wp d 51 16 [.ref a, l1] (.ref a :: st) h Q := wp_aloadR_n rfl rfl
theorem s51_16 : mm_wp d 51 16 ls (.ref a :: st) h Q ↔ (mm_s h a).1 = 8 ∧ mm_wp d 51 19 ls (mm_o (mm_r h a 2) :: st) h Q := wp_getR rfl rfl
theorem s51_19 : mm_wp (d + 1) 51 19 ls [.ref a] h Q ↔ (mm_s h a).1 = 7 ∧ mm_wp d 28 0 [.ref a] [] h (mm_bk (d + 1) 51 19 ls [] Q) := wp_virtual rfl rfl ⟨by decide, rfl⟩ ⟨Nat.le_of_ble_eq_true rfl, Nat.le_of_ble_eq_true rfl⟩ rfl rfl rfl rfl rfl rfl
theorem s51_22 : mm_wp d 51 22 [.ref a, l1] st h Q ↔ mm_wp d 51 23 [.ref a, l1] (.ref a :: st) h Q := wp_aloadR_n rfl rfl
theorem s51_23 : mm_wp d 51 23 ls (.ref a :: st) h Q ↔ (mm_s h a).1 = 8 ∧ mm_wp d 51 26 ls (mm_o (mm_r h a 3) :: st) h Q := wp_getR rfl rfl
theorem s51_26 : mm_wp (d + 1) 51 26 ls [.ref a] h Q ↔ (mm_s h a).1 = 7 ∧ mm_wp d 28 0 [.ref a] [] h (mm_bk (d + 1) 51 26 ls [] Q) := wp_virtual rfl rfl ⟨by decide, rfl⟩ ⟨Nat.le_of_ble_eq_true rfl, Nat.le_of_ble_eq_true rfl⟩ rfl rfl rfl rfl rfl rfl
theorem s51_29 : mm_wp d 51 29 ls st h Q ↔ Q (.inl none) h := wp_vret rfl rfl
/-! 52: LoadRoom$Search.goBehind(I)V -/
theorem s52_0 : mm_wp d 52 0 [l0, .int x, l2, l3, l4, l5, l6] st h Q ↔ mm_wp d 52 1 [l0, .int x, l2, l3, l4, l5, l6] (.int x :: st) h Q := wp_iload_n rfl rfl
theorem s52_1 : mm_wp d 52 1 ls (.int x :: st) h Q ↔ if x < 0 then mm_wp d 52 10 ls st h Q else mm_wp d 52 4 ls st h Q := wp_iflt rfl rfl
theorem s52_4 : mm_wp d 52 4 [l0, .int x, l2, l3, l4, l5, l6] st h Q ↔ mm_wp d 52 5 [l0, .int x, l2, l3, l4, l5, l6] (.int x :: st) h Q := wp_iload_n rfl rfl
theorem s52_5 : mm_wp d 52 5 ls st h Q ↔ mm_wp d 52 7 ls (.int (8 : Int32) :: st) h Q := wp_bipush rfl rfl
theorem s52_7 : mm_wp d 52 7 ls (.int x2 :: .int x :: st) h Q ↔ if x < x2 then mm_wp d 52 11 ls st h Q else mm_wp d 52 10 ls st h Q := wp_icmplt rfl rfl
theorem s52_10 : mm_wp d 52 10 ls st h Q ↔ Q (.inl none) h := wp_vret rfl rfl
theorem s52_11 : mm_wp d 52 11 [.ref a, l1, l2, l3, l4, l5, l6] st h Q ↔ mm_wp d 52 12 [.ref a, l1, l2, l3, l4, l5, l6] (.ref a :: st) h Q := wp_aloadR_n rfl rfl
theorem s52_12 : mm_wp d 52 12 [l0, .int x, l2, l3, l4, l5, l6] st h Q ↔ mm_wp d 52 13 [l0, .int x, l2, l3, l4, l5, l6] (.int x :: st) h Q := wp_iload_n rfl rfl
theorem s52_13 : mm_wp (d + 1) 52 13 ls [.int x2, .ref a] h Q ↔ (mm_s h a).1 = 8 ∧ mm_wp d 53 0 [.ref a, .int x2, mm_j] [] h (mm_bk (d + 1) 52 13 ls [] Q) := wp_virtual rfl rfl ⟨by decide, rfl⟩ ⟨Nat.le_of_ble_eq_true rfl, Nat.le_of_ble_eq_true rfl⟩ rfl rfl rfl rfl rfl rfl
theorem s52_16 : mm_wp d 52 16 [.ref a, l1, l2, l3, l4, l5, l6] st h Q ↔ mm_wp d 52 17 [.ref a, l1, l2, l3, l4, l5, l6] (.ref a :: st) h Q := wp_aloadR_n rfl rfl
theorem s52_17 : mm_wp d 52 17 ls (.ref a :: st) h Q ↔ (mm_s h a).1 = 8 ∧ mm_wp d 52 20 ls (mm_o (mm_r h a 2) :: st) h Q := wp_getR rfl rfl
theorem s52_20 : mm_wp d 52 20 ls (.ref a :: st) h Q ↔ (mm_s h a).1 = 7 ∧ mm_wp d 52 23 ls (mm_o (mm_r h a 0) :: st) h Q := wp_getR rfl rfl
theorem s52_23 : mm_wp d 52 23 [l0, .int x, l2, l3, l4, l5, l6] st h Q ↔ mm_wp d 52 24 [l0, .int x, l2, l3, l4, l5, l6] (.int x :: st) h Q := wp_iload_n rfl rfl
theorem s52_24 : mm_wp d 52 24 ls (.int x :: .ref a :: st) h Q ↔ (23 ≤ (mm_s h a).1 ∧ (mm_s h a).1 ≤ 26 ∧ mm_in x (mm_s h a).2 = true) ∧ mm_wp d 52 25 ls (mm_o (mm_r h a x.toNatClampNeg) :: st) h Q := wp_aaload rfl
theorem s52_25 : mm_wp d 52 25 [l0, l1, l2, l3, l4, l5, l6] (.ref a :: st) h Q ↔ mm_wp d 52 26 [l0, l1, .ref a, l3, l4, l5, l6] st h Q := wp_astoreR_n rfl rfl
theorem s52_25o : mm_wp d 52 25 [l0, l1, l2, l3, l4, l5, l6] (mm_o o :: st) h Q ↔ mm_wp d 52 26 [l0, l1, mm_o o, l3, l4, l5, l6] st h Q := wp_astore_n rfl o rfl
theorem s52_25n : mm_wp d 52 25 [l0, l1, l2, l3, l4, l5, l6] (.null :: st) h Q ↔ mm_wp d 52 26 [l0, l1, .null, l3, l4, l5, l6] st h Q := wp_astore_n rfl none rfl
theorem s52_26 : mm_wp d 52 26 ls st h Q ↔ mm_wp d 52 27 ls (.int (0 : Int32) :: st) h Q := wp_iconst rfl rfl
theorem s52_27 : mm_wp d 52 27 [l0, l1, l2, l3, l4, l5, l6] (.int x :: st) h Q ↔ mm_wp d 52 28 [l0, l1, l2, .int x, l4, l5, l6] st h Q := wp_istore_n rfl rfl
theorem s52_28 : mm_wp d 52 28 [l0, l1, l2, .int x, l4, l5, l6] st h Q ↔ mm_wp d 52 29 [l0, l1, l2, .int x, l4, l5, l6] (.int x :: st) h Q := wp_iload_n rfl rfl
theorem s52_29 : mm_wp d 52 29 [.ref a, l1, l2, l3, l4, l5, l6] st h Q ↔ mm_wp d 52 30 [.ref a, l1, l2, l3, l4, l5, l6] (.ref a :: st) h Q := wp_aloadR_n rfl rfl
theorem s52_30 : mm_wp d 52 30 ls (.ref a :: st) h Q ↔ (mm_s h a).1 = 8 ∧ mm_wp d 52 33 ls (mm_o (mm_r h a 1) :: st) h Q := wp_getR rfl rfl
theorem s52_33 : mm_wp d 52 33 ls (.ref a :: st) h Q ↔ (mm_s h a).1 = 2 ∧ mm_wp d 52 36 ls (.int (mm_i h a 1) :: st) h Q := wp_getI rfl rfl (by decide) (by decide)
theorem s52_36 : mm_wp d 52 36 ls (.int x2 :: .int x :: st) h Q ↔ if x2 ≤ x then mm_wp d 52 134 ls st h Q else mm_wp d 52 39 ls st h Q := wp_icmpge rfl rfl
theorem s52_39 : mm_wp d 52 39 [.ref a, l1, l2, l3, l4, l5, l6] st h Q ↔ mm_wp d 52 40 [.ref a, l1, l2, l3, l4, l5, l6] (.ref a :: st) h Q := wp_aloadR_n rfl rfl
theorem s52_40 : mm_wp d 52 40 ls (.ref a :: st) h Q ↔ (mm_s h a).1 = 8 ∧ mm_wp d 52 43 ls (.int (mm_i h a 10) :: st) h Q := wp_getI rfl rfl (by decide) (by decide)
theorem s52_43 : mm_wp d 52 43 ls (.int x :: st) h Q ↔ if x = 0 then mm_wp d 52 46 ls st h Q else mm_wp d 52 134 ls st h Q := wp_ifne rfl rfl
theorem s52_46 : mm_wp d 52 46 [.ref a, l1, l2, l3, l4, l5, l6] st h Q ↔ mm_wp d 52 47 [.ref a, l1, l2, l3, l4, l5, l6] (.ref a :: st) h Q := wp_aloadR_n rfl rfl
theorem s52_47 : mm_wp d 52 47 ls (.ref a :: st) h Q ↔ (mm_s h a).1 = 8 ∧ mm_wp d 52 50 ls (mm_o (mm_r h a 1) :: st) h Q := wp_getR rfl rfl
theorem s52_50 : mm_wp d 52 50 ls (.ref a :: st) h Q ↔ (mm_s h a).1 = 2 ∧ mm_wp d 52 53 ls (mm_o (mm_r h a 0) :: st) h Q := wp_getR rfl rfl
theorem s52_53 : mm_wp d 52 53 [l0, l1, l2, .int x, l4, l5, l6] st h Q ↔ mm_wp d 52 54 [l0, l1, l2, .int x, l4, l5, l6] (.int x :: st) h Q := wp_iload_n rfl rfl
theorem s52_54 : mm_wp d 52 54 ls (.int x :: .ref a :: st) h Q ↔ (23 ≤ (mm_s h a).1 ∧ (mm_s h a).1 ≤ 26 ∧ mm_in x (mm_s h a).2 = true) ∧ mm_wp d 52 55 ls (mm_o (mm_r h a x.toNatClampNeg) :: st) h Q := wp_aaload rfl
theorem s52_55 : mm_wp d 52 55 [l0, l1, l2, l3, l4, l5, l6] (.ref a :: st) h Q ↔ mm_wp d 52 57 [l0, l1, l2, l3, .ref a, l5, l6] st h Q := wp_astoreR rfl rfl
theorem s52_55o : mm_wp d 52 55 [l0, l1, l2, l3, l4, l5, l6] (mm_o o :: st) h Q ↔ mm_wp d 52 57 [l0, l1, l2, l3, mm_o o, l5, l6] st h Q := wp_astore rfl o rfl
theorem s52_55n : mm_wp d 52 55 [l0, l1, l2, l3, l4, l5, l6] (.null :: st) h Q ↔ mm_wp d 52 57 [l0, l1, l2, l3, .null, l5, l6] st h Q := wp_astore rfl none rfl
theorem s52_57 : mm_wp d 52 57 [.ref a, l1, l2, l3, l4, l5, l6] st h Q ↔ mm_wp d 52 58 [.ref a, l1, l2, l3, l4, l5, l6] (.ref a :: st) h Q := wp_aloadR_n rfl rfl
theorem s52_58 : mm_wp d 52 58 ls (.ref a :: st) h Q ↔ (mm_s h a).1 = 8 ∧ mm_wp d 52 61 ls (mm_o (mm_r h a 2) :: st) h Q := wp_getR rfl rfl
theorem s52_61 : mm_wp d 52 61 [l0, l1, l2, .int x, l4, l5, l6] st h Q ↔ mm_wp d 52 62 [l0, l1, l2, .int x, l4, l5, l6] (.int x :: st) h Q := wp_iload_n rfl rfl
theorem s52_62 : mm_wp (d + 1) 52 62 ls [.int x2, .ref a] h Q ↔ (mm_s h a).1 = 7 ∧ mm_wp d 59 0 [.ref a, .int x2, mm_j] [] h (mm_bk (d + 1) 52 62 ls [] Q) := wp_virtual rfl rfl ⟨by decide, rfl⟩ ⟨Nat.le_of_ble_eq_true rfl, Nat.le_of_ble_eq_true rfl⟩ rfl rfl rfl rfl rfl rfl
theorem s52_65 : mm_wp d 52 65 ls (mm_o o :: st) h Q ↔ if o = none then mm_wp d 52 68 ls st h Q else mm_wp d 52 72 ls st h Q := wp_ifnonnull (off := 7) rfl rfl o
theorem s52_65r : mm_wp d 52 65 ls (.ref a :: st) h Q ↔ mm_wp d 52 72 ls st h Q := wp_go (i := .ifnonnull 7) (len := 3) rfl rfl
theorem s52_65n : mm_wp d 52 65 ls (.null :: st) h Q ↔ mm_wp d 52 68 ls st h Q := wp_go (i := .ifnonnull 7) (len := 3) rfl rfl
theorem s52_68 : mm_wp d 52 68 ls st h Q ↔ mm_wp d 52 69 ls (.int (1 : Int32) :: st) h Q := wp_iconst rfl rfl
theorem s52_69 : mm_wp d 52 69 ls st h Q ↔ mm_wp d 52 73 ls st h Q := wp_goto rfl rfl
theorem s52_72 : mm_wp d 52 72 ls st h Q ↔ mm_wp d 52 73 ls (.int (0 : Int32) :: st) h Q := wp_iconst rfl rfl
theorem s52_73 : mm_wp d 52 73 [l0, l1, l2, l3, l4, l5, l6] (.int x :: st) h Q ↔ mm_wp d 52 75 [l0, l1, l2, l3, l4, .int x, l6] st h Q := wp_istore rfl rfl
theorem s52_75 : mm_wp d 52 75 ls st h Q ↔ mm_wp d 52 76 ls (.int (0 : Int32) :: st) h Q := wp_iconst rfl rfl
theorem s52_76 : mm_wp d 52 76 [l0, l1, l2, l3, l4, l5, l6] (.int x :: st) h Q ↔ mm_wp d 52 78 [l0, l1, l2, l3, l4, l5, .int x] st h Q := wp_istore rfl rfl
theorem s52_78 : mm_wp d 52 78 [l0, l1, l2, l3, l4, l5, .int x] st h Q ↔ mm_wp d 52 80 [l0, l1, l2, l3, l4, l5, .int x] (.int x :: st) h Q := wp_iload rfl rfl
theorem s52_80 : mm_wp d 52 80 ls st h Q ↔ mm_wp d 52 82 ls (.int (6 : Int32) :: st) h Q := wp_bipush rfl rfl
theorem s52_82 : mm_wp d 52 82 ls (.int x2 :: .int x :: st) h Q ↔ if x2 ≤ x then mm_wp d 52 128 ls st h Q else mm_wp d 52 85 ls st h Q := wp_icmpge rfl rfl
theorem s52_85 : mm_wp d 52 85 [l0, l1, l2, l3, l4, .int x, l6] st h Q ↔ mm_wp d 52 87 [l0, l1, l2, l3, l4, .int x, l6] (.int x :: st) h Q := wp_iload rfl rfl
theorem s52_87 : mm_wp d 52 87 ls (.int x :: st) h Q ↔ if x = 0 then mm_wp d 52 128 ls st h Q else mm_wp d 52 90 ls st h Q := wp_ifeq rfl rfl
theorem s52_90 : mm_wp d 52 90 [.ref a, l1, l2, l3, l4, l5, l6] st h Q ↔ mm_wp d 52 91 [.ref a, l1, l2, l3, l4, l5, l6] (.ref a :: st) h Q := wp_aloadR_n rfl rfl
theorem s52_91 : mm_wp d 52 91 ls (.ref a :: st) h Q ↔ (mm_s h a).1 = 8 ∧ mm_wp d 52 94 ls (.int (mm_i h a 10) :: st) h Q := wp_getI rfl rfl (by decide) (by decide)
theorem s52_94 : mm_wp d 52 94 ls (.int x :: st) h Q ↔ if x = 0 then mm_wp d 52 97 ls st h Q else mm_wp d 52 128 ls st h Q := wp_ifne rfl rfl
theorem s52_97 : mm_wp d 52 97 [l0, l1, l2, l3, .ref a, l5, l6] st h Q ↔ mm_wp d 52 99 [l0, l1, l2, l3, .ref a, l5, l6] (.ref a :: st) h Q := wp_aloadR rfl rfl
theorem s52_97o : mm_wp d 52 97 [l0, l1, l2, l3, mm_o o, l5, l6] st h Q ↔ mm_wp d 52 99 [l0, l1, l2, l3, mm_o o, l5, l6] (mm_o o :: st) h Q := wp_aload rfl o rfl
theorem s52_97n : mm_wp d 52 97 [l0, l1, l2, l3, .null, l5, l6] st h Q ↔ mm_wp d 52 99 [l0, l1, l2, l3, .null, l5, l6] (.null :: st) h Q := wp_aload rfl none rfl
theorem s52_99 : mm_wp d 52 99 ls (.ref a :: st) h Q ↔ (mm_s h a).1 = 5 ∧ mm_wp d 52 102 ls (mm_o (mm_r h a 1) :: st) h Q := wp_getR rfl rfl
theorem s52_102 : mm_wp d 52 102 [l0, l1, l2, l3, l4, l5, .int x] st h Q ↔ mm_wp d 52 104 [l0, l1, l2, l3, l4, l5, .int x] (.int x :: st) h Q := wp_iload rfl rfl
theorem s52_104 : mm_wp d 52 104 ls (.int x :: .ref a :: st) h Q ↔ ((mm_s h a).1 = 22 ∧ mm_in x (mm_s h a).2 = true) ∧ mm_wp d 52 105 ls (.int (mm_i h a x.toNatClampNeg) :: st) h Q := wp_baload rfl
theorem s52_105 : mm_wp d 52 105 ls (.int x :: st) h Q ↔ if x = 0 then mm_wp d 52 122 ls st h Q else mm_wp d 52 108 ls st h Q := wp_ifeq rfl rfl
theorem s52_108 : mm_wp d 52 108 [l0, l1, .ref a, l3, l4, l5, l6] st h Q ↔ mm_wp d 52 109 [l0, l1, .ref a, l3, l4, l5, l6] (.ref a :: st) h Q := wp_aloadR_n rfl rfl
theorem s52_108o : mm_wp d 52 108 [l0, l1, mm_o o, l3, l4, l5, l6] st h Q ↔ mm_wp d 52 109 [l0, l1, mm_o o, l3, l4, l5, l6] (mm_o o :: st) h Q := wp_aload_n rfl o rfl
theorem s52_108n : mm_wp d 52 108 [l0, l1, .null, l3, l4, l5, l6] st h Q ↔ mm_wp d 52 109 [l0, l1, .null, l3, l4, l5, l6] (.null :: st) h Q := wp_aload_n rfl none rfl
theorem s52_109 : mm_wp d 52 109 [l0, l1, l2, .int x, l4, l5, l6] st h Q ↔ mm_wp d 52 110 [l0, l1, l2, .int x, l4, l5, l6] (.int x :: st) h Q := wp_iload_n rfl rfl
theorem s52_110 : mm_wp d 52 110 [l0, l1, l2, l3, .ref a, l5, l6] st h Q ↔ mm_wp d 52 112 [l0, l1, l2, l3, .ref a, l5, l6] (.ref a :: st) h Q := wp_aloadR rfl rfl
theorem s52_110o : mm_wp d 52 110 [l0, l1, l2, l3, mm_o o, l5, l6] st h Q ↔ mm_wp d 52 112 [l0, l1, l2, l3, mm_o o, l5, l6] (mm_o o :: st) h Q := wp_aload rfl o rfl
theorem s52_110n : mm_wp d 52 110 [l0, l1, l2, l3, .null, l5, l6] st h Q ↔ mm_wp d 52 112 [l0, l1, l2, l3, .null, l5, l6] (.null :: st) h Q := wp_aload rfl none rfl
theorem s52_112 : mm_wp d 52 112 [l0, l1, l2, l3, l4, l5, .int x] st h Q ↔ mm_wp d 52 114 [l0, l1, l2, l3, l4, l5, .int x] (.int x :: st) h Q := wp_iload rfl rfl
theorem s52_114 : mm_wp (d + 1) 52 114 ls [.int x4, .ref b, .int x2, .ref a] h Q ↔ (mm_s h a).1 = 6 ∧ mm_wp d 60 0 [.ref a, .int x2, .ref b, .int x4] [] h (mm_bk (d + 1) 52 114 ls [] Q) := wp_virtual rfl rfl ⟨by decide, rfl⟩ ⟨Nat.le_of_ble_eq_true rfl, Nat.le_of_ble_eq_true rfl⟩ rfl rfl rfl rfl rfl rfl
theorem s52_117 : mm_wp d 52 117 [.ref a, l1, l2, l3, l4, l5, l6] st h Q ↔ mm_wp d 52 118 [.ref a, l1, l2, l3, l4, l5, l6] (.ref a :: st) h Q := wp_aloadR_n rfl rfl
theorem s52_118 : mm_wp d 52 118 [l0, l1, .ref a, l3, l4, l5, l6] st h Q ↔ mm_wp d 52 119 [l0, l1, .ref a, l3, l4, l5, l6] (.ref a :: st) h Q := wp_aloadR_n rfl rfl
theorem s52_118o : mm_wp d 52 118 [l0, l1, mm_o o, l3, l4, l5, l6] st h Q ↔ mm_wp d 52 119 [l0, l1, mm_o o, l3, l4, l5, l6] (mm_o o :: st) h Q := wp_aload_n rfl o rfl
theorem s52_118n : mm_wp d 52 118 [l0, l1, .null, l3, l4, l5, l6] st h Q ↔ mm_wp d 52 119 [l0, l1, .null, l3, l4, l5, l6] (.null :: st) h Q := wp_aload_n rfl none rfl
theorem s52_119 : mm_wp (d + 1) 52 119 ls [.ref b, .ref a] h Q ↔ (mm_s h a).1 = 8 ∧ mm_wp d 61 0 [.ref a, .ref b, mm_j, mm_j, mm_j] [] h (mm_bk (d + 1) 52 119 ls [] Q) := wp_virtual rfl rfl ⟨by decide, rfl⟩ ⟨Nat.le_of_ble_eq_true rfl, Nat.le_of_ble_eq_true rfl⟩ rfl rfl rfl rfl rfl rfl
theorem s52_122 : mm_wp d 52 122 [l0, l1, l2, l3, l4, l5, .int x] st h Q ↔ mm_wp d 52 125 [l0, l1, l2, l3, l4, l5, .int (x + (1 : Int32))] st h Q := wp_iinc rfl rfl rfl rfl
theorem s52_125 : mm_wp d 52 125 ls st h Q ↔ mm_wp d 52 78 ls st h Q := wp_goto rfl rfl
theorem s52_128 : mm_wp d 52 128 [l0, l1, l2, .int x, l4, l5, l6] st h Q ↔ mm_wp d 52 131 [l0, l1, l2, .int (x + (1 : Int32)), l4, l5, l6] st h Q := wp_iinc rfl rfl rfl rfl
theorem s52_131 : mm_wp d 52 131 ls st h Q ↔ mm_wp d 52 28 ls st h Q := wp_goto rfl rfl
theorem s52_134 : mm_wp d 52 134 ls st h Q ↔ Q (.inl none) h := wp_vret rfl rfl
/-! 53: LoadRoom$Search.layFloors(I)V -/
theorem s53_0 : mm_wp d 53 0 [.ref a, l1, l2] st h Q ↔ mm_wp d 53 1 [.ref a, l1, l2] (.ref a :: st) h Q := wp_aloadR_n rfl rfl
theorem s53_1 : mm_wp d 53 1 ls (.ref a :: st) h Q ↔ (mm_s h a).1 = 8 ∧ mm_wp d 53 4 ls (mm_o (mm_r h a 7) :: st) h Q := wp_getR rfl rfl
theorem s53_4 : mm_wp d 53 4 [l0, .int x, l2] st h Q ↔ mm_wp d 53 5 [l0, .int x, l2] (.int x :: st) h Q := wp_iload_n rfl rfl
theorem s53_5 : mm_wp d 53 5 ls st h Q ↔ mm_wp d 53 7 ls (.int (8 : Int32) :: st) h Q := wp_bipush rfl rfl
theorem s53_7 : mm_wp d 53 7 ls (.int x2 :: .int x :: st) h Q ↔ mm_wp d 53 8 ls (.int (x * x2) :: st) h Q := wp_imul rfl
theorem s53_8 : mm_wp d 53 8 ls (.int x :: .ref a :: st) h Q ↔ (23 ≤ (mm_s h a).1 ∧ (mm_s h a).1 ≤ 26 ∧ mm_in x (mm_s h a).2 = true) ∧ mm_wp d 53 9 ls (mm_o (mm_r h a x.toNatClampNeg) :: st) h Q := wp_aaload rfl
theorem s53_9 : mm_wp d 53 9 [.ref a, l1, l2] st h Q ↔ mm_wp d 53 10 [.ref a, l1, l2] (.ref a :: st) h Q := wp_aloadR_n rfl rfl
theorem s53_10 : mm_wp d 53 10 ls (.ref a :: st) h Q ↔ (mm_s h a).1 = 8 ∧ mm_wp d 53 13 ls (mm_o (mm_r h a 0) :: st) h Q := wp_getR rfl rfl
theorem s53_13 : mm_wp (d + 1) 53 13 ls [.ref b, .ref a] h Q ↔ (mm_s h a).1 = 4 ∧ mm_wp d 54 0 [.ref a, .ref b] [] h (mm_bk (d + 1) 53 13 ls [] Q) := wp_virtual rfl rfl ⟨by decide, rfl⟩ ⟨Nat.le_of_ble_eq_true rfl, Nat.le_of_ble_eq_true rfl⟩ rfl rfl rfl rfl rfl rfl
theorem s53_16 : mm_wp d 53 16 ls st h Q ↔ mm_wp d 53 17 ls (.int (1 : Int32) :: st) h Q := wp_iconst rfl rfl
theorem s53_17 : mm_wp d 53 17 [l0, l1, l2] (.int x :: st) h Q ↔ mm_wp d 53 18 [l0, l1, .int x] st h Q := wp_istore_n rfl rfl
theorem s53_18 : mm_wp d 53 18 [l0, l1, .int x] st h Q ↔ mm_wp d 53 19 [l0, l1, .int x] (.int x :: st) h Q := wp_iload_n rfl rfl
theorem s53_19 : mm_wp d 53 19 [.ref a, l1, l2] st h Q ↔ mm_wp d 53 20 [.ref a, l1, l2] (.ref a :: st) h Q := wp_aloadR_n rfl rfl
theorem s53_20 : mm_wp d 53 20 ls (.ref a :: st) h Q ↔ (mm_s h a).1 = 8 ∧ mm_wp d 53 23 ls (mm_o (mm_r h a 5) :: st) h Q := wp_getR rfl rfl
theorem s53_23 : mm_wp d 53 23 [l0, .int x, l2] st h Q ↔ mm_wp d 53 24 [l0, .int x, l2] (.int x :: st) h Q := wp_iload_n rfl rfl
theorem s53_24 : mm_wp (d + 1) 53 24 ls [.int x2, .ref a, t0] h Q ↔ (mm_s h a).1 = 3 ∧ mm_wp d 55 0 [.ref a, .int x2] [] h (mm_bk (d + 1) 53 24 ls [t0] Q) := wp_virtual rfl rfl ⟨by decide, rfl⟩ ⟨Nat.le_of_ble_eq_true rfl, Nat.le_of_ble_eq_true rfl⟩ rfl rfl rfl rfl rfl rfl
theorem s53_27 : mm_wp d 53 27 ls (.int x2 :: .int x :: st) h Q ↔ if x2 ≤ x then mm_wp d 53 63 ls st h Q else mm_wp d 53 30 ls st h Q := wp_icmpge rfl rfl
theorem s53_30 : mm_wp d 53 30 [.ref a, l1, l2] st h Q ↔ mm_wp d 53 31 [.ref a, l1, l2] (.ref a :: st) h Q := wp_aloadR_n rfl rfl
theorem s53_31 : mm_wp d 53 31 ls (.ref a :: st) h Q ↔ (mm_s h a).1 = 8 ∧ mm_wp d 53 34 ls (mm_o (mm_r h a 7) :: st) h Q := wp_getR rfl rfl
theorem s53_34 : mm_wp d 53 34 [l0, .int x, l2] st h Q ↔ mm_wp d 53 35 [l0, .int x, l2] (.int x :: st) h Q := wp_iload_n rfl rfl
theorem s53_35 : mm_wp d 53 35 ls st h Q ↔ mm_wp d 53 37 ls (.int (8 : Int32) :: st) h Q := wp_bipush rfl rfl
theorem s53_37 : mm_wp d 53 37 ls (.int x2 :: .int x :: st) h Q ↔ mm_wp d 53 38 ls (.int (x * x2) :: st) h Q := wp_imul rfl
theorem s53_38 : mm_wp d 53 38 [l0, l1, .int x] st h Q ↔ mm_wp d 53 39 [l0, l1, .int x] (.int x :: st) h Q := wp_iload_n rfl rfl
theorem s53_39 : mm_wp d 53 39 ls (.int x2 :: .int x :: st) h Q ↔ mm_wp d 53 40 ls (.int (x + x2) :: st) h Q := wp_iadd rfl
theorem s53_40 : mm_wp d 53 40 ls (.int x :: .ref a :: st) h Q ↔ (23 ≤ (mm_s h a).1 ∧ (mm_s h a).1 ≤ 26 ∧ mm_in x (mm_s h a).2 = true) ∧ mm_wp d 53 41 ls (mm_o (mm_r h a x.toNatClampNeg) :: st) h Q := wp_aaload rfl
theorem s53_41 : mm_wp d 53 41 [.ref a, l1, l2] st h Q ↔ mm_wp d 53 42 [.ref a, l1, l2] (.ref a :: st) h Q := wp_aloadR_n rfl rfl
theorem s53_42 : mm_wp d 53 42 ls (.ref a :: st) h Q ↔ (mm_s h a).1 = 8 ∧ mm_wp d 53 45 ls (mm_o (mm_r h a 5) :: st) h Q := wp_getR rfl rfl
theorem s53_45 : mm_wp d 53 45 [l0, .int x, l2] st h Q ↔ mm_wp d 53 46 [l0, .int x, l2] (.int x :: st) h Q := wp_iload_n rfl rfl
theorem s53_46 : mm_wp d 53 46 [l0, l1, .int x] st h Q ↔ mm_wp d 53 47 [l0, l1, .int x] (.int x :: st) h Q := wp_iload_n rfl rfl
theorem s53_47 : mm_wp (d + 1) 53 47 ls [.int x3, .int x2, .ref a, t0] h Q ↔ (mm_s h a).1 = 3 ∧ mm_wp d 56 0 [.ref a, .int x2, .int x3] [] h (mm_bk (d + 1) 53 47 ls [t0] Q) := wp_virtual rfl rfl ⟨by decide, rfl⟩ ⟨Nat.le_of_ble_eq_true rfl, Nat.le_of_ble_eq_true rfl⟩ rfl rfl rfl rfl rfl rfl
theorem s53_50 : mm_wp d 53 50 [.ref a, l1, l2] st h Q ↔ mm_wp d 53 51 [.ref a, l1, l2] (.ref a :: st) h Q := wp_aloadR_n rfl rfl
theorem s53_51 : mm_wp d 53 51 ls (.ref a :: st) h Q ↔ (mm_s h a).1 = 8 ∧ mm_wp d 53 54 ls (mm_o (mm_r h a 2) :: st) h Q := wp_getR rfl rfl
theorem s53_54 : mm_wp (d + 1) 53 54 ls [.ref b, .int x2, .ref a] h Q ↔ (mm_s h a).1 = 4 ∧ mm_wp d 57 0 [.ref a, .int x2, .ref b, mm_j] [] h (mm_bk (d + 1) 53 54 ls [] Q) := wp_virtual rfl rfl ⟨by decide, rfl⟩ ⟨Nat.le_of_ble_eq_true rfl, Nat.le_of_ble_eq_true rfl⟩ rfl rfl rfl rfl rfl rfl
theorem s53_57 : mm_wp d 53 57 [l0, l1, .int x] st h Q ↔ mm_wp d 53 60 [l0, l1, .int (x + (1 : Int32))] st h Q := wp_iinc rfl rfl rfl rfl
theorem s53_60 : mm_wp d 53 60 ls st h Q ↔ mm_wp d 53 18 ls st h Q := wp_goto rfl rfl
theorem s53_63 : mm_wp d 53 63 ls st h Q ↔ Q (.inl none) h := wp_vret rfl rfl
/-! 54: LoadRoom$Floor.lay(LLoadRoom$Box;)V -/
theorem s54_0 : mm_wp d 54 0 [.ref a, l1] st h Q ↔ mm_wp d 54 1 [.ref a, l1] (.ref a :: st) h Q := wp_aloadR_n rfl rfl
theorem s54_1 : mm_wp d 54 1 ls st h Q ↔ mm_wp d 54 2 ls (.int (0 : Int32) :: st) h Q := wp_iconst rfl rfl
theorem s54_2 : mm_wp d 54 2 ls (.int x :: .ref a :: st) h Q ↔ (mm_s h a).1 = 4 ∧ mm_wp d 54 5 ls st (mm_pi h a 0 x) Q := wp_putI rfl rfl
theorem s54_5 : mm_wp d 54 5 [.ref a, l1] st h Q ↔ mm_wp d 54 6 [.ref a, l1] (.ref a :: st) h Q := wp_aloadR_n rfl rfl
theorem s54_6 : mm_wp d 54 6 [l0, .ref a] st h Q ↔ mm_wp d 54 7 [l0, .ref a] (.ref a :: st) h Q := wp_aloadR_n rfl rfl
theorem s54_6o : mm_wp d 54 6 [l0, mm_o o] st h Q ↔ mm_wp d 54 7 [l0, mm_o o] (mm_o o :: st) h Q := wp_aload_n rfl o rfl
theorem s54_6n : mm_wp d 54 6 [l0, .null] st h Q ↔ mm_wp d 54 7 [l0, .null] (.null :: st) h Q := wp_aload_n rfl none rfl
theorem s54_7 : mm_wp d 54 7 ls (.ref a :: st) h Q ↔ (mm_s h a).1 = 1 ∧ mm_wp d 54 10 ls (.int (mm_i h a 0) :: st) h Q := wp_getI rfl rfl (by decide) (by decide)
theorem s54_10 : mm_wp d 54 10 [l0, .ref a] st h Q ↔ mm_wp d 54 11 [l0, .ref a] (.ref a :: st) h Q := wp_aloadR_n rfl rfl
theorem s54_10o : mm_wp d 54 10 [l0, mm_o o] st h Q ↔ mm_wp d 54 11 [l0, mm_o o] (mm_o o :: st) h Q := wp_aload_n rfl o rfl
theorem s54_10n : mm_wp d 54 10 [l0, .null] st h Q ↔ mm_wp d 54 11 [l0, .null] (.null :: st) h Q := wp_aload_n rfl none rfl
theorem s54_11 : mm_wp d 54 11 ls (.ref a :: st) h Q ↔ (mm_s h a).1 = 1 ∧ mm_wp d 54 14 ls (.int (mm_i h a 2) :: st) h Q := wp_getI rfl rfl (by decide) (by decide)
theorem s54_14 : mm_wp d 54 14 ls (.int x2 :: .int x :: st) h Q ↔ mm_wp d 54 15 ls (.int (x * x2) :: st) h Q := wp_imul rfl
theorem s54_15 : mm_wp d 54 15 ls (.int x :: .ref a :: st) h Q ↔ (mm_s h a).1 = 4 ∧ mm_wp d 54 18 ls st (mm_pi h a 1 x) Q := wp_putI rfl rfl
theorem s54_18 : mm_wp d 54 18 [.ref a, l1] st h Q ↔ mm_wp d 54 19 [.ref a, l1] (.ref a :: st) h Q := wp_aloadR_n rfl rfl
theorem s54_19 : mm_wp d 54 19 ls st h Q ↔ mm_wp d 54 20 ls (.int (0 : Int32) :: st) h Q := wp_iconst rfl rfl
theorem s54_20 : mm_wp d 54 20 ls (.int x :: .ref a :: st) h Q ↔ (mm_s h a).1 = 4 ∧ mm_wp d 54 23 ls st (mm_pi h a 2 x) Q := wp_putI rfl rfl
theorem s54_23 : mm_wp d 54 23 [.ref a, l1] st h Q ↔ mm_wp d 54 24 [.ref a, l1] (.ref a :: st) h Q := wp_aloadR_n rfl rfl
theorem s54_24 : mm_wp d 54 24 [l0, .ref a] st h Q ↔ mm_wp d 54 25 [l0, .ref a] (.ref a :: st) h Q := wp_aloadR_n rfl rfl
theorem s54_24o : mm_wp d 54 24 [l0, mm_o o] st h Q ↔ mm_wp d 54 25 [l0, mm_o o] (mm_o o :: st) h Q := wp_aload_n rfl o rfl
theorem s54_24n : mm_wp d 54 24 [l0, .null] st h Q ↔ mm_wp d 54 25 [l0, .null] (.null :: st) h Q := wp_aload_n rfl none rfl
theorem s54_25 : mm_wp d 54 25 ls (.ref a :: st) h Q ↔ (mm_s h a).1 = 1 ∧ mm_wp d 54 28 ls (.int (mm_i h a 0) :: st) h Q := wp_getI rfl rfl (by decide) (by decide)
theorem s54_28 : mm_wp d 54 28 ls (.int x :: .ref a :: st) h Q ↔ (mm_s h a).1 = 4 ∧ mm_wp d 54 31 ls st (mm_pi h a 3 x) Q := wp_putI rfl rfl
theorem s54_31 : mm_wp d 54 31 [.ref a, l1] st h Q ↔ mm_wp d 54 32 [.ref a, l1] (.ref a :: st) h Q := wp_aloadR_n rfl rfl
theorem s54_32 : mm_wp d 54 32 ls st h Q ↔ mm_wp d 54 33 ls (.int (0 : Int32) :: st) h Q := wp_iconst rfl rfl
theorem s54_33 : mm_wp d 54 33 ls (.int x :: .ref a :: st) h Q ↔ (mm_s h a).1 = 4 ∧ mm_wp d 54 36 ls st (mm_pi h a 4 x) Q := wp_putI rfl rfl
theorem s54_36 : mm_wp d 54 36 [.ref a, l1] st h Q ↔ mm_wp d 54 37 [.ref a, l1] (.ref a :: st) h Q := wp_aloadR_n rfl rfl
theorem s54_37 : mm_wp d 54 37 [l0, .ref a] st h Q ↔ mm_wp d 54 38 [l0, .ref a] (.ref a :: st) h Q := wp_aloadR_n rfl rfl
theorem s54_37o : mm_wp d 54 37 [l0, mm_o o] st h Q ↔ mm_wp d 54 38 [l0, mm_o o] (mm_o o :: st) h Q := wp_aload_n rfl o rfl
theorem s54_37n : mm_wp d 54 37 [l0, .null] st h Q ↔ mm_wp d 54 38 [l0, .null] (.null :: st) h Q := wp_aload_n rfl none rfl
theorem s54_38 : mm_wp d 54 38 ls (.ref a :: st) h Q ↔ (mm_s h a).1 = 1 ∧ mm_wp d 54 41 ls (.int (mm_i h a 2) :: st) h Q := wp_getI rfl rfl (by decide) (by decide)
theorem s54_41 : mm_wp d 54 41 ls (.int x :: .ref a :: st) h Q ↔ (mm_s h a).1 = 4 ∧ mm_wp d 54 44 ls st (mm_pi h a 5 x) Q := wp_putI rfl rfl
theorem s54_44 : mm_wp d 54 44 ls st h Q ↔ Q (.inl none) h := wp_vret rfl rfl
end
