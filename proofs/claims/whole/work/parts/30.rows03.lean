/-! rows of the program, by rows.py -/
section
variable {d : Nat} {ls st : List Value} {h : mm_H} {Q : mm_Q} {o : Option Nat} {a b c : Nat} {x y x1 x2 x3 x4 x5 x6 : Int32} {w w2 w3 w4 : Int64} {q : UInt32} {l0 l1 l2 l3 l4 l5 l6 l7 l8 l9 l10 l11 l12 l13 l14 l15 l16 t0 t1 t2 t3 t4 t5 : Value}
/-! 55: LoadRoom$Ends.count(I)I -/
theorem s55_0 : mm_wp d 55 0 [l0, .int x] st h Q ↔ mm_wp d 55 1 [l0, .int x] (.int x :: st) h Q := wp_iload_n rfl rfl
theorem s55_1 : mm_wp d 55 1 ls (.int x :: st) h Q ↔ if x < 0 then mm_wp d 55 19 ls st h Q else mm_wp d 55 4 ls st h Q := wp_iflt rfl rfl
theorem s55_4 : mm_wp d 55 4 [l0, .int x] st h Q ↔ mm_wp d 55 5 [l0, .int x] (.int x :: st) h Q := wp_iload_n rfl rfl
theorem s55_5 : mm_wp d 55 5 ls st h Q ↔ mm_wp d 55 7 ls (.int (8 : Int32) :: st) h Q := wp_bipush rfl rfl
theorem s55_7 : mm_wp d 55 7 ls (.int x2 :: .int x :: st) h Q ↔ if x2 ≤ x then mm_wp d 55 19 ls st h Q else mm_wp d 55 10 ls st h Q := wp_icmpge rfl rfl
theorem s55_10 : mm_wp d 55 10 [.ref a, l1] st h Q ↔ mm_wp d 55 11 [.ref a, l1] (.ref a :: st) h Q := wp_aloadR_n rfl rfl
theorem s55_11 : mm_wp d 55 11 ls (.ref a :: st) h Q ↔ (mm_s h a).1 = 3 ∧ mm_wp d 55 14 ls (mm_o (mm_r h a 1) :: st) h Q := wp_getR rfl rfl
theorem s55_14 : mm_wp d 55 14 [l0, .int x] st h Q ↔ mm_wp d 55 15 [l0, .int x] (.int x :: st) h Q := wp_iload_n rfl rfl
theorem s55_15 : mm_wp d 55 15 ls (.int x :: .ref a :: st) h Q ↔ ((mm_s h a).1 = 20 ∧ mm_in x (mm_s h a).2 = true) ∧ mm_wp d 55 16 ls (.int (mm_i h a x.toNatClampNeg) :: st) h Q := wp_iaload rfl
theorem s55_16 : mm_wp d 55 16 ls st h Q ↔ mm_wp d 55 20 ls st h Q := wp_goto rfl rfl
theorem s55_19 : mm_wp d 55 19 ls st h Q ↔ mm_wp d 55 20 ls (.int (0 : Int32) :: st) h Q := wp_iconst rfl rfl
theorem s55_20 : mm_wp d 55 20 ls (.int x :: st) h Q ↔ Q (.inl (some (.int x))) h := wp_iret rfl rfl
/-! 56: LoadRoom$Ends.get(II)I -/
theorem s56_0 : mm_wp d 56 0 [l0, l1, .int x] st h Q ↔ mm_wp d 56 1 [l0, l1, .int x] (.int x :: st) h Q := wp_iload_n rfl rfl
theorem s56_1 : mm_wp d 56 1 ls (.int x :: st) h Q ↔ if x < 0 then mm_wp d 56 24 ls st h Q else mm_wp d 56 4 ls st h Q := wp_iflt rfl rfl
theorem s56_4 : mm_wp d 56 4 [l0, l1, .int x] st h Q ↔ mm_wp d 56 5 [l0, l1, .int x] (.int x :: st) h Q := wp_iload_n rfl rfl
theorem s56_5 : mm_wp d 56 5 [.ref a, l1, l2] st h Q ↔ mm_wp d 56 6 [.ref a, l1, l2] (.ref a :: st) h Q := wp_aloadR_n rfl rfl
theorem s56_6 : mm_wp d 56 6 [l0, .int x, l2] st h Q ↔ mm_wp d 56 7 [l0, .int x, l2] (.int x :: st) h Q := wp_iload_n rfl rfl
theorem s56_7 : mm_wp (d + 1) 56 7 ls [.int x2, .ref a, t0] h Q ↔ (mm_s h a).1 = 3 ∧ mm_wp d 55 0 [.ref a, .int x2] [] h (mm_bk (d + 1) 56 7 ls [t0] Q) := wp_virtual rfl rfl ⟨by decide, rfl⟩ ⟨Nat.le_of_ble_eq_true rfl, Nat.le_of_ble_eq_true rfl⟩ rfl rfl rfl rfl rfl rfl
theorem s56_10 : mm_wp d 56 10 ls (.int x2 :: .int x :: st) h Q ↔ if x2 ≤ x then mm_wp d 56 24 ls st h Q else mm_wp d 56 13 ls st h Q := wp_icmpge rfl rfl
theorem s56_13 : mm_wp d 56 13 [.ref a, l1, l2] st h Q ↔ mm_wp d 56 14 [.ref a, l1, l2] (.ref a :: st) h Q := wp_aloadR_n rfl rfl
theorem s56_14 : mm_wp d 56 14 ls (.ref a :: st) h Q ↔ (mm_s h a).1 = 3 ∧ mm_wp d 56 17 ls (mm_o (mm_r h a 0) :: st) h Q := wp_getR rfl rfl
theorem s56_17 : mm_wp d 56 17 [l0, .int x, l2] st h Q ↔ mm_wp d 56 18 [l0, .int x, l2] (.int x :: st) h Q := wp_iload_n rfl rfl
theorem s56_18 : mm_wp d 56 18 ls (.int x :: .ref a :: st) h Q ↔ (23 ≤ (mm_s h a).1 ∧ (mm_s h a).1 ≤ 26 ∧ mm_in x (mm_s h a).2 = true) ∧ mm_wp d 56 19 ls (mm_o (mm_r h a x.toNatClampNeg) :: st) h Q := wp_aaload rfl
theorem s56_19 : mm_wp d 56 19 [l0, l1, .int x] st h Q ↔ mm_wp d 56 20 [l0, l1, .int x] (.int x :: st) h Q := wp_iload_n rfl rfl
theorem s56_20 : mm_wp d 56 20 ls (.int x :: .ref a :: st) h Q ↔ ((mm_s h a).1 = 20 ∧ mm_in x (mm_s h a).2 = true) ∧ mm_wp d 56 21 ls (.int (mm_i h a x.toNatClampNeg) :: st) h Q := wp_iaload rfl
theorem s56_21 : mm_wp d 56 21 ls st h Q ↔ mm_wp d 56 25 ls st h Q := wp_goto rfl rfl
theorem s56_24 : mm_wp d 56 24 ls st h Q ↔ mm_wp d 56 25 ls (.int (0 : Int32) :: st) h Q := wp_iconst rfl rfl
theorem s56_25 : mm_wp d 56 25 ls (.int x :: st) h Q ↔ Q (.inl (some (.int x))) h := wp_iret rfl rfl
/-! 57: LoadRoom$Floor.lay(ILLoadRoom$Row;)V -/
theorem s57_0 : mm_wp d 57 0 [.ref a, l1, l2, l3] st h Q ↔ mm_wp d 57 1 [.ref a, l1, l2, l3] (.ref a :: st) h Q := wp_aloadR_n rfl rfl
theorem s57_1 : mm_wp d 57 1 [l0, .int x, l2, l3] st h Q ↔ mm_wp d 57 2 [l0, .int x, l2, l3] (.int x :: st) h Q := wp_iload_n rfl rfl
theorem s57_2 : mm_wp d 57 2 ls (.int x :: .ref a :: st) h Q ↔ (mm_s h a).1 = 4 ∧ mm_wp d 57 5 ls st (mm_pi h a 0 x) Q := wp_putI rfl rfl
theorem s57_5 : mm_wp d 57 5 [.ref a, l1, l2, l3] st h Q ↔ mm_wp d 57 6 [.ref a, l1, l2, l3] (.ref a :: st) h Q := wp_aloadR_n rfl rfl
theorem s57_6 : mm_wp d 57 6 ls st h Q ↔ mm_wp d 57 7 ls (.int (0 : Int32) :: st) h Q := wp_iconst rfl rfl
theorem s57_7 : mm_wp d 57 7 ls (.int x :: .ref a :: st) h Q ↔ (mm_s h a).1 = 4 ∧ mm_wp d 57 10 ls st (mm_pi h a 1 x) Q := wp_putI rfl rfl
theorem s57_10 : mm_wp d 57 10 ls st h Q ↔ mm_wp d 57 11 ls (.int (0 : Int32) :: st) h Q := wp_iconst rfl rfl
theorem s57_11 : mm_wp d 57 11 [l0, l1, l2, l3] (.int x :: st) h Q ↔ mm_wp d 57 12 [l0, l1, l2, .int x] st h Q := wp_istore_n rfl rfl
theorem s57_12 : mm_wp d 57 12 [l0, l1, l2, .int x] st h Q ↔ mm_wp d 57 13 [l0, l1, l2, .int x] (.int x :: st) h Q := wp_iload_n rfl rfl
theorem s57_13 : mm_wp d 57 13 [l0, l1, .ref a, l3] st h Q ↔ mm_wp d 57 14 [l0, l1, .ref a, l3] (.ref a :: st) h Q := wp_aloadR_n rfl rfl
theorem s57_13o : mm_wp d 57 13 [l0, l1, mm_o o, l3] st h Q ↔ mm_wp d 57 14 [l0, l1, mm_o o, l3] (mm_o o :: st) h Q := wp_aload_n rfl o rfl
theorem s57_13n : mm_wp d 57 13 [l0, l1, .null, l3] st h Q ↔ mm_wp d 57 14 [l0, l1, .null, l3] (.null :: st) h Q := wp_aload_n rfl none rfl
theorem s57_14 : mm_wp d 57 14 ls (.ref a :: st) h Q ↔ (mm_s h a).1 = 7 ∧ mm_wp d 57 17 ls (.int (mm_i h a 1) :: st) h Q := wp_getI rfl rfl (by decide) (by decide)
theorem s57_17 : mm_wp d 57 17 ls (.int x2 :: .int x :: st) h Q ↔ if x2 ≤ x then mm_wp d 57 49 ls st h Q else mm_wp d 57 20 ls st h Q := wp_icmpge rfl rfl
theorem s57_20 : mm_wp d 57 20 [l0, l1, .ref a, l3] st h Q ↔ mm_wp d 57 21 [l0, l1, .ref a, l3] (.ref a :: st) h Q := wp_aloadR_n rfl rfl
theorem s57_20o : mm_wp d 57 20 [l0, l1, mm_o o, l3] st h Q ↔ mm_wp d 57 21 [l0, l1, mm_o o, l3] (mm_o o :: st) h Q := wp_aload_n rfl o rfl
theorem s57_20n : mm_wp d 57 20 [l0, l1, .null, l3] st h Q ↔ mm_wp d 57 21 [l0, l1, .null, l3] (.null :: st) h Q := wp_aload_n rfl none rfl
theorem s57_21 : mm_wp d 57 21 ls (.ref a :: st) h Q ↔ (mm_s h a).1 = 7 ∧ mm_wp d 57 24 ls (mm_o (mm_r h a 0) :: st) h Q := wp_getR rfl rfl
theorem s57_24 : mm_wp d 57 24 [l0, l1, l2, .int x] st h Q ↔ mm_wp d 57 25 [l0, l1, l2, .int x] (.int x :: st) h Q := wp_iload_n rfl rfl
theorem s57_25 : mm_wp d 57 25 ls (.int x :: .ref a :: st) h Q ↔ (23 ≤ (mm_s h a).1 ∧ (mm_s h a).1 ≤ 26 ∧ mm_in x (mm_s h a).2 = true) ∧ mm_wp d 57 26 ls (mm_o (mm_r h a x.toNatClampNeg) :: st) h Q := wp_aaload rfl
theorem s57_26 : mm_wp d 57 26 ls (.ref a :: st) h Q ↔ (mm_s h a).1 = 6 ∧ mm_wp d 57 29 ls (.int (mm_i h a 7) :: st) h Q := wp_getI rfl rfl (by decide) (by decide)
theorem s57_29 : mm_wp d 57 29 [l0, .int x, l2, l3] st h Q ↔ mm_wp d 57 30 [l0, .int x, l2, l3] (.int x :: st) h Q := wp_iload_n rfl rfl
theorem s57_30 : mm_wp d 57 30 ls (.int x2 :: .int x :: st) h Q ↔ if x = x2 then mm_wp d 57 33 ls st h Q else mm_wp d 57 43 ls st h Q := wp_icmpne rfl rfl
theorem s57_33 : mm_wp d 57 33 [.ref a, l1, l2, l3] st h Q ↔ mm_wp d 57 34 [.ref a, l1, l2, l3] (.ref a :: st) h Q := wp_aloadR_n rfl rfl
theorem s57_34 : mm_wp d 57 34 [l0, l1, .ref a, l3] st h Q ↔ mm_wp d 57 35 [l0, l1, .ref a, l3] (.ref a :: st) h Q := wp_aloadR_n rfl rfl
theorem s57_34o : mm_wp d 57 34 [l0, l1, mm_o o, l3] st h Q ↔ mm_wp d 57 35 [l0, l1, mm_o o, l3] (mm_o o :: st) h Q := wp_aload_n rfl o rfl
theorem s57_34n : mm_wp d 57 34 [l0, l1, .null, l3] st h Q ↔ mm_wp d 57 35 [l0, l1, .null, l3] (.null :: st) h Q := wp_aload_n rfl none rfl
theorem s57_35 : mm_wp d 57 35 ls (.ref a :: st) h Q ↔ (mm_s h a).1 = 7 ∧ mm_wp d 57 38 ls (mm_o (mm_r h a 0) :: st) h Q := wp_getR rfl rfl
theorem s57_38 : mm_wp d 57 38 [l0, l1, l2, .int x] st h Q ↔ mm_wp d 57 39 [l0, l1, l2, .int x] (.int x :: st) h Q := wp_iload_n rfl rfl
theorem s57_39 : mm_wp d 57 39 ls (.int x :: .ref a :: st) h Q ↔ (23 ≤ (mm_s h a).1 ∧ (mm_s h a).1 ≤ 26 ∧ mm_in x (mm_s h a).2 = true) ∧ mm_wp d 57 40 ls (mm_o (mm_r h a x.toNatClampNeg) :: st) h Q := wp_aaload rfl
theorem s57_40 : mm_wp (d + 1) 57 40 ls [.ref b, .ref a] h Q ↔ (mm_s h a).1 = 4 ∧ mm_wp d 58 0 [.ref a, .ref b, mm_j] [] h (mm_bk (d + 1) 57 40 ls [] Q) := wp_virtual rfl rfl ⟨by decide, rfl⟩ ⟨Nat.le_of_ble_eq_true rfl, Nat.le_of_ble_eq_true rfl⟩ rfl rfl rfl rfl rfl rfl
theorem s57_43 : mm_wp d 57 43 [l0, l1, l2, .int x] st h Q ↔ mm_wp d 57 46 [l0, l1, l2, .int (x + (1 : Int32))] st h Q := wp_iinc rfl rfl rfl rfl
theorem s57_46 : mm_wp d 57 46 ls st h Q ↔ mm_wp d 57 12 ls st h Q := wp_goto rfl rfl
theorem s57_49 : mm_wp d 57 49 ls st h Q ↔ Q (.inl none) h := wp_vret rfl rfl
/-! 58: LoadRoom$Floor.widen(LLoadRoom$Placed;)V -/
theorem s58_0 : mm_wp d 58 0 [.ref a, l1, l2] st h Q ↔ mm_wp d 58 1 [.ref a, l1, l2] (.ref a :: st) h Q := wp_aloadR_n rfl rfl
theorem s58_1 : mm_wp d 58 1 ls (.ref a :: st) h Q ↔ (mm_s h a).1 = 4 ∧ mm_wp d 58 4 ls (.int (mm_i h a 1) :: st) h Q := wp_getI rfl rfl (by decide) (by decide)
theorem s58_4 : mm_wp d 58 4 ls (.int x :: st) h Q ↔ if x = 0 then mm_wp d 58 7 ls st h Q else mm_wp d 58 11 ls st h Q := wp_ifne rfl rfl
theorem s58_7 : mm_wp d 58 7 ls st h Q ↔ mm_wp d 58 8 ls (.int (1 : Int32) :: st) h Q := wp_iconst rfl rfl
theorem s58_8 : mm_wp d 58 8 ls st h Q ↔ mm_wp d 58 12 ls st h Q := wp_goto rfl rfl
theorem s58_11 : mm_wp d 58 11 ls st h Q ↔ mm_wp d 58 12 ls (.int (0 : Int32) :: st) h Q := wp_iconst rfl rfl
theorem s58_12 : mm_wp d 58 12 [l0, l1, l2] (.int x :: st) h Q ↔ mm_wp d 58 13 [l0, l1, .int x] st h Q := wp_istore_n rfl rfl
theorem s58_13 : mm_wp d 58 13 [.ref a, l1, l2] st h Q ↔ mm_wp d 58 14 [.ref a, l1, l2] (.ref a :: st) h Q := wp_aloadR_n rfl rfl
theorem s58_14 : mm_wp d 58 14 ls (.ref a :: st) h Q ↔ mm_wp d 58 15 ls (.ref a :: .ref a :: st) h Q := wp_dupR rfl
theorem s58_15 : mm_wp d 58 15 ls (.ref a :: st) h Q ↔ (mm_s h a).1 = 4 ∧ mm_wp d 58 18 ls (.int (mm_i h a 1) :: st) h Q := wp_getI rfl rfl (by decide) (by decide)
theorem s58_18 : mm_wp d 58 18 [l0, .ref a, l2] st h Q ↔ mm_wp d 58 19 [l0, .ref a, l2] (.ref a :: st) h Q := wp_aloadR_n rfl rfl
theorem s58_18o : mm_wp d 58 18 [l0, mm_o o, l2] st h Q ↔ mm_wp d 58 19 [l0, mm_o o, l2] (mm_o o :: st) h Q := wp_aload_n rfl o rfl
theorem s58_18n : mm_wp d 58 18 [l0, .null, l2] st h Q ↔ mm_wp d 58 19 [l0, .null, l2] (.null :: st) h Q := wp_aload_n rfl none rfl
theorem s58_19 : mm_wp d 58 19 ls (.ref a :: st) h Q ↔ (mm_s h a).1 = 6 ∧ mm_wp d 58 22 ls (.int (mm_i h a 9) :: st) h Q := wp_getI rfl rfl (by decide) (by decide)
theorem s58_22 : mm_wp d 58 22 [l0, .ref a, l2] st h Q ↔ mm_wp d 58 23 [l0, .ref a, l2] (.ref a :: st) h Q := wp_aloadR_n rfl rfl
theorem s58_22o : mm_wp d 58 22 [l0, mm_o o, l2] st h Q ↔ mm_wp d 58 23 [l0, mm_o o, l2] (mm_o o :: st) h Q := wp_aload_n rfl o rfl
theorem s58_22n : mm_wp d 58 22 [l0, .null, l2] st h Q ↔ mm_wp d 58 23 [l0, .null, l2] (.null :: st) h Q := wp_aload_n rfl none rfl
theorem s58_23 : mm_wp d 58 23 ls (.ref a :: st) h Q ↔ (mm_s h a).1 = 6 ∧ mm_wp d 58 26 ls (.int (mm_i h a 11) :: st) h Q := wp_getI rfl rfl (by decide) (by decide)
theorem s58_26 : mm_wp d 58 26 ls (.int x2 :: .int x :: st) h Q ↔ mm_wp d 58 27 ls (.int (x * x2) :: st) h Q := wp_imul rfl
theorem s58_27 : mm_wp d 58 27 ls (.int x2 :: .int x :: st) h Q ↔ mm_wp d 58 28 ls (.int (x + x2) :: st) h Q := wp_iadd rfl
theorem s58_28 : mm_wp d 58 28 ls (.int x :: .ref a :: st) h Q ↔ (mm_s h a).1 = 4 ∧ mm_wp d 58 31 ls st (mm_pi h a 1 x) Q := wp_putI rfl rfl
theorem s58_31 : mm_wp d 58 31 [.ref a, l1, l2] st h Q ↔ mm_wp d 58 32 [.ref a, l1, l2] (.ref a :: st) h Q := wp_aloadR_n rfl rfl
theorem s58_32 : mm_wp d 58 32 [l0, l1, .int x] st h Q ↔ mm_wp d 58 33 [l0, l1, .int x] (.int x :: st) h Q := wp_iload_n rfl rfl
theorem s58_33 : mm_wp d 58 33 ls (.int x :: st) h Q ↔ if x = 0 then mm_wp d 58 43 ls st h Q else mm_wp d 58 36 ls st h Q := wp_ifeq rfl rfl
theorem s58_36 : mm_wp d 58 36 [l0, .ref a, l2] st h Q ↔ mm_wp d 58 37 [l0, .ref a, l2] (.ref a :: st) h Q := wp_aloadR_n rfl rfl
theorem s58_36o : mm_wp d 58 36 [l0, mm_o o, l2] st h Q ↔ mm_wp d 58 37 [l0, mm_o o, l2] (mm_o o :: st) h Q := wp_aload_n rfl o rfl
theorem s58_36n : mm_wp d 58 36 [l0, .null, l2] st h Q ↔ mm_wp d 58 37 [l0, .null, l2] (.null :: st) h Q := wp_aload_n rfl none rfl
theorem s58_37 : mm_wp d 58 37 ls (.ref a :: st) h Q ↔ (mm_s h a).1 = 6 ∧ mm_wp d 58 40 ls (.int (mm_i h a 3) :: st) h Q := wp_getI rfl rfl (by decide) (by decide)
theorem s58_40 : mm_wp d 58 40 ls st h Q ↔ mm_wp d 58 54 ls st h Q := wp_goto rfl rfl
theorem s58_43 : mm_wp d 58 43 [.ref a, l1, l2] st h Q ↔ mm_wp d 58 44 [.ref a, l1, l2] (.ref a :: st) h Q := wp_aloadR_n rfl rfl
theorem s58_44 : mm_wp d 58 44 ls (.ref a :: st) h Q ↔ (mm_s h a).1 = 4 ∧ mm_wp d 58 47 ls (.int (mm_i h a 2) :: st) h Q := wp_getI rfl rfl (by decide) (by decide)
theorem s58_47 : mm_wp d 58 47 [l0, .ref a, l2] st h Q ↔ mm_wp d 58 48 [l0, .ref a, l2] (.ref a :: st) h Q := wp_aloadR_n rfl rfl
theorem s58_47o : mm_wp d 58 47 [l0, mm_o o, l2] st h Q ↔ mm_wp d 58 48 [l0, mm_o o, l2] (mm_o o :: st) h Q := wp_aload_n rfl o rfl
theorem s58_47n : mm_wp d 58 47 [l0, .null, l2] st h Q ↔ mm_wp d 58 48 [l0, .null, l2] (.null :: st) h Q := wp_aload_n rfl none rfl
theorem s58_48 : mm_wp d 58 48 ls (.ref a :: st) h Q ↔ (mm_s h a).1 = 6 ∧ mm_wp d 58 51 ls (.int (mm_i h a 3) :: st) h Q := wp_getI rfl rfl (by decide) (by decide)
theorem s58_51 : mm_wp (d + 1) 58 51 ls [.int x2, .int x, t0] h Q ↔ mm_wp d 3 0 [.int x, .int x2] [] h (mm_bk (d + 1) 58 51 ls [t0] Q) := wp_static rfl rfl ⟨by decide, rfl⟩ ⟨Nat.le_of_ble_eq_true rfl, Nat.le_of_ble_eq_true rfl⟩ rfl rfl rfl rfl
theorem s58_54 : mm_wp d 58 54 ls (.int x :: .ref a :: st) h Q ↔ (mm_s h a).1 = 4 ∧ mm_wp d 58 57 ls st (mm_pi h a 2 x) Q := wp_putI rfl rfl
theorem s58_57 : mm_wp d 58 57 [.ref a, l1, l2] st h Q ↔ mm_wp d 58 58 [.ref a, l1, l2] (.ref a :: st) h Q := wp_aloadR_n rfl rfl
theorem s58_58 : mm_wp d 58 58 [l0, l1, .int x] st h Q ↔ mm_wp d 58 59 [l0, l1, .int x] (.int x :: st) h Q := wp_iload_n rfl rfl
theorem s58_59 : mm_wp d 58 59 ls (.int x :: st) h Q ↔ if x = 0 then mm_wp d 58 69 ls st h Q else mm_wp d 58 62 ls st h Q := wp_ifeq rfl rfl
theorem s58_62 : mm_wp d 58 62 [l0, .ref a, l2] st h Q ↔ mm_wp d 58 63 [l0, .ref a, l2] (.ref a :: st) h Q := wp_aloadR_n rfl rfl
theorem s58_62o : mm_wp d 58 62 [l0, mm_o o, l2] st h Q ↔ mm_wp d 58 63 [l0, mm_o o, l2] (mm_o o :: st) h Q := wp_aload_n rfl o rfl
theorem s58_62n : mm_wp d 58 62 [l0, .null, l2] st h Q ↔ mm_wp d 58 63 [l0, .null, l2] (.null :: st) h Q := wp_aload_n rfl none rfl
theorem s58_63 : mm_wp d 58 63 ls (.ref a :: st) h Q ↔ (mm_s h a).1 = 6 ∧ mm_wp d 58 66 ls (.int (mm_i h a 6) :: st) h Q := wp_getI rfl rfl (by decide) (by decide)
theorem s58_66 : mm_wp d 58 66 ls st h Q ↔ mm_wp d 58 80 ls st h Q := wp_goto rfl rfl
theorem s58_69 : mm_wp d 58 69 [.ref a, l1, l2] st h Q ↔ mm_wp d 58 70 [.ref a, l1, l2] (.ref a :: st) h Q := wp_aloadR_n rfl rfl
theorem s58_70 : mm_wp d 58 70 ls (.ref a :: st) h Q ↔ (mm_s h a).1 = 4 ∧ mm_wp d 58 73 ls (.int (mm_i h a 3) :: st) h Q := wp_getI rfl rfl (by decide) (by decide)
theorem s58_73 : mm_wp d 58 73 [l0, .ref a, l2] st h Q ↔ mm_wp d 58 74 [l0, .ref a, l2] (.ref a :: st) h Q := wp_aloadR_n rfl rfl
theorem s58_73o : mm_wp d 58 73 [l0, mm_o o, l2] st h Q ↔ mm_wp d 58 74 [l0, mm_o o, l2] (mm_o o :: st) h Q := wp_aload_n rfl o rfl
theorem s58_73n : mm_wp d 58 73 [l0, .null, l2] st h Q ↔ mm_wp d 58 74 [l0, .null, l2] (.null :: st) h Q := wp_aload_n rfl none rfl
theorem s58_74 : mm_wp d 58 74 ls (.ref a :: st) h Q ↔ (mm_s h a).1 = 6 ∧ mm_wp d 58 77 ls (.int (mm_i h a 6) :: st) h Q := wp_getI rfl rfl (by decide) (by decide)
theorem s58_77 : mm_wp (d + 1) 58 77 ls [.int x2, .int x, t0] h Q ↔ mm_wp d 4 0 [.int x, .int x2] [] h (mm_bk (d + 1) 58 77 ls [t0] Q) := wp_static rfl rfl ⟨by decide, rfl⟩ ⟨Nat.le_of_ble_eq_true rfl, Nat.le_of_ble_eq_true rfl⟩ rfl rfl rfl rfl
theorem s58_80 : mm_wp d 58 80 ls (.int x :: .ref a :: st) h Q ↔ (mm_s h a).1 = 4 ∧ mm_wp d 58 83 ls st (mm_pi h a 3 x) Q := wp_putI rfl rfl
theorem s58_83 : mm_wp d 58 83 [.ref a, l1, l2] st h Q ↔ mm_wp d 58 84 [.ref a, l1, l2] (.ref a :: st) h Q := wp_aloadR_n rfl rfl
theorem s58_84 : mm_wp d 58 84 [l0, l1, .int x] st h Q ↔ mm_wp d 58 85 [l0, l1, .int x] (.int x :: st) h Q := wp_iload_n rfl rfl
theorem s58_85 : mm_wp d 58 85 ls (.int x :: st) h Q ↔ if x = 0 then mm_wp d 58 95 ls st h Q else mm_wp d 58 88 ls st h Q := wp_ifeq rfl rfl
theorem s58_88 : mm_wp d 58 88 [l0, .ref a, l2] st h Q ↔ mm_wp d 58 89 [l0, .ref a, l2] (.ref a :: st) h Q := wp_aloadR_n rfl rfl
theorem s58_88o : mm_wp d 58 88 [l0, mm_o o, l2] st h Q ↔ mm_wp d 58 89 [l0, mm_o o, l2] (mm_o o :: st) h Q := wp_aload_n rfl o rfl
theorem s58_88n : mm_wp d 58 88 [l0, .null, l2] st h Q ↔ mm_wp d 58 89 [l0, .null, l2] (.null :: st) h Q := wp_aload_n rfl none rfl
theorem s58_89 : mm_wp d 58 89 ls (.ref a :: st) h Q ↔ (mm_s h a).1 = 6 ∧ mm_wp d 58 92 ls (.int (mm_i h a 5) :: st) h Q := wp_getI rfl rfl (by decide) (by decide)
theorem s58_92 : mm_wp d 58 92 ls st h Q ↔ mm_wp d 58 106 ls st h Q := wp_goto rfl rfl
theorem s58_95 : mm_wp d 58 95 [.ref a, l1, l2] st h Q ↔ mm_wp d 58 96 [.ref a, l1, l2] (.ref a :: st) h Q := wp_aloadR_n rfl rfl
theorem s58_96 : mm_wp d 58 96 ls (.ref a :: st) h Q ↔ (mm_s h a).1 = 4 ∧ mm_wp d 58 99 ls (.int (mm_i h a 4) :: st) h Q := wp_getI rfl rfl (by decide) (by decide)
theorem s58_99 : mm_wp d 58 99 [l0, .ref a, l2] st h Q ↔ mm_wp d 58 100 [l0, .ref a, l2] (.ref a :: st) h Q := wp_aloadR_n rfl rfl
theorem s58_99o : mm_wp d 58 99 [l0, mm_o o, l2] st h Q ↔ mm_wp d 58 100 [l0, mm_o o, l2] (mm_o o :: st) h Q := wp_aload_n rfl o rfl
theorem s58_99n : mm_wp d 58 99 [l0, .null, l2] st h Q ↔ mm_wp d 58 100 [l0, .null, l2] (.null :: st) h Q := wp_aload_n rfl none rfl
theorem s58_100 : mm_wp d 58 100 ls (.ref a :: st) h Q ↔ (mm_s h a).1 = 6 ∧ mm_wp d 58 103 ls (.int (mm_i h a 5) :: st) h Q := wp_getI rfl rfl (by decide) (by decide)
theorem s58_103 : mm_wp (d + 1) 58 103 ls [.int x2, .int x, t0] h Q ↔ mm_wp d 3 0 [.int x, .int x2] [] h (mm_bk (d + 1) 58 103 ls [t0] Q) := wp_static rfl rfl ⟨by decide, rfl⟩ ⟨Nat.le_of_ble_eq_true rfl, Nat.le_of_ble_eq_true rfl⟩ rfl rfl rfl rfl
theorem s58_106 : mm_wp d 58 106 ls (.int x :: .ref a :: st) h Q ↔ (mm_s h a).1 = 4 ∧ mm_wp d 58 109 ls st (mm_pi h a 4 x) Q := wp_putI rfl rfl
theorem s58_109 : mm_wp d 58 109 [.ref a, l1, l2] st h Q ↔ mm_wp d 58 110 [.ref a, l1, l2] (.ref a :: st) h Q := wp_aloadR_n rfl rfl
theorem s58_110 : mm_wp d 58 110 [l0, l1, .int x] st h Q ↔ mm_wp d 58 111 [l0, l1, .int x] (.int x :: st) h Q := wp_iload_n rfl rfl
theorem s58_111 : mm_wp d 58 111 ls (.int x :: st) h Q ↔ if x = 0 then mm_wp d 58 121 ls st h Q else mm_wp d 58 114 ls st h Q := wp_ifeq rfl rfl
theorem s58_114 : mm_wp d 58 114 [l0, .ref a, l2] st h Q ↔ mm_wp d 58 115 [l0, .ref a, l2] (.ref a :: st) h Q := wp_aloadR_n rfl rfl
theorem s58_114o : mm_wp d 58 114 [l0, mm_o o, l2] st h Q ↔ mm_wp d 58 115 [l0, mm_o o, l2] (mm_o o :: st) h Q := wp_aload_n rfl o rfl
theorem s58_114n : mm_wp d 58 114 [l0, .null, l2] st h Q ↔ mm_wp d 58 115 [l0, .null, l2] (.null :: st) h Q := wp_aload_n rfl none rfl
theorem s58_115 : mm_wp d 58 115 ls (.ref a :: st) h Q ↔ (mm_s h a).1 = 6 ∧ mm_wp d 58 118 ls (.int (mm_i h a 8) :: st) h Q := wp_getI rfl rfl (by decide) (by decide)
theorem s58_118 : mm_wp d 58 118 ls st h Q ↔ mm_wp d 58 132 ls st h Q := wp_goto rfl rfl
theorem s58_121 : mm_wp d 58 121 [.ref a, l1, l2] st h Q ↔ mm_wp d 58 122 [.ref a, l1, l2] (.ref a :: st) h Q := wp_aloadR_n rfl rfl
theorem s58_122 : mm_wp d 58 122 ls (.ref a :: st) h Q ↔ (mm_s h a).1 = 4 ∧ mm_wp d 58 125 ls (.int (mm_i h a 5) :: st) h Q := wp_getI rfl rfl (by decide) (by decide)
theorem s58_125 : mm_wp d 58 125 [l0, .ref a, l2] st h Q ↔ mm_wp d 58 126 [l0, .ref a, l2] (.ref a :: st) h Q := wp_aloadR_n rfl rfl
theorem s58_125o : mm_wp d 58 125 [l0, mm_o o, l2] st h Q ↔ mm_wp d 58 126 [l0, mm_o o, l2] (mm_o o :: st) h Q := wp_aload_n rfl o rfl
theorem s58_125n : mm_wp d 58 125 [l0, .null, l2] st h Q ↔ mm_wp d 58 126 [l0, .null, l2] (.null :: st) h Q := wp_aload_n rfl none rfl
theorem s58_126 : mm_wp d 58 126 ls (.ref a :: st) h Q ↔ (mm_s h a).1 = 6 ∧ mm_wp d 58 129 ls (.int (mm_i h a 8) :: st) h Q := wp_getI rfl rfl (by decide) (by decide)
theorem s58_129 : mm_wp (d + 1) 58 129 ls [.int x2, .int x, t0] h Q ↔ mm_wp d 4 0 [.int x, .int x2] [] h (mm_bk (d + 1) 58 129 ls [t0] Q) := wp_static rfl rfl ⟨by decide, rfl⟩ ⟨Nat.le_of_ble_eq_true rfl, Nat.le_of_ble_eq_true rfl⟩ rfl rfl rfl rfl
theorem s58_132 : mm_wp d 58 132 ls (.int x :: .ref a :: st) h Q ↔ (mm_s h a).1 = 4 ∧ mm_wp d 58 135 ls st (mm_pi h a 5 x) Q := wp_putI rfl rfl
theorem s58_135 : mm_wp d 58 135 ls st h Q ↔ Q (.inl none) h := wp_vret rfl rfl
/-! 59: LoadRoom$Row.find(I)LLoadRoom$Placed; -/
theorem s59_0 : mm_wp d 59 0 ls st h Q ↔ mm_wp d 59 1 ls (.int (0 : Int32) :: st) h Q := wp_iconst rfl rfl
theorem s59_1 : mm_wp d 59 1 [l0, l1, l2] (.int x :: st) h Q ↔ mm_wp d 59 2 [l0, l1, .int x] st h Q := wp_istore_n rfl rfl
theorem s59_2 : mm_wp d 59 2 [l0, l1, .int x] st h Q ↔ mm_wp d 59 3 [l0, l1, .int x] (.int x :: st) h Q := wp_iload_n rfl rfl
theorem s59_3 : mm_wp d 59 3 [.ref a, l1, l2] st h Q ↔ mm_wp d 59 4 [.ref a, l1, l2] (.ref a :: st) h Q := wp_aloadR_n rfl rfl
theorem s59_4 : mm_wp d 59 4 ls (.ref a :: st) h Q ↔ (mm_s h a).1 = 7 ∧ mm_wp d 59 7 ls (.int (mm_i h a 1) :: st) h Q := wp_getI rfl rfl (by decide) (by decide)
theorem s59_7 : mm_wp d 59 7 ls (.int x2 :: .int x :: st) h Q ↔ if x2 ≤ x then mm_wp d 59 36 ls st h Q else mm_wp d 59 10 ls st h Q := wp_icmpge rfl rfl
theorem s59_10 : mm_wp d 59 10 [.ref a, l1, l2] st h Q ↔ mm_wp d 59 11 [.ref a, l1, l2] (.ref a :: st) h Q := wp_aloadR_n rfl rfl
theorem s59_11 : mm_wp d 59 11 ls (.ref a :: st) h Q ↔ (mm_s h a).1 = 7 ∧ mm_wp d 59 14 ls (mm_o (mm_r h a 0) :: st) h Q := wp_getR rfl rfl
theorem s59_14 : mm_wp d 59 14 [l0, l1, .int x] st h Q ↔ mm_wp d 59 15 [l0, l1, .int x] (.int x :: st) h Q := wp_iload_n rfl rfl
theorem s59_15 : mm_wp d 59 15 ls (.int x :: .ref a :: st) h Q ↔ (23 ≤ (mm_s h a).1 ∧ (mm_s h a).1 ≤ 26 ∧ mm_in x (mm_s h a).2 = true) ∧ mm_wp d 59 16 ls (mm_o (mm_r h a x.toNatClampNeg) :: st) h Q := wp_aaload rfl
theorem s59_16 : mm_wp d 59 16 ls (.ref a :: st) h Q ↔ (mm_s h a).1 = 6 ∧ mm_wp d 59 19 ls (.int (mm_i h a 1) :: st) h Q := wp_getI rfl rfl (by decide) (by decide)
theorem s59_19 : mm_wp d 59 19 [l0, .int x, l2] st h Q ↔ mm_wp d 59 20 [l0, .int x, l2] (.int x :: st) h Q := wp_iload_n rfl rfl
theorem s59_20 : mm_wp d 59 20 ls (.int x2 :: .int x :: st) h Q ↔ if x = x2 then mm_wp d 59 23 ls st h Q else mm_wp d 59 30 ls st h Q := wp_icmpne rfl rfl
theorem s59_23 : mm_wp d 59 23 [.ref a, l1, l2] st h Q ↔ mm_wp d 59 24 [.ref a, l1, l2] (.ref a :: st) h Q := wp_aloadR_n rfl rfl
theorem s59_24 : mm_wp d 59 24 ls (.ref a :: st) h Q ↔ (mm_s h a).1 = 7 ∧ mm_wp d 59 27 ls (mm_o (mm_r h a 0) :: st) h Q := wp_getR rfl rfl
theorem s59_27 : mm_wp d 59 27 [l0, l1, .int x] st h Q ↔ mm_wp d 59 28 [l0, l1, .int x] (.int x :: st) h Q := wp_iload_n rfl rfl
theorem s59_28 : mm_wp d 59 28 ls (.int x :: .ref a :: st) h Q ↔ (23 ≤ (mm_s h a).1 ∧ (mm_s h a).1 ≤ 26 ∧ mm_in x (mm_s h a).2 = true) ∧ mm_wp d 59 29 ls (mm_o (mm_r h a x.toNatClampNeg) :: st) h Q := wp_aaload rfl
theorem s59_29 : mm_wp d 59 29 ls (.ref a :: st) h Q ↔ Q (.inl (some (.ref a))) h := wp_aret rfl rfl (some a)
theorem s59_29o : mm_wp d 59 29 ls (mm_o o :: st) h Q ↔ Q (.inl (some (mm_o o))) h := wp_aret rfl rfl o
theorem s59_29n : mm_wp d 59 29 ls (.null :: st) h Q ↔ Q (.inl (some .null)) h := wp_aret rfl rfl none
theorem s59_30 : mm_wp d 59 30 [l0, l1, .int x] st h Q ↔ mm_wp d 59 33 [l0, l1, .int (x + (1 : Int32))] st h Q := wp_iinc rfl rfl rfl rfl
theorem s59_33 : mm_wp d 59 33 ls st h Q ↔ mm_wp d 59 2 ls st h Q := wp_goto rfl rfl
theorem s59_36 : mm_wp d 59 36 ls st h Q ↔ mm_wp d 59 37 ls (.null :: st) h Q := wp_anull rfl
theorem s59_37 : mm_wp d 59 37 ls (.ref a :: st) h Q ↔ Q (.inl (some (.ref a))) h := wp_aret rfl rfl (some a)
theorem s59_37o : mm_wp d 59 37 ls (mm_o o :: st) h Q ↔ Q (.inl (some (mm_o o))) h := wp_aret rfl rfl o
theorem s59_37n : mm_wp d 59 37 ls (.null :: st) h Q ↔ Q (.inl (some .null)) h := wp_aret rfl rfl none
/-! 60: LoadRoom$Placed.take(ILLoadRoom$Piece;I)V -/
theorem s60_0 : mm_wp d 60 0 [.ref a, l1, l2, l3] st h Q ↔ mm_wp d 60 1 [.ref a, l1, l2, l3] (.ref a :: st) h Q := wp_aloadR_n rfl rfl
theorem s60_1 : mm_wp d 60 1 [l0, .int x, l2, l3] st h Q ↔ mm_wp d 60 2 [l0, .int x, l2, l3] (.int x :: st) h Q := wp_iload_n rfl rfl
theorem s60_2 : mm_wp d 60 2 ls (.int x :: .ref a :: st) h Q ↔ (mm_s h a).1 = 6 ∧ mm_wp d 60 5 ls st (mm_pi h a 1 x) Q := wp_putI rfl rfl
theorem s60_5 : mm_wp d 60 5 [.ref a, l1, l2, l3] st h Q ↔ mm_wp d 60 6 [.ref a, l1, l2, l3] (.ref a :: st) h Q := wp_aloadR_n rfl rfl
theorem s60_6 : mm_wp d 60 6 [l0, l1, l2, .int x] st h Q ↔ mm_wp d 60 7 [l0, l1, l2, .int x] (.int x :: st) h Q := wp_iload_n rfl rfl
theorem s60_7 : mm_wp d 60 7 ls (.int x :: .ref a :: st) h Q ↔ (mm_s h a).1 = 6 ∧ mm_wp d 60 10 ls st (mm_pi h a 2 x) Q := wp_putI rfl rfl
theorem s60_10 : mm_wp d 60 10 [.ref a, l1, l2, l3] st h Q ↔ mm_wp d 60 11 [.ref a, l1, l2, l3] (.ref a :: st) h Q := wp_aloadR_n rfl rfl
theorem s60_11 : mm_wp d 60 11 [l0, l1, .ref a, l3] st h Q ↔ mm_wp d 60 12 [l0, l1, .ref a, l3] (.ref a :: st) h Q := wp_aloadR_n rfl rfl
theorem s60_11o : mm_wp d 60 11 [l0, l1, mm_o o, l3] st h Q ↔ mm_wp d 60 12 [l0, l1, mm_o o, l3] (mm_o o :: st) h Q := wp_aload_n rfl o rfl
theorem s60_11n : mm_wp d 60 11 [l0, l1, .null, l3] st h Q ↔ mm_wp d 60 12 [l0, l1, .null, l3] (.null :: st) h Q := wp_aload_n rfl none rfl
theorem s60_12 : mm_wp d 60 12 [l0, l1, l2, .int x] st h Q ↔ mm_wp d 60 13 [l0, l1, l2, .int x] (.int x :: st) h Q := wp_iload_n rfl rfl
theorem s60_13 : mm_wp (d + 1) 60 13 ls [.int x2, .ref a, t0] h Q ↔ (mm_s h a).1 = 5 ∧ mm_wp d 35 0 [.ref a, .int x2] [] h (mm_bk (d + 1) 60 13 ls [t0] Q) := wp_virtual rfl rfl ⟨by decide, rfl⟩ ⟨Nat.le_of_ble_eq_true rfl, Nat.le_of_ble_eq_true rfl⟩ rfl rfl rfl rfl rfl rfl
theorem s60_16 : mm_wp d 60 16 ls (.int x :: .ref a :: st) h Q ↔ (mm_s h a).1 = 6 ∧ mm_wp d 60 19 ls st (mm_pi h a 9 x) Q := wp_putI rfl rfl
theorem s60_19 : mm_wp d 60 19 [.ref a, l1, l2, l3] st h Q ↔ mm_wp d 60 20 [.ref a, l1, l2, l3] (.ref a :: st) h Q := wp_aloadR_n rfl rfl
theorem s60_20 : mm_wp d 60 20 [l0, l1, .ref a, l3] st h Q ↔ mm_wp d 60 21 [l0, l1, .ref a, l3] (.ref a :: st) h Q := wp_aloadR_n rfl rfl
theorem s60_20o : mm_wp d 60 20 [l0, l1, mm_o o, l3] st h Q ↔ mm_wp d 60 21 [l0, l1, mm_o o, l3] (mm_o o :: st) h Q := wp_aload_n rfl o rfl
theorem s60_20n : mm_wp d 60 20 [l0, l1, .null, l3] st h Q ↔ mm_wp d 60 21 [l0, l1, .null, l3] (.null :: st) h Q := wp_aload_n rfl none rfl
theorem s60_21 : mm_wp d 60 21 [l0, l1, l2, .int x] st h Q ↔ mm_wp d 60 22 [l0, l1, l2, .int x] (.int x :: st) h Q := wp_iload_n rfl rfl
theorem s60_22 : mm_wp (d + 1) 60 22 ls [.int x2, .ref a, t0] h Q ↔ (mm_s h a).1 = 5 ∧ mm_wp d 36 0 [.ref a, .int x2] [] h (mm_bk (d + 1) 60 22 ls [t0] Q) := wp_virtual rfl rfl ⟨by decide, rfl⟩ ⟨Nat.le_of_ble_eq_true rfl, Nat.le_of_ble_eq_true rfl⟩ rfl rfl rfl rfl rfl rfl
theorem s60_25 : mm_wp d 60 25 ls (.int x :: .ref a :: st) h Q ↔ (mm_s h a).1 = 6 ∧ mm_wp d 60 28 ls st (mm_pi h a 10 x) Q := wp_putI rfl rfl
theorem s60_28 : mm_wp d 60 28 [.ref a, l1, l2, l3] st h Q ↔ mm_wp d 60 29 [.ref a, l1, l2, l3] (.ref a :: st) h Q := wp_aloadR_n rfl rfl
theorem s60_29 : mm_wp d 60 29 [l0, l1, .ref a, l3] st h Q ↔ mm_wp d 60 30 [l0, l1, .ref a, l3] (.ref a :: st) h Q := wp_aloadR_n rfl rfl
theorem s60_29o : mm_wp d 60 29 [l0, l1, mm_o o, l3] st h Q ↔ mm_wp d 60 30 [l0, l1, mm_o o, l3] (mm_o o :: st) h Q := wp_aload_n rfl o rfl
theorem s60_29n : mm_wp d 60 29 [l0, l1, .null, l3] st h Q ↔ mm_wp d 60 30 [l0, l1, .null, l3] (.null :: st) h Q := wp_aload_n rfl none rfl
theorem s60_30 : mm_wp d 60 30 [l0, l1, l2, .int x] st h Q ↔ mm_wp d 60 31 [l0, l1, l2, .int x] (.int x :: st) h Q := wp_iload_n rfl rfl
theorem s60_31 : mm_wp (d + 1) 60 31 ls [.int x2, .ref a, t0] h Q ↔ (mm_s h a).1 = 5 ∧ mm_wp d 37 0 [.ref a, .int x2] [] h (mm_bk (d + 1) 60 31 ls [t0] Q) := wp_virtual rfl rfl ⟨by decide, rfl⟩ ⟨Nat.le_of_ble_eq_true rfl, Nat.le_of_ble_eq_true rfl⟩ rfl rfl rfl rfl rfl rfl
theorem s60_34 : mm_wp d 60 34 ls (.int x :: .ref a :: st) h Q ↔ (mm_s h a).1 = 6 ∧ mm_wp d 60 37 ls st (mm_pi h a 11 x) Q := wp_putI rfl rfl
theorem s60_37 : mm_wp d 60 37 [.ref a, l1, l2, l3] st h Q ↔ mm_wp d 60 38 [.ref a, l1, l2, l3] (.ref a :: st) h Q := wp_aloadR_n rfl rfl
theorem s60_38 : mm_wp d 60 38 [l0, l1, .ref a, l3] st h Q ↔ mm_wp d 60 39 [l0, l1, .ref a, l3] (.ref a :: st) h Q := wp_aloadR_n rfl rfl
theorem s60_38o : mm_wp d 60 38 [l0, l1, mm_o o, l3] st h Q ↔ mm_wp d 60 39 [l0, l1, mm_o o, l3] (mm_o o :: st) h Q := wp_aload_n rfl o rfl
theorem s60_38n : mm_wp d 60 38 [l0, l1, .null, l3] st h Q ↔ mm_wp d 60 39 [l0, l1, .null, l3] (.null :: st) h Q := wp_aload_n rfl none rfl
theorem s60_39 : mm_wp d 60 39 ls (.ref a :: st) h Q ↔ (mm_s h a).1 = 5 ∧ mm_wp d 60 42 ls (.int (mm_i h a 6) :: st) h Q := wp_getI rfl rfl (by decide) (by decide)
theorem s60_42 : mm_wp d 60 42 ls (.int x :: .ref a :: st) h Q ↔ (mm_s h a).1 = 6 ∧ mm_wp d 60 45 ls st (mm_pi h a 12 x) Q := wp_putI rfl rfl
theorem s60_45 : mm_wp d 60 45 [.ref a, l1, l2, l3] st h Q ↔ mm_wp d 60 46 [.ref a, l1, l2, l3] (.ref a :: st) h Q := wp_aloadR_n rfl rfl
theorem s60_46 : mm_wp d 60 46 [l0, l1, .ref a, l3] st h Q ↔ mm_wp d 60 47 [l0, l1, .ref a, l3] (.ref a :: st) h Q := wp_aloadR_n rfl rfl
theorem s60_46o : mm_wp d 60 46 [l0, l1, mm_o o, l3] st h Q ↔ mm_wp d 60 47 [l0, l1, mm_o o, l3] (mm_o o :: st) h Q := wp_aload_n rfl o rfl
theorem s60_46n : mm_wp d 60 46 [l0, l1, .null, l3] st h Q ↔ mm_wp d 60 47 [l0, l1, .null, l3] (.null :: st) h Q := wp_aload_n rfl none rfl
theorem s60_47 : mm_wp d 60 47 ls (.ref a :: st) h Q ↔ (mm_s h a).1 = 5 ∧ mm_wp d 60 50 ls (.int (mm_i h a 8) :: st) h Q := wp_getI rfl rfl (by decide) (by decide)
theorem s60_50 : mm_wp d 60 50 ls (.int x :: .ref a :: st) h Q ↔ (mm_s h a).1 = 6 ∧ mm_wp d 60 53 ls st (mm_pi h a 13 x) Q := wp_putI rfl rfl
theorem s60_53 : mm_wp d 60 53 [.ref a, l1, l2, l3] st h Q ↔ mm_wp d 60 54 [.ref a, l1, l2, l3] (.ref a :: st) h Q := wp_aloadR_n rfl rfl
theorem s60_54 : mm_wp d 60 54 [l0, l1, .ref a, l3] st h Q ↔ mm_wp d 60 55 [l0, l1, .ref a, l3] (.ref a :: st) h Q := wp_aloadR_n rfl rfl
theorem s60_54o : mm_wp d 60 54 [l0, l1, mm_o o, l3] st h Q ↔ mm_wp d 60 55 [l0, l1, mm_o o, l3] (mm_o o :: st) h Q := wp_aload_n rfl o rfl
theorem s60_54n : mm_wp d 60 54 [l0, l1, .null, l3] st h Q ↔ mm_wp d 60 55 [l0, l1, .null, l3] (.null :: st) h Q := wp_aload_n rfl none rfl
theorem s60_55 : mm_wp d 60 55 ls (.ref a :: st) h Q ↔ (mm_s h a).1 = 5 ∧ mm_wp d 60 58 ls (.int (mm_i h a 9) :: st) h Q := wp_getI rfl rfl (by decide) (by decide)
theorem s60_58 : mm_wp d 60 58 ls (.int x :: .ref a :: st) h Q ↔ (mm_s h a).1 = 6 ∧ mm_wp d 60 61 ls st (mm_pi h a 14 x) Q := wp_putI rfl rfl
theorem s60_61 : mm_wp d 60 61 [.ref a, l1, l2, l3] st h Q ↔ mm_wp d 60 62 [.ref a, l1, l2, l3] (.ref a :: st) h Q := wp_aloadR_n rfl rfl
theorem s60_62 : mm_wp d 60 62 ls st h Q ↔ mm_wp d 60 63 ls (.int (0 : Int32) :: st) h Q := wp_iconst rfl rfl
theorem s60_63 : mm_wp d 60 63 ls (.int x :: .ref a :: st) h Q ↔ (mm_s h a).1 = 6 ∧ mm_wp d 60 66 ls st (mm_pi h a 15 x) Q := wp_putI rfl rfl
theorem s60_66 : mm_wp d 60 66 ls st h Q ↔ Q (.inl none) h := wp_vret rfl rfl
/-! 61: LoadRoom$Search.tryFloors(LLoadRoom$Placed;)V -/
theorem s61_0 : mm_wp d 61 0 [.ref a, l1, l2, l3, l4] st h Q ↔ mm_wp d 61 1 [.ref a, l1, l2, l3, l4] (.ref a :: st) h Q := wp_aloadR_n rfl rfl
theorem s61_1 : mm_wp d 61 1 ls (.ref a :: st) h Q ↔ (mm_s h a).1 = 8 ∧ mm_wp d 61 4 ls (mm_o (mm_r h a 5) :: st) h Q := wp_getR rfl rfl
theorem s61_4 : mm_wp d 61 4 [l0, .ref a, l2, l3, l4] st h Q ↔ mm_wp d 61 5 [l0, .ref a, l2, l3, l4] (.ref a :: st) h Q := wp_aloadR_n rfl rfl
theorem s61_4o : mm_wp d 61 4 [l0, mm_o o, l2, l3, l4] st h Q ↔ mm_wp d 61 5 [l0, mm_o o, l2, l3, l4] (mm_o o :: st) h Q := wp_aload_n rfl o rfl
theorem s61_4n : mm_wp d 61 4 [l0, .null, l2, l3, l4] st h Q ↔ mm_wp d 61 5 [l0, .null, l2, l3, l4] (.null :: st) h Q := wp_aload_n rfl none rfl
theorem s61_5 : mm_wp d 61 5 ls (.ref a :: st) h Q ↔ (mm_s h a).1 = 6 ∧ mm_wp d 61 8 ls (.int (mm_i h a 0) :: st) h Q := wp_getI rfl rfl (by decide) (by decide)
theorem s61_8 : mm_wp (d + 1) 61 8 ls [.int x2, .ref a] h Q ↔ (mm_s h a).1 = 3 ∧ mm_wp d 55 0 [.ref a, .int x2] [] h (mm_bk (d + 1) 61 8 ls [] Q) := wp_virtual rfl rfl ⟨by decide, rfl⟩ ⟨Nat.le_of_ble_eq_true rfl, Nat.le_of_ble_eq_true rfl⟩ rfl rfl rfl rfl rfl rfl
theorem s61_11 : mm_wp d 61 11 [l0, l1, l2, l3, l4] (.int x :: st) h Q ↔ mm_wp d 61 12 [l0, l1, .int x, l3, l4] st h Q := wp_istore_n rfl rfl
theorem s61_12 : mm_wp d 61 12 ls st h Q ↔ mm_wp d 61 13 ls (.int (0 : Int32) :: st) h Q := wp_iconst rfl rfl
theorem s61_13 : mm_wp d 61 13 [l0, l1, l2, l3, l4] (.int x :: st) h Q ↔ mm_wp d 61 14 [l0, l1, l2, .int x, l4] st h Q := wp_istore_n rfl rfl
theorem s61_14 : mm_wp d 61 14 [l0, l1, l2, .int x, l4] st h Q ↔ mm_wp d 61 15 [l0, l1, l2, .int x, l4] (.int x :: st) h Q := wp_iload_n rfl rfl
theorem s61_15 : mm_wp d 61 15 [l0, l1, .int x, l3, l4] st h Q ↔ mm_wp d 61 16 [l0, l1, .int x, l3, l4] (.int x :: st) h Q := wp_iload_n rfl rfl
theorem s61_16 : mm_wp d 61 16 ls (.int x2 :: .int x :: st) h Q ↔ if x2 ≤ x then mm_wp d 61 109 ls st h Q else mm_wp d 61 19 ls st h Q := wp_icmpge rfl rfl
theorem s61_19 : mm_wp d 61 19 [.ref a, l1, l2, l3, l4] st h Q ↔ mm_wp d 61 20 [.ref a, l1, l2, l3, l4] (.ref a :: st) h Q := wp_aloadR_n rfl rfl
theorem s61_20 : mm_wp d 61 20 ls (.ref a :: st) h Q ↔ (mm_s h a).1 = 8 ∧ mm_wp d 61 23 ls (.int (mm_i h a 10) :: st) h Q := wp_getI rfl rfl (by decide) (by decide)
theorem s61_23 : mm_wp d 61 23 ls (.int x :: st) h Q ↔ if x = 0 then mm_wp d 61 26 ls st h Q else mm_wp d 61 109 ls st h Q := wp_ifne rfl rfl
theorem s61_26 : mm_wp d 61 26 [.ref a, l1, l2, l3, l4] st h Q ↔ mm_wp d 61 27 [.ref a, l1, l2, l3, l4] (.ref a :: st) h Q := wp_aloadR_n rfl rfl
theorem s61_27 : mm_wp d 61 27 ls (.ref a :: st) h Q ↔ (mm_s h a).1 = 8 ∧ mm_wp d 61 30 ls (mm_o (mm_r h a 7) :: st) h Q := wp_getR rfl rfl
theorem s61_30 : mm_wp d 61 30 [l0, .ref a, l2, l3, l4] st h Q ↔ mm_wp d 61 31 [l0, .ref a, l2, l3, l4] (.ref a :: st) h Q := wp_aloadR_n rfl rfl
theorem s61_30o : mm_wp d 61 30 [l0, mm_o o, l2, l3, l4] st h Q ↔ mm_wp d 61 31 [l0, mm_o o, l2, l3, l4] (mm_o o :: st) h Q := wp_aload_n rfl o rfl
theorem s61_30n : mm_wp d 61 30 [l0, .null, l2, l3, l4] st h Q ↔ mm_wp d 61 31 [l0, .null, l2, l3, l4] (.null :: st) h Q := wp_aload_n rfl none rfl
theorem s61_31 : mm_wp d 61 31 ls (.ref a :: st) h Q ↔ (mm_s h a).1 = 6 ∧ mm_wp d 61 34 ls (.int (mm_i h a 0) :: st) h Q := wp_getI rfl rfl (by decide) (by decide)
theorem s61_34 : mm_wp d 61 34 ls st h Q ↔ mm_wp d 61 36 ls (.int (8 : Int32) :: st) h Q := wp_bipush rfl rfl
theorem s61_36 : mm_wp d 61 36 ls (.int x2 :: .int x :: st) h Q ↔ mm_wp d 61 37 ls (.int (x * x2) :: st) h Q := wp_imul rfl
theorem s61_37 : mm_wp d 61 37 [l0, l1, l2, .int x, l4] st h Q ↔ mm_wp d 61 38 [l0, l1, l2, .int x, l4] (.int x :: st) h Q := wp_iload_n rfl rfl
theorem s61_38 : mm_wp d 61 38 ls (.int x2 :: .int x :: st) h Q ↔ mm_wp d 61 39 ls (.int (x + x2) :: st) h Q := wp_iadd rfl
theorem s61_39 : mm_wp d 61 39 ls (.int x :: .ref a :: st) h Q ↔ (23 ≤ (mm_s h a).1 ∧ (mm_s h a).1 ≤ 26 ∧ mm_in x (mm_s h a).2 = true) ∧ mm_wp d 61 40 ls (mm_o (mm_r h a x.toNatClampNeg) :: st) h Q := wp_aaload rfl
theorem s61_40 : mm_wp d 61 40 [l0, l1, l2, l3, l4] (.ref a :: st) h Q ↔ mm_wp d 61 42 [l0, l1, l2, l3, .ref a] st h Q := wp_astoreR rfl rfl
theorem s61_40o : mm_wp d 61 40 [l0, l1, l2, l3, l4] (mm_o o :: st) h Q ↔ mm_wp d 61 42 [l0, l1, l2, l3, mm_o o] st h Q := wp_astore rfl o rfl
theorem s61_40n : mm_wp d 61 40 [l0, l1, l2, l3, l4] (.null :: st) h Q ↔ mm_wp d 61 42 [l0, l1, l2, l3, .null] st h Q := wp_astore rfl none rfl
theorem s61_42 : mm_wp d 61 42 [l0, .ref a, l2, l3, l4] st h Q ↔ mm_wp d 61 43 [l0, .ref a, l2, l3, l4] (.ref a :: st) h Q := wp_aloadR_n rfl rfl
theorem s61_42o : mm_wp d 61 42 [l0, mm_o o, l2, l3, l4] st h Q ↔ mm_wp d 61 43 [l0, mm_o o, l2, l3, l4] (mm_o o :: st) h Q := wp_aload_n rfl o rfl
theorem s61_42n : mm_wp d 61 42 [l0, .null, l2, l3, l4] st h Q ↔ mm_wp d 61 43 [l0, .null, l2, l3, l4] (.null :: st) h Q := wp_aload_n rfl none rfl
theorem s61_43 : mm_wp d 61 43 [l0, l1, l2, l3, .ref a] st h Q ↔ mm_wp d 61 45 [l0, l1, l2, l3, .ref a] (.ref a :: st) h Q := wp_aloadR rfl rfl
theorem s61_43o : mm_wp d 61 43 [l0, l1, l2, l3, mm_o o] st h Q ↔ mm_wp d 61 45 [l0, l1, l2, l3, mm_o o] (mm_o o :: st) h Q := wp_aload rfl o rfl
theorem s61_43n : mm_wp d 61 43 [l0, l1, l2, l3, .null] st h Q ↔ mm_wp d 61 45 [l0, l1, l2, l3, .null] (.null :: st) h Q := wp_aload rfl none rfl
theorem s61_45 : mm_wp d 61 45 ls (.ref a :: st) h Q ↔ (mm_s h a).1 = 4 ∧ mm_wp d 61 48 ls (.int (mm_i h a 0) :: st) h Q := wp_getI rfl rfl (by decide) (by decide)
theorem s61_48 : mm_wp (d + 1) 61 48 ls [.int x2, .ref a] h Q ↔ (mm_s h a).1 = 6 ∧ mm_wp d 62 0 [.ref a, .int x2] [] h (mm_bk (d + 1) 61 48 ls [] Q) := wp_virtual rfl rfl ⟨by decide, rfl⟩ ⟨Nat.le_of_ble_eq_true rfl, Nat.le_of_ble_eq_true rfl⟩ rfl rfl rfl rfl rfl rfl
theorem s61_51 : mm_wp d 61 51 [l0, .ref a, l2, l3, l4] st h Q ↔ mm_wp d 61 52 [l0, .ref a, l2, l3, l4] (.ref a :: st) h Q := wp_aloadR_n rfl rfl
theorem s61_51o : mm_wp d 61 51 [l0, mm_o o, l2, l3, l4] st h Q ↔ mm_wp d 61 52 [l0, mm_o o, l2, l3, l4] (mm_o o :: st) h Q := wp_aload_n rfl o rfl
theorem s61_51n : mm_wp d 61 51 [l0, .null, l2, l3, l4] st h Q ↔ mm_wp d 61 52 [l0, .null, l2, l3, l4] (.null :: st) h Q := wp_aload_n rfl none rfl
theorem s61_52 : mm_wp d 61 52 ls (.ref a :: st) h Q ↔ (mm_s h a).1 = 6 ∧ mm_wp d 61 55 ls (.int (mm_i h a 4) :: st) h Q := wp_getI rfl rfl (by decide) (by decide)
theorem s61_55 : mm_wp d 61 55 [.ref a, l1, l2, l3, l4] st h Q ↔ mm_wp d 61 56 [.ref a, l1, l2, l3, l4] (.ref a :: st) h Q := wp_aloadR_n rfl rfl
theorem s61_56 : mm_wp d 61 56 ls (.ref a :: st) h Q ↔ (mm_s h a).1 = 8 ∧ mm_wp d 61 59 ls (mm_o (mm_r h a 2) :: st) h Q := wp_getR rfl rfl
theorem s61_59 : mm_wp (d + 1) 61 59 ls [.ref a, t0] h Q ↔ (mm_s h a).1 = 7 ∧ mm_wp d 63 0 [.ref a] [] h (mm_bk (d + 1) 61 59 ls [t0] Q) := wp_virtual rfl rfl ⟨by decide, rfl⟩ ⟨Nat.le_of_ble_eq_true rfl, Nat.le_of_ble_eq_true rfl⟩ rfl rfl rfl rfl rfl rfl
theorem s61_62 : mm_wp d 61 62 ls (.int x2 :: .int x :: st) h Q ↔ if x < x2 then mm_wp d 61 103 ls st h Q else mm_wp d 61 65 ls st h Q := wp_icmplt rfl rfl
theorem s61_65 : mm_wp d 61 65 [l0, .ref a, l2, l3, l4] st h Q ↔ mm_wp d 61 66 [l0, .ref a, l2, l3, l4] (.ref a :: st) h Q := wp_aloadR_n rfl rfl
theorem s61_65o : mm_wp d 61 65 [l0, mm_o o, l2, l3, l4] st h Q ↔ mm_wp d 61 66 [l0, mm_o o, l2, l3, l4] (mm_o o :: st) h Q := wp_aload_n rfl o rfl
theorem s61_65n : mm_wp d 61 65 [l0, .null, l2, l3, l4] st h Q ↔ mm_wp d 61 66 [l0, .null, l2, l3, l4] (.null :: st) h Q := wp_aload_n rfl none rfl
theorem s61_66 : mm_wp d 61 66 ls (.ref a :: st) h Q ↔ (mm_s h a).1 = 6 ∧ mm_wp d 61 69 ls (.int (mm_i h a 7) :: st) h Q := wp_getI rfl rfl (by decide) (by decide)
theorem s61_69 : mm_wp d 61 69 [.ref a, l1, l2, l3, l4] st h Q ↔ mm_wp d 61 70 [.ref a, l1, l2, l3, l4] (.ref a :: st) h Q := wp_aloadR_n rfl rfl
theorem s61_70 : mm_wp d 61 70 ls (.ref a :: st) h Q ↔ (mm_s h a).1 = 8 ∧ mm_wp d 61 73 ls (mm_o (mm_r h a 0) :: st) h Q := wp_getR rfl rfl
theorem s61_73 : mm_wp d 61 73 ls (.ref a :: st) h Q ↔ (mm_s h a).1 = 1 ∧ mm_wp d 61 76 ls (.int (mm_i h a 1) :: st) h Q := wp_getI rfl rfl (by decide) (by decide)
theorem s61_76 : mm_wp d 61 76 ls (.int x2 :: .int x :: st) h Q ↔ if x2 < x then mm_wp d 61 103 ls st h Q else mm_wp d 61 79 ls st h Q := wp_icmpgt rfl rfl
theorem s61_79 : mm_wp d 61 79 [l0, .ref a, l2, l3, l4] st h Q ↔ mm_wp d 61 80 [l0, .ref a, l2, l3, l4] (.ref a :: st) h Q := wp_aloadR_n rfl rfl
theorem s61_79o : mm_wp d 61 79 [l0, mm_o o, l2, l3, l4] st h Q ↔ mm_wp d 61 80 [l0, mm_o o, l2, l3, l4] (mm_o o :: st) h Q := wp_aload_n rfl o rfl
theorem s61_79n : mm_wp d 61 79 [l0, .null, l2, l3, l4] st h Q ↔ mm_wp d 61 80 [l0, .null, l2, l3, l4] (.null :: st) h Q := wp_aload_n rfl none rfl
theorem s61_80 : mm_wp d 61 80 ls (.ref a :: st) h Q ↔ (mm_s h a).1 = 6 ∧ mm_wp d 61 83 ls (.int (mm_i h a 9) :: st) h Q := wp_getI rfl rfl (by decide) (by decide)
theorem s61_83 : mm_wp d 61 83 [l0, .ref a, l2, l3, l4] st h Q ↔ mm_wp d 61 84 [l0, .ref a, l2, l3, l4] (.ref a :: st) h Q := wp_aloadR_n rfl rfl
theorem s61_83o : mm_wp d 61 83 [l0, mm_o o, l2, l3, l4] st h Q ↔ mm_wp d 61 84 [l0, mm_o o, l2, l3, l4] (mm_o o :: st) h Q := wp_aload_n rfl o rfl
theorem s61_83n : mm_wp d 61 83 [l0, .null, l2, l3, l4] st h Q ↔ mm_wp d 61 84 [l0, .null, l2, l3, l4] (.null :: st) h Q := wp_aload_n rfl none rfl
theorem s61_84 : mm_wp d 61 84 ls (.ref a :: st) h Q ↔ (mm_s h a).1 = 6 ∧ mm_wp d 61 87 ls (.int (mm_i h a 11) :: st) h Q := wp_getI rfl rfl (by decide) (by decide)
theorem s61_87 : mm_wp d 61 87 ls (.int x2 :: .int x :: st) h Q ↔ mm_wp d 61 88 ls (.int (x * x2) :: st) h Q := wp_imul rfl
theorem s61_88 : mm_wp d 61 88 [l0, l1, l2, l3, .ref a] st h Q ↔ mm_wp d 61 90 [l0, l1, l2, l3, .ref a] (.ref a :: st) h Q := wp_aloadR rfl rfl
theorem s61_88o : mm_wp d 61 88 [l0, l1, l2, l3, mm_o o] st h Q ↔ mm_wp d 61 90 [l0, l1, l2, l3, mm_o o] (mm_o o :: st) h Q := wp_aload rfl o rfl
theorem s61_88n : mm_wp d 61 88 [l0, l1, l2, l3, .null] st h Q ↔ mm_wp d 61 90 [l0, l1, l2, l3, .null] (.null :: st) h Q := wp_aload rfl none rfl
theorem s61_90 : mm_wp d 61 90 ls (.ref a :: st) h Q ↔ (mm_s h a).1 = 4 ∧ mm_wp d 61 93 ls (.int (mm_i h a 1) :: st) h Q := wp_getI rfl rfl (by decide) (by decide)
theorem s61_93 : mm_wp d 61 93 ls (.int x2 :: .int x :: st) h Q ↔ if x2 < x then mm_wp d 61 103 ls st h Q else mm_wp d 61 96 ls st h Q := wp_icmpgt rfl rfl
theorem s61_96 : mm_wp d 61 96 [.ref a, l1, l2, l3, l4] st h Q ↔ mm_wp d 61 97 [.ref a, l1, l2, l3, l4] (.ref a :: st) h Q := wp_aloadR_n rfl rfl
theorem s61_97 : mm_wp d 61 97 [l0, .ref a, l2, l3, l4] st h Q ↔ mm_wp d 61 98 [l0, .ref a, l2, l3, l4] (.ref a :: st) h Q := wp_aloadR_n rfl rfl
theorem s61_97o : mm_wp d 61 97 [l0, mm_o o, l2, l3, l4] st h Q ↔ mm_wp d 61 98 [l0, mm_o o, l2, l3, l4] (mm_o o :: st) h Q := wp_aload_n rfl o rfl
theorem s61_97n : mm_wp d 61 97 [l0, .null, l2, l3, l4] st h Q ↔ mm_wp d 61 98 [l0, .null, l2, l3, l4] (.null :: st) h Q := wp_aload_n rfl none rfl
theorem s61_98 : mm_wp d 61 98 [l0, l1, l2, l3, .ref a] st h Q ↔ mm_wp d 61 100 [l0, l1, l2, l3, .ref a] (.ref a :: st) h Q := wp_aloadR rfl rfl
theorem s61_98o : mm_wp d 61 98 [l0, l1, l2, l3, mm_o o] st h Q ↔ mm_wp d 61 100 [l0, l1, l2, l3, mm_o o] (mm_o o :: st) h Q := wp_aload rfl o rfl
theorem s61_98n : mm_wp d 61 98 [l0, l1, l2, l3, .null] st h Q ↔ mm_wp d 61 100 [l0, l1, l2, l3, .null] (.null :: st) h Q := wp_aload rfl none rfl
theorem s61_100 : mm_wp (d + 1) 61 100 ls [.ref c, .ref b, .ref a] h Q ↔ (mm_s h a).1 = 8 ∧ mm_wp d 64 0 [.ref a, .ref b, .ref c, mm_j, mm_j, mm_j, mm_j] [] h (mm_bk (d + 1) 61 100 ls [] Q) := wp_virtual rfl rfl ⟨by decide, rfl⟩ ⟨Nat.le_of_ble_eq_true rfl, Nat.le_of_ble_eq_true rfl⟩ rfl rfl rfl rfl rfl rfl
theorem s61_103 : mm_wp d 61 103 [l0, l1, l2, .int x, l4] st h Q ↔ mm_wp d 61 106 [l0, l1, l2, .int (x + (1 : Int32)), l4] st h Q := wp_iinc rfl rfl rfl rfl
theorem s61_106 : mm_wp d 61 106 ls st h Q ↔ mm_wp d 61 14 ls st h Q := wp_goto rfl rfl
theorem s61_109 : mm_wp d 61 109 ls st h Q ↔ Q (.inl none) h := wp_vret rfl rfl
/-! 62: LoadRoom$Placed.moveToY(I)V -/
theorem s62_0 : mm_wp d 62 0 [.ref a, l1] st h Q ↔ mm_wp d 62 1 [.ref a, l1] (.ref a :: st) h Q := wp_aloadR_n rfl rfl
theorem s62_1 : mm_wp d 62 1 [l0, .int x] st h Q ↔ mm_wp d 62 2 [l0, .int x] (.int x :: st) h Q := wp_iload_n rfl rfl
theorem s62_2 : mm_wp d 62 2 ls (.int x :: .ref a :: st) h Q ↔ (mm_s h a).1 = 6 ∧ mm_wp d 62 5 ls st (mm_pi h a 4 x) Q := wp_putI rfl rfl
theorem s62_5 : mm_wp d 62 5 [.ref a, l1] st h Q ↔ mm_wp d 62 6 [.ref a, l1] (.ref a :: st) h Q := wp_aloadR_n rfl rfl
theorem s62_6 : mm_wp d 62 6 [l0, .int x] st h Q ↔ mm_wp d 62 7 [l0, .int x] (.int x :: st) h Q := wp_iload_n rfl rfl
theorem s62_7 : mm_wp d 62 7 [.ref a, l1] st h Q ↔ mm_wp d 62 8 [.ref a, l1] (.ref a :: st) h Q := wp_aloadR_n rfl rfl
theorem s62_8 : mm_wp d 62 8 ls (.ref a :: st) h Q ↔ (mm_s h a).1 = 6 ∧ mm_wp d 62 11 ls (.int (mm_i h a 10) :: st) h Q := wp_getI rfl rfl (by decide) (by decide)
theorem s62_11 : mm_wp d 62 11 ls (.int x2 :: .int x :: st) h Q ↔ mm_wp d 62 12 ls (.int (x + x2) :: st) h Q := wp_iadd rfl
theorem s62_12 : mm_wp d 62 12 ls (.int x :: .ref a :: st) h Q ↔ (mm_s h a).1 = 6 ∧ mm_wp d 62 15 ls st (mm_pi h a 7 x) Q := wp_putI rfl rfl
theorem s62_15 : mm_wp d 62 15 ls st h Q ↔ Q (.inl none) h := wp_vret rfl rfl
/-! 63: LoadRoom$Row.leastHeight()I -/
theorem s63_0 : mm_wp d 63 0 [.ref a] st h Q ↔ mm_wp d 63 1 [.ref a] (.ref a :: st) h Q := wp_aloadR_n rfl rfl
theorem s63_1 : mm_wp d 63 1 ls (.ref a :: st) h Q ↔ (mm_s h a).1 = 7 ∧ mm_wp d 63 4 ls (.int (mm_i h a 1) :: st) h Q := wp_getI rfl rfl (by decide) (by decide)
theorem s63_4 : mm_wp d 63 4 ls (.int x :: st) h Q ↔ if x ≤ 0 then mm_wp d 63 24 ls st h Q else mm_wp d 63 7 ls st h Q := wp_ifle rfl rfl
theorem s63_7 : mm_wp d 63 7 [.ref a] st h Q ↔ mm_wp d 63 8 [.ref a] (.ref a :: st) h Q := wp_aloadR_n rfl rfl
theorem s63_8 : mm_wp d 63 8 ls (.ref a :: st) h Q ↔ (mm_s h a).1 = 7 ∧ mm_wp d 63 11 ls (mm_o (mm_r h a 0) :: st) h Q := wp_getR rfl rfl
theorem s63_11 : mm_wp d 63 11 [.ref a] st h Q ↔ mm_wp d 63 12 [.ref a] (.ref a :: st) h Q := wp_aloadR_n rfl rfl
theorem s63_12 : mm_wp d 63 12 ls (.ref a :: st) h Q ↔ (mm_s h a).1 = 7 ∧ mm_wp d 63 15 ls (.int (mm_i h a 1) :: st) h Q := wp_getI rfl rfl (by decide) (by decide)
theorem s63_15 : mm_wp d 63 15 ls st h Q ↔ mm_wp d 63 16 ls (.int (1 : Int32) :: st) h Q := wp_iconst rfl rfl
theorem s63_16 : mm_wp d 63 16 ls (.int x2 :: .int x :: st) h Q ↔ mm_wp d 63 17 ls (.int (x - x2) :: st) h Q := wp_isub rfl
theorem s63_17 : mm_wp d 63 17 ls (.int x :: .ref a :: st) h Q ↔ (23 ≤ (mm_s h a).1 ∧ (mm_s h a).1 ≤ 26 ∧ mm_in x (mm_s h a).2 = true) ∧ mm_wp d 63 18 ls (mm_o (mm_r h a x.toNatClampNeg) :: st) h Q := wp_aaload rfl
theorem s63_18 : mm_wp d 63 18 ls (.ref a :: st) h Q ↔ (mm_s h a).1 = 6 ∧ mm_wp d 63 21 ls (.int (mm_i h a 4) :: st) h Q := wp_getI rfl rfl (by decide) (by decide)
theorem s63_21 : mm_wp d 63 21 ls st h Q ↔ mm_wp d 63 25 ls st h Q := wp_goto rfl rfl
theorem s63_24 : mm_wp d 63 24 ls st h Q ↔ mm_wp d 63 25 ls (.int (0 : Int32) :: st) h Q := wp_iconst rfl rfl
theorem s63_25 : mm_wp d 63 25 ls (.int x :: st) h Q ↔ Q (.inl (some (.int x))) h := wp_iret rfl rfl
/-! 64: LoadRoom$Search.tryPlaces(LLoadRoom$Placed;LLoadRoom$Floor;)V -/
theorem s64_0 : mm_wp d 64 0 [l0, l1, .ref a, l3, l4, l5, l6] st h Q ↔ mm_wp d 64 1 [l0, l1, .ref a, l3, l4, l5, l6] (.ref a :: st) h Q := wp_aloadR_n rfl rfl
theorem s64_0o : mm_wp d 64 0 [l0, l1, mm_o o, l3, l4, l5, l6] st h Q ↔ mm_wp d 64 1 [l0, l1, mm_o o, l3, l4, l5, l6] (mm_o o :: st) h Q := wp_aload_n rfl o rfl
theorem s64_0n : mm_wp d 64 0 [l0, l1, .null, l3, l4, l5, l6] st h Q ↔ mm_wp d 64 1 [l0, l1, .null, l3, l4, l5, l6] (.null :: st) h Q := wp_aload_n rfl none rfl
theorem s64_1 : mm_wp d 64 1 ls (.ref a :: st) h Q ↔ (mm_s h a).1 = 4 ∧ mm_wp d 64 4 ls (.int (mm_i h a 4) :: st) h Q := wp_getI rfl rfl (by decide) (by decide)
theorem s64_4 : mm_wp d 64 4 [.ref a, l1, l2, l3, l4, l5, l6] st h Q ↔ mm_wp d 64 5 [.ref a, l1, l2, l3, l4, l5, l6] (.ref a :: st) h Q := wp_aloadR_n rfl rfl
theorem s64_5 : mm_wp d 64 5 ls (.ref a :: st) h Q ↔ (mm_s h a).1 = 8 ∧ mm_wp d 64 8 ls (mm_o (mm_r h a 2) :: st) h Q := wp_getR rfl rfl
theorem s64_8 : mm_wp d 64 8 [l0, l1, .ref a, l3, l4, l5, l6] st h Q ↔ mm_wp d 64 9 [l0, l1, .ref a, l3, l4, l5, l6] (.ref a :: st) h Q := wp_aloadR_n rfl rfl
theorem s64_8o : mm_wp d 64 8 [l0, l1, mm_o o, l3, l4, l5, l6] st h Q ↔ mm_wp d 64 9 [l0, l1, mm_o o, l3, l4, l5, l6] (mm_o o :: st) h Q := wp_aload_n rfl o rfl
theorem s64_8n : mm_wp d 64 8 [l0, l1, .null, l3, l4, l5, l6] st h Q ↔ mm_wp d 64 9 [l0, l1, .null, l3, l4, l5, l6] (.null :: st) h Q := wp_aload_n rfl none rfl
theorem s64_9 : mm_wp d 64 9 ls (.ref a :: st) h Q ↔ (mm_s h a).1 = 4 ∧ mm_wp d 64 12 ls (.int (mm_i h a 0) :: st) h Q := wp_getI rfl rfl (by decide) (by decide)
theorem s64_12 : mm_wp (d + 1) 64 12 ls [.int x2, .ref a, t0] h Q ↔ (mm_s h a).1 = 7 ∧ mm_wp d 65 0 [.ref a, .int x2] [] h (mm_bk (d + 1) 64 12 ls [t0] Q) := wp_virtual rfl rfl ⟨by decide, rfl⟩ ⟨Nat.le_of_ble_eq_true rfl, Nat.le_of_ble_eq_true rfl⟩ rfl rfl rfl rfl rfl rfl
theorem s64_15 : mm_wp (d + 1) 64 15 ls [.int x2, .int x] h Q ↔ mm_wp d 4 0 [.int x, .int x2] [] h (mm_bk (d + 1) 64 15 ls [] Q) := wp_static rfl rfl ⟨by decide, rfl⟩ ⟨Nat.le_of_ble_eq_true rfl, Nat.le_of_ble_eq_true rfl⟩ rfl rfl rfl rfl
theorem s64_18 : mm_wp d 64 18 [l0, l1, l2, l3, l4, l5, l6] (.int x :: st) h Q ↔ mm_wp d 64 19 [l0, l1, l2, .int x, l4, l5, l6] st h Q := wp_istore_n rfl rfl
theorem s64_19 : mm_wp d 64 19 ls st h Q ↔ mm_wp d 64 20 ls (.int (0 : Int32) :: st) h Q := wp_iconst rfl rfl
theorem s64_20 : mm_wp d 64 20 [l0, l1, l2, l3, l4, l5, l6] (.int x :: st) h Q ↔ mm_wp d 64 22 [l0, l1, l2, l3, .int x, l5, l6] st h Q := wp_istore rfl rfl
theorem s64_22 : mm_wp d 64 22 [l0, l1, l2, l3, .int x, l5, l6] st h Q ↔ mm_wp d 64 24 [l0, l1, l2, l3, .int x, l5, l6] (.int x :: st) h Q := wp_iload rfl rfl
theorem s64_24 : mm_wp d 64 24 [.ref a, l1, l2, l3, l4, l5, l6] st h Q ↔ mm_wp d 64 25 [.ref a, l1, l2, l3, l4, l5, l6] (.ref a :: st) h Q := wp_aloadR_n rfl rfl
theorem s64_25 : mm_wp d 64 25 ls (.ref a :: st) h Q ↔ (mm_s h a).1 = 8 ∧ mm_wp d 64 28 ls (mm_o (mm_r h a 6) :: st) h Q := wp_getR rfl rfl
theorem s64_28 : mm_wp d 64 28 [l0, .ref a, l2, l3, l4, l5, l6] st h Q ↔ mm_wp d 64 29 [l0, .ref a, l2, l3, l4, l5, l6] (.ref a :: st) h Q := wp_aloadR_n rfl rfl
theorem s64_28o : mm_wp d 64 28 [l0, mm_o o, l2, l3, l4, l5, l6] st h Q ↔ mm_wp d 64 29 [l0, mm_o o, l2, l3, l4, l5, l6] (mm_o o :: st) h Q := wp_aload_n rfl o rfl
theorem s64_28n : mm_wp d 64 28 [l0, .null, l2, l3, l4, l5, l6] st h Q ↔ mm_wp d 64 29 [l0, .null, l2, l3, l4, l5, l6] (.null :: st) h Q := wp_aload_n rfl none rfl
theorem s64_29 : mm_wp d 64 29 ls (.ref a :: st) h Q ↔ (mm_s h a).1 = 6 ∧ mm_wp d 64 32 ls (.int (mm_i h a 0) :: st) h Q := wp_getI rfl rfl (by decide) (by decide)
theorem s64_32 : mm_wp (d + 1) 64 32 ls [.int x2, .ref a, t0] h Q ↔ (mm_s h a).1 = 3 ∧ mm_wp d 55 0 [.ref a, .int x2] [] h (mm_bk (d + 1) 64 32 ls [t0] Q) := wp_virtual rfl rfl ⟨by decide, rfl⟩ ⟨Nat.le_of_ble_eq_true rfl, Nat.le_of_ble_eq_true rfl⟩ rfl rfl rfl rfl rfl rfl
theorem s64_35 : mm_wp d 64 35 ls (.int x2 :: .int x :: st) h Q ↔ if x2 ≤ x then mm_wp d 64 186 ls st h Q else mm_wp d 64 38 ls st h Q := wp_icmpge rfl rfl
theorem s64_38 : mm_wp d 64 38 [.ref a, l1, l2, l3, l4, l5, l6] st h Q ↔ mm_wp d 64 39 [.ref a, l1, l2, l3, l4, l5, l6] (.ref a :: st) h Q := wp_aloadR_n rfl rfl
theorem s64_39 : mm_wp d 64 39 ls (.ref a :: st) h Q ↔ (mm_s h a).1 = 8 ∧ mm_wp d 64 42 ls (.int (mm_i h a 10) :: st) h Q := wp_getI rfl rfl (by decide) (by decide)
theorem s64_42 : mm_wp d 64 42 ls (.int x :: st) h Q ↔ if x = 0 then mm_wp d 64 45 ls st h Q else mm_wp d 64 186 ls st h Q := wp_ifne rfl rfl
theorem s64_45 : mm_wp d 64 45 [l0, .ref a, l2, l3, l4, l5, l6] st h Q ↔ mm_wp d 64 46 [l0, .ref a, l2, l3, l4, l5, l6] (.ref a :: st) h Q := wp_aloadR_n rfl rfl
theorem s64_45o : mm_wp d 64 45 [l0, mm_o o, l2, l3, l4, l5, l6] st h Q ↔ mm_wp d 64 46 [l0, mm_o o, l2, l3, l4, l5, l6] (mm_o o :: st) h Q := wp_aload_n rfl o rfl
theorem s64_45n : mm_wp d 64 45 [l0, .null, l2, l3, l4, l5, l6] st h Q ↔ mm_wp d 64 46 [l0, .null, l2, l3, l4, l5, l6] (.null :: st) h Q := wp_aload_n rfl none rfl
theorem s64_46 : mm_wp d 64 46 [.ref a, l1, l2, l3, l4, l5, l6] st h Q ↔ mm_wp d 64 47 [.ref a, l1, l2, l3, l4, l5, l6] (.ref a :: st) h Q := wp_aloadR_n rfl rfl
theorem s64_47 : mm_wp d 64 47 ls (.ref a :: st) h Q ↔ (mm_s h a).1 = 8 ∧ mm_wp d 64 50 ls (mm_o (mm_r h a 6) :: st) h Q := wp_getR rfl rfl
theorem s64_50 : mm_wp d 64 50 [l0, .ref a, l2, l3, l4, l5, l6] st h Q ↔ mm_wp d 64 51 [l0, .ref a, l2, l3, l4, l5, l6] (.ref a :: st) h Q := wp_aloadR_n rfl rfl
theorem s64_50o : mm_wp d 64 50 [l0, mm_o o, l2, l3, l4, l5, l6] st h Q ↔ mm_wp d 64 51 [l0, mm_o o, l2, l3, l4, l5, l6] (mm_o o :: st) h Q := wp_aload_n rfl o rfl
theorem s64_50n : mm_wp d 64 50 [l0, .null, l2, l3, l4, l5, l6] st h Q ↔ mm_wp d 64 51 [l0, .null, l2, l3, l4, l5, l6] (.null :: st) h Q := wp_aload_n rfl none rfl
theorem s64_51 : mm_wp d 64 51 ls (.ref a :: st) h Q ↔ (mm_s h a).1 = 6 ∧ mm_wp d 64 54 ls (.int (mm_i h a 0) :: st) h Q := wp_getI rfl rfl (by decide) (by decide)
theorem s64_54 : mm_wp d 64 54 [l0, l1, l2, l3, .int x, l5, l6] st h Q ↔ mm_wp d 64 56 [l0, l1, l2, l3, .int x, l5, l6] (.int x :: st) h Q := wp_iload rfl rfl
theorem s64_56 : mm_wp (d + 1) 64 56 ls [.int x3, .int x2, .ref a, t0] h Q ↔ (mm_s h a).1 = 3 ∧ mm_wp d 56 0 [.ref a, .int x2, .int x3] [] h (mm_bk (d + 1) 64 56 ls [t0] Q) := wp_virtual rfl rfl ⟨by decide, rfl⟩ ⟨Nat.le_of_ble_eq_true rfl, Nat.le_of_ble_eq_true rfl⟩ rfl rfl rfl rfl rfl rfl
theorem s64_59 : mm_wp (d + 1) 64 59 ls [.int x2, .ref a] h Q ↔ (mm_s h a).1 = 6 ∧ mm_wp d 66 0 [.ref a, .int x2] [] h (mm_bk (d + 1) 64 59 ls [] Q) := wp_virtual rfl rfl ⟨by decide, rfl⟩ ⟨Nat.le_of_ble_eq_true rfl, Nat.le_of_ble_eq_true rfl⟩ rfl rfl rfl rfl rfl rfl
theorem s64_62 : mm_wp d 64 62 [l0, .ref a, l2, l3, l4, l5, l6] st h Q ↔ mm_wp d 64 63 [l0, .ref a, l2, l3, l4, l5, l6] (.ref a :: st) h Q := wp_aloadR_n rfl rfl
theorem s64_62o : mm_wp d 64 62 [l0, mm_o o, l2, l3, l4, l5, l6] st h Q ↔ mm_wp d 64 63 [l0, mm_o o, l2, l3, l4, l5, l6] (mm_o o :: st) h Q := wp_aload_n rfl o rfl
theorem s64_62n : mm_wp d 64 62 [l0, .null, l2, l3, l4, l5, l6] st h Q ↔ mm_wp d 64 63 [l0, .null, l2, l3, l4, l5, l6] (.null :: st) h Q := wp_aload_n rfl none rfl
theorem s64_63 : mm_wp d 64 63 ls (.ref a :: st) h Q ↔ (mm_s h a).1 = 6 ∧ mm_wp d 64 66 ls (.int (mm_i h a 5) :: st) h Q := wp_getI rfl rfl (by decide) (by decide)
theorem s64_66 : mm_wp d 64 66 [l0, l1, l2, .int x, l4, l5, l6] st h Q ↔ mm_wp d 64 67 [l0, l1, l2, .int x, l4, l5, l6] (.int x :: st) h Q := wp_iload_n rfl rfl
theorem s64_67 : mm_wp d 64 67 ls (.int x2 :: .int x :: st) h Q ↔ if x < x2 then mm_wp d 64 85 ls st h Q else mm_wp d 64 70 ls st h Q := wp_icmplt rfl rfl
theorem s64_70 : mm_wp d 64 70 [l0, .ref a, l2, l3, l4, l5, l6] st h Q ↔ mm_wp d 64 71 [l0, .ref a, l2, l3, l4, l5, l6] (.ref a :: st) h Q := wp_aloadR_n rfl rfl
theorem s64_70o : mm_wp d 64 70 [l0, mm_o o, l2, l3, l4, l5, l6] st h Q ↔ mm_wp d 64 71 [l0, mm_o o, l2, l3, l4, l5, l6] (mm_o o :: st) h Q := wp_aload_n rfl o rfl
theorem s64_70n : mm_wp d 64 70 [l0, .null, l2, l3, l4, l5, l6] st h Q ↔ mm_wp d 64 71 [l0, .null, l2, l3, l4, l5, l6] (.null :: st) h Q := wp_aload_n rfl none rfl
theorem s64_71 : mm_wp d 64 71 ls (.ref a :: st) h Q ↔ (mm_s h a).1 = 6 ∧ mm_wp d 64 74 ls (.int (mm_i h a 8) :: st) h Q := wp_getI rfl rfl (by decide) (by decide)
theorem s64_74 : mm_wp d 64 74 [l0, l1, .ref a, l3, l4, l5, l6] st h Q ↔ mm_wp d 64 75 [l0, l1, .ref a, l3, l4, l5, l6] (.ref a :: st) h Q := wp_aloadR_n rfl rfl
theorem s64_74o : mm_wp d 64 74 [l0, l1, mm_o o, l3, l4, l5, l6] st h Q ↔ mm_wp d 64 75 [l0, l1, mm_o o, l3, l4, l5, l6] (mm_o o :: st) h Q := wp_aload_n rfl o rfl
theorem s64_74n : mm_wp d 64 74 [l0, l1, .null, l3, l4, l5, l6] st h Q ↔ mm_wp d 64 75 [l0, l1, .null, l3, l4, l5, l6] (.null :: st) h Q := wp_aload_n rfl none rfl
theorem s64_75 : mm_wp d 64 75 ls (.ref a :: st) h Q ↔ (mm_s h a).1 = 4 ∧ mm_wp d 64 78 ls (.int (mm_i h a 5) :: st) h Q := wp_getI rfl rfl (by decide) (by decide)
theorem s64_78 : mm_wp d 64 78 ls (.int x2 :: .int x :: st) h Q ↔ if x2 < x then mm_wp d 64 85 ls st h Q else mm_wp d 64 81 ls st h Q := wp_icmpgt rfl rfl
theorem s64_81 : mm_wp d 64 81 ls st h Q ↔ mm_wp d 64 82 ls (.int (1 : Int32) :: st) h Q := wp_iconst rfl rfl
theorem s64_82 : mm_wp d 64 82 ls st h Q ↔ mm_wp d 64 86 ls st h Q := wp_goto rfl rfl
theorem s64_85 : mm_wp d 64 85 ls st h Q ↔ mm_wp d 64 86 ls (.int (0 : Int32) :: st) h Q := wp_iconst rfl rfl
theorem s64_86 : mm_wp d 64 86 [l0, l1, l2, l3, l4, l5, l6] (.int x :: st) h Q ↔ mm_wp d 64 88 [l0, l1, l2, l3, l4, .int x, l6] st h Q := wp_istore rfl rfl
theorem s64_88 : mm_wp d 64 88 ls st h Q ↔ mm_wp d 64 89 ls (.int (0 : Int32) :: st) h Q := wp_iconst rfl rfl
theorem s64_89 : mm_wp d 64 89 [l0, l1, l2, l3, l4, l5, l6] (.int x :: st) h Q ↔ mm_wp d 64 91 [l0, l1, l2, l3, l4, l5, .int x] st h Q := wp_istore rfl rfl
theorem s64_91 : mm_wp d 64 91 [l0, l1, l2, l3, l4, l5, .int x] st h Q ↔ mm_wp d 64 93 [l0, l1, l2, l3, l4, l5, .int x] (.int x :: st) h Q := wp_iload rfl rfl
theorem s64_93 : mm_wp d 64 93 [.ref a, l1, l2, l3, l4, l5, l6] st h Q ↔ mm_wp d 64 94 [.ref a, l1, l2, l3, l4, l5, l6] (.ref a :: st) h Q := wp_aloadR_n rfl rfl
theorem s64_94 : mm_wp d 64 94 ls (.ref a :: st) h Q ↔ (mm_s h a).1 = 8 ∧ mm_wp d 64 97 ls (mm_o (mm_r h a 4) :: st) h Q := wp_getR rfl rfl
theorem s64_97 : mm_wp d 64 97 [l0, .ref a, l2, l3, l4, l5, l6] st h Q ↔ mm_wp d 64 98 [l0, .ref a, l2, l3, l4, l5, l6] (.ref a :: st) h Q := wp_aloadR_n rfl rfl
theorem s64_97o : mm_wp d 64 97 [l0, mm_o o, l2, l3, l4, l5, l6] st h Q ↔ mm_wp d 64 98 [l0, mm_o o, l2, l3, l4, l5, l6] (mm_o o :: st) h Q := wp_aload_n rfl o rfl
theorem s64_97n : mm_wp d 64 97 [l0, .null, l2, l3, l4, l5, l6] st h Q ↔ mm_wp d 64 98 [l0, .null, l2, l3, l4, l5, l6] (.null :: st) h Q := wp_aload_n rfl none rfl
theorem s64_98 : mm_wp d 64 98 ls (.ref a :: st) h Q ↔ (mm_s h a).1 = 6 ∧ mm_wp d 64 101 ls (.int (mm_i h a 0) :: st) h Q := wp_getI rfl rfl (by decide) (by decide)
theorem s64_101 : mm_wp (d + 1) 64 101 ls [.int x2, .ref a, t0] h Q ↔ (mm_s h a).1 = 3 ∧ mm_wp d 55 0 [.ref a, .int x2] [] h (mm_bk (d + 1) 64 101 ls [t0] Q) := wp_virtual rfl rfl ⟨by decide, rfl⟩ ⟨Nat.le_of_ble_eq_true rfl, Nat.le_of_ble_eq_true rfl⟩ rfl rfl rfl rfl rfl rfl
theorem s64_104 : mm_wp d 64 104 ls (.int x2 :: .int x :: st) h Q ↔ if x2 ≤ x then mm_wp d 64 180 ls st h Q else mm_wp d 64 107 ls st h Q := wp_icmpge rfl rfl
theorem s64_107 : mm_wp d 64 107 [l0, l1, l2, l3, l4, .int x, l6] st h Q ↔ mm_wp d 64 109 [l0, l1, l2, l3, l4, .int x, l6] (.int x :: st) h Q := wp_iload rfl rfl
theorem s64_109 : mm_wp d 64 109 ls (.int x :: st) h Q ↔ if x = 0 then mm_wp d 64 180 ls st h Q else mm_wp d 64 112 ls st h Q := wp_ifeq rfl rfl
theorem s64_112 : mm_wp d 64 112 [.ref a, l1, l2, l3, l4, l5, l6] st h Q ↔ mm_wp d 64 113 [.ref a, l1, l2, l3, l4, l5, l6] (.ref a :: st) h Q := wp_aloadR_n rfl rfl
theorem s64_113 : mm_wp d 64 113 ls (.ref a :: st) h Q ↔ (mm_s h a).1 = 8 ∧ mm_wp d 64 116 ls (.int (mm_i h a 10) :: st) h Q := wp_getI rfl rfl (by decide) (by decide)
theorem s64_116 : mm_wp d 64 116 ls (.int x :: st) h Q ↔ if x = 0 then mm_wp d 64 119 ls st h Q else mm_wp d 64 180 ls st h Q := wp_ifne rfl rfl
theorem s64_119 : mm_wp d 64 119 [l0, .ref a, l2, l3, l4, l5, l6] st h Q ↔ mm_wp d 64 120 [l0, .ref a, l2, l3, l4, l5, l6] (.ref a :: st) h Q := wp_aloadR_n rfl rfl
theorem s64_119o : mm_wp d 64 119 [l0, mm_o o, l2, l3, l4, l5, l6] st h Q ↔ mm_wp d 64 120 [l0, mm_o o, l2, l3, l4, l5, l6] (mm_o o :: st) h Q := wp_aload_n rfl o rfl
theorem s64_119n : mm_wp d 64 119 [l0, .null, l2, l3, l4, l5, l6] st h Q ↔ mm_wp d 64 120 [l0, .null, l2, l3, l4, l5, l6] (.null :: st) h Q := wp_aload_n rfl none rfl
theorem s64_120 : mm_wp d 64 120 [.ref a, l1, l2, l3, l4, l5, l6] st h Q ↔ mm_wp d 64 121 [.ref a, l1, l2, l3, l4, l5, l6] (.ref a :: st) h Q := wp_aloadR_n rfl rfl
theorem s64_121 : mm_wp d 64 121 ls (.ref a :: st) h Q ↔ (mm_s h a).1 = 8 ∧ mm_wp d 64 124 ls (mm_o (mm_r h a 4) :: st) h Q := wp_getR rfl rfl
theorem s64_124 : mm_wp d 64 124 [l0, .ref a, l2, l3, l4, l5, l6] st h Q ↔ mm_wp d 64 125 [l0, .ref a, l2, l3, l4, l5, l6] (.ref a :: st) h Q := wp_aloadR_n rfl rfl
theorem s64_124o : mm_wp d 64 124 [l0, mm_o o, l2, l3, l4, l5, l6] st h Q ↔ mm_wp d 64 125 [l0, mm_o o, l2, l3, l4, l5, l6] (mm_o o :: st) h Q := wp_aload_n rfl o rfl
theorem s64_124n : mm_wp d 64 124 [l0, .null, l2, l3, l4, l5, l6] st h Q ↔ mm_wp d 64 125 [l0, .null, l2, l3, l4, l5, l6] (.null :: st) h Q := wp_aload_n rfl none rfl
theorem s64_125 : mm_wp d 64 125 ls (.ref a :: st) h Q ↔ (mm_s h a).1 = 6 ∧ mm_wp d 64 128 ls (.int (mm_i h a 0) :: st) h Q := wp_getI rfl rfl (by decide) (by decide)
theorem s64_128 : mm_wp d 64 128 [l0, l1, l2, l3, l4, l5, .int x] st h Q ↔ mm_wp d 64 130 [l0, l1, l2, l3, l4, l5, .int x] (.int x :: st) h Q := wp_iload rfl rfl
theorem s64_130 : mm_wp (d + 1) 64 130 ls [.int x3, .int x2, .ref a, t0] h Q ↔ (mm_s h a).1 = 3 ∧ mm_wp d 56 0 [.ref a, .int x2, .int x3] [] h (mm_bk (d + 1) 64 130 ls [t0] Q) := wp_virtual rfl rfl ⟨by decide, rfl⟩ ⟨Nat.le_of_ble_eq_true rfl, Nat.le_of_ble_eq_true rfl⟩ rfl rfl rfl rfl rfl rfl
theorem s64_133 : mm_wp (d + 1) 64 133 ls [.int x2, .ref a] h Q ↔ (mm_s h a).1 = 6 ∧ mm_wp d 67 0 [.ref a, .int x2] [] h (mm_bk (d + 1) 64 133 ls [] Q) := wp_virtual rfl rfl ⟨by decide, rfl⟩ ⟨Nat.le_of_ble_eq_true rfl, Nat.le_of_ble_eq_true rfl⟩ rfl rfl rfl rfl rfl rfl
theorem s64_136 : mm_wp d 64 136 [l0, .ref a, l2, l3, l4, l5, l6] st h Q ↔ mm_wp d 64 137 [l0, .ref a, l2, l3, l4, l5, l6] (.ref a :: st) h Q := wp_aloadR_n rfl rfl
theorem s64_136o : mm_wp d 64 136 [l0, mm_o o, l2, l3, l4, l5, l6] st h Q ↔ mm_wp d 64 137 [l0, mm_o o, l2, l3, l4, l5, l6] (mm_o o :: st) h Q := wp_aload_n rfl o rfl
theorem s64_136n : mm_wp d 64 136 [l0, .null, l2, l3, l4, l5, l6] st h Q ↔ mm_wp d 64 137 [l0, .null, l2, l3, l4, l5, l6] (.null :: st) h Q := wp_aload_n rfl none rfl
theorem s64_137 : mm_wp d 64 137 ls (.ref a :: st) h Q ↔ (mm_s h a).1 = 6 ∧ mm_wp d 64 140 ls (.int (mm_i h a 3) :: st) h Q := wp_getI rfl rfl (by decide) (by decide)
theorem s64_140 : mm_wp d 64 140 [l0, l1, .ref a, l3, l4, l5, l6] st h Q ↔ mm_wp d 64 141 [l0, l1, .ref a, l3, l4, l5, l6] (.ref a :: st) h Q := wp_aloadR_n rfl rfl
theorem s64_140o : mm_wp d 64 140 [l0, l1, mm_o o, l3, l4, l5, l6] st h Q ↔ mm_wp d 64 141 [l0, l1, mm_o o, l3, l4, l5, l6] (mm_o o :: st) h Q := wp_aload_n rfl o rfl
theorem s64_140n : mm_wp d 64 140 [l0, l1, .null, l3, l4, l5, l6] st h Q ↔ mm_wp d 64 141 [l0, l1, .null, l3, l4, l5, l6] (.null :: st) h Q := wp_aload_n rfl none rfl
theorem s64_141 : mm_wp d 64 141 ls (.ref a :: st) h Q ↔ (mm_s h a).1 = 4 ∧ mm_wp d 64 144 ls (.int (mm_i h a 2) :: st) h Q := wp_getI rfl rfl (by decide) (by decide)
theorem s64_144 : mm_wp d 64 144 ls (.int x2 :: .int x :: st) h Q ↔ if x < x2 then mm_wp d 64 174 ls st h Q else mm_wp d 64 147 ls st h Q := wp_icmplt rfl rfl
theorem s64_147 : mm_wp d 64 147 [l0, .ref a, l2, l3, l4, l5, l6] st h Q ↔ mm_wp d 64 148 [l0, .ref a, l2, l3, l4, l5, l6] (.ref a :: st) h Q := wp_aloadR_n rfl rfl
theorem s64_147o : mm_wp d 64 147 [l0, mm_o o, l2, l3, l4, l5, l6] st h Q ↔ mm_wp d 64 148 [l0, mm_o o, l2, l3, l4, l5, l6] (mm_o o :: st) h Q := wp_aload_n rfl o rfl
theorem s64_147n : mm_wp d 64 147 [l0, .null, l2, l3, l4, l5, l6] st h Q ↔ mm_wp d 64 148 [l0, .null, l2, l3, l4, l5, l6] (.null :: st) h Q := wp_aload_n rfl none rfl
theorem s64_148 : mm_wp d 64 148 ls (.ref a :: st) h Q ↔ (mm_s h a).1 = 6 ∧ mm_wp d 64 151 ls (.int (mm_i h a 6) :: st) h Q := wp_getI rfl rfl (by decide) (by decide)
theorem s64_151 : mm_wp d 64 151 [l0, l1, .ref a, l3, l4, l5, l6] st h Q ↔ mm_wp d 64 152 [l0, l1, .ref a, l3, l4, l5, l6] (.ref a :: st) h Q := wp_aloadR_n rfl rfl
theorem s64_151o : mm_wp d 64 151 [l0, l1, mm_o o, l3, l4, l5, l6] st h Q ↔ mm_wp d 64 152 [l0, l1, mm_o o, l3, l4, l5, l6] (mm_o o :: st) h Q := wp_aload_n rfl o rfl
theorem s64_151n : mm_wp d 64 151 [l0, l1, .null, l3, l4, l5, l6] st h Q ↔ mm_wp d 64 152 [l0, l1, .null, l3, l4, l5, l6] (.null :: st) h Q := wp_aload_n rfl none rfl
theorem s64_152 : mm_wp d 64 152 ls (.ref a :: st) h Q ↔ (mm_s h a).1 = 4 ∧ mm_wp d 64 155 ls (.int (mm_i h a 3) :: st) h Q := wp_getI rfl rfl (by decide) (by decide)
theorem s64_155 : mm_wp d 64 155 ls (.int x2 :: .int x :: st) h Q ↔ if x2 < x then mm_wp d 64 174 ls st h Q else mm_wp d 64 158 ls st h Q := wp_icmpgt rfl rfl
theorem s64_158 : mm_wp d 64 158 [.ref a, l1, l2, l3, l4, l5, l6] st h Q ↔ mm_wp d 64 159 [.ref a, l1, l2, l3, l4, l5, l6] (.ref a :: st) h Q := wp_aloadR_n rfl rfl
theorem s64_159 : mm_wp d 64 159 ls (.ref a :: st) h Q ↔ (mm_s h a).1 = 8 ∧ mm_wp d 64 162 ls (mm_o (mm_r h a 2) :: st) h Q := wp_getR rfl rfl
theorem s64_162 : mm_wp d 64 162 [l0, .ref a, l2, l3, l4, l5, l6] st h Q ↔ mm_wp d 64 163 [l0, .ref a, l2, l3, l4, l5, l6] (.ref a :: st) h Q := wp_aloadR_n rfl rfl
theorem s64_162o : mm_wp d 64 162 [l0, mm_o o, l2, l3, l4, l5, l6] st h Q ↔ mm_wp d 64 163 [l0, mm_o o, l2, l3, l4, l5, l6] (mm_o o :: st) h Q := wp_aload_n rfl o rfl
theorem s64_162n : mm_wp d 64 162 [l0, .null, l2, l3, l4, l5, l6] st h Q ↔ mm_wp d 64 163 [l0, .null, l2, l3, l4, l5, l6] (.null :: st) h Q := wp_aload_n rfl none rfl
theorem s64_163 : mm_wp (d + 1) 64 163 ls [.ref b, .ref a] h Q ↔ (mm_s h a).1 = 7 ∧ mm_wp d 68 0 [.ref a, .ref b] [] h (mm_bk (d + 1) 64 163 ls [] Q) := wp_virtual rfl rfl ⟨by decide, rfl⟩ ⟨Nat.le_of_ble_eq_true rfl, Nat.le_of_ble_eq_true rfl⟩ rfl rfl rfl rfl rfl rfl
theorem s64_166 : mm_wp d 64 166 ls (.int x :: st) h Q ↔ if x = 0 then mm_wp d 64 174 ls st h Q else mm_wp d 64 169 ls st h Q := wp_ifeq rfl rfl
theorem s64_169 : mm_wp d 64 169 [.ref a, l1, l2, l3, l4, l5, l6] st h Q ↔ mm_wp d 64 170 [.ref a, l1, l2, l3, l4, l5, l6] (.ref a :: st) h Q := wp_aloadR_n rfl rfl
theorem s64_170 : mm_wp d 64 170 [l0, .ref a, l2, l3, l4, l5, l6] st h Q ↔ mm_wp d 64 171 [l0, .ref a, l2, l3, l4, l5, l6] (.ref a :: st) h Q := wp_aloadR_n rfl rfl
theorem s64_170o : mm_wp d 64 170 [l0, mm_o o, l2, l3, l4, l5, l6] st h Q ↔ mm_wp d 64 171 [l0, mm_o o, l2, l3, l4, l5, l6] (mm_o o :: st) h Q := wp_aload_n rfl o rfl
theorem s64_170n : mm_wp d 64 170 [l0, .null, l2, l3, l4, l5, l6] st h Q ↔ mm_wp d 64 171 [l0, .null, l2, l3, l4, l5, l6] (.null :: st) h Q := wp_aload_n rfl none rfl
theorem s64_171 : mm_wp (d + 1) 64 171 ls [.ref b, .ref a] h Q ↔ (mm_s h a).1 = 8 ∧ mm_wp d 79 0 [.ref a, .ref b] [] h (mm_bk (d + 1) 64 171 ls [] Q) := wp_virtual rfl rfl ⟨by decide, rfl⟩ ⟨Nat.le_of_ble_eq_true rfl, Nat.le_of_ble_eq_true rfl⟩ rfl rfl rfl rfl rfl rfl
theorem s64_174 : mm_wp d 64 174 [l0, l1, l2, l3, l4, l5, .int x] st h Q ↔ mm_wp d 64 177 [l0, l1, l2, l3, l4, l5, .int (x + (1 : Int32))] st h Q := wp_iinc rfl rfl rfl rfl
theorem s64_177 : mm_wp d 64 177 ls st h Q ↔ mm_wp d 64 91 ls st h Q := wp_goto rfl rfl
theorem s64_180 : mm_wp d 64 180 [l0, l1, l2, l3, .int x, l5, l6] st h Q ↔ mm_wp d 64 183 [l0, l1, l2, l3, .int (x + (1 : Int32)), l5, l6] st h Q := wp_iinc rfl rfl rfl rfl
theorem s64_183 : mm_wp d 64 183 ls st h Q ↔ mm_wp d 64 22 ls st h Q := wp_goto rfl rfl
theorem s64_186 : mm_wp d 64 186 ls st h Q ↔ Q (.inl none) h := wp_vret rfl rfl
/-! 65: LoadRoom$Row.leastDepth(I)I -/
theorem s65_0 : mm_wp d 65 0 [.ref a, l1] st h Q ↔ mm_wp d 65 1 [.ref a, l1] (.ref a :: st) h Q := wp_aloadR_n rfl rfl
theorem s65_1 : mm_wp d 65 1 ls (.ref a :: st) h Q ↔ (mm_s h a).1 = 7 ∧ mm_wp d 65 4 ls (.int (mm_i h a 1) :: st) h Q := wp_getI rfl rfl (by decide) (by decide)
theorem s65_4 : mm_wp d 65 4 ls (.int x :: st) h Q ↔ if x ≤ 0 then mm_wp d 65 42 ls st h Q else mm_wp d 65 7 ls st h Q := wp_ifle rfl rfl
theorem s65_7 : mm_wp d 65 7 [.ref a, l1] st h Q ↔ mm_wp d 65 8 [.ref a, l1] (.ref a :: st) h Q := wp_aloadR_n rfl rfl
theorem s65_8 : mm_wp d 65 8 ls (.ref a :: st) h Q ↔ (mm_s h a).1 = 7 ∧ mm_wp d 65 11 ls (mm_o (mm_r h a 0) :: st) h Q := wp_getR rfl rfl
theorem s65_11 : mm_wp d 65 11 [.ref a, l1] st h Q ↔ mm_wp d 65 12 [.ref a, l1] (.ref a :: st) h Q := wp_aloadR_n rfl rfl
theorem s65_12 : mm_wp d 65 12 ls (.ref a :: st) h Q ↔ (mm_s h a).1 = 7 ∧ mm_wp d 65 15 ls (.int (mm_i h a 1) :: st) h Q := wp_getI rfl rfl (by decide) (by decide)
theorem s65_15 : mm_wp d 65 15 ls st h Q ↔ mm_wp d 65 16 ls (.int (1 : Int32) :: st) h Q := wp_iconst rfl rfl
theorem s65_16 : mm_wp d 65 16 ls (.int x2 :: .int x :: st) h Q ↔ mm_wp d 65 17 ls (.int (x - x2) :: st) h Q := wp_isub rfl
theorem s65_17 : mm_wp d 65 17 ls (.int x :: .ref a :: st) h Q ↔ (23 ≤ (mm_s h a).1 ∧ (mm_s h a).1 ≤ 26 ∧ mm_in x (mm_s h a).2 = true) ∧ mm_wp d 65 18 ls (mm_o (mm_r h a x.toNatClampNeg) :: st) h Q := wp_aaload rfl
theorem s65_18 : mm_wp d 65 18 ls (.ref a :: st) h Q ↔ (mm_s h a).1 = 6 ∧ mm_wp d 65 21 ls (.int (mm_i h a 4) :: st) h Q := wp_getI rfl rfl (by decide) (by decide)
theorem s65_21 : mm_wp d 65 21 [l0, .int x] st h Q ↔ mm_wp d 65 22 [l0, .int x] (.int x :: st) h Q := wp_iload_n rfl rfl
theorem s65_22 : mm_wp d 65 22 ls (.int x2 :: .int x :: st) h Q ↔ if x = x2 then mm_wp d 65 25 ls st h Q else mm_wp d 65 42 ls st h Q := wp_icmpne rfl rfl
theorem s65_25 : mm_wp d 65 25 [.ref a, l1] st h Q ↔ mm_wp d 65 26 [.ref a, l1] (.ref a :: st) h Q := wp_aloadR_n rfl rfl
theorem s65_26 : mm_wp d 65 26 ls (.ref a :: st) h Q ↔ (mm_s h a).1 = 7 ∧ mm_wp d 65 29 ls (mm_o (mm_r h a 0) :: st) h Q := wp_getR rfl rfl
theorem s65_29 : mm_wp d 65 29 [.ref a, l1] st h Q ↔ mm_wp d 65 30 [.ref a, l1] (.ref a :: st) h Q := wp_aloadR_n rfl rfl
theorem s65_30 : mm_wp d 65 30 ls (.ref a :: st) h Q ↔ (mm_s h a).1 = 7 ∧ mm_wp d 65 33 ls (.int (mm_i h a 1) :: st) h Q := wp_getI rfl rfl (by decide) (by decide)
theorem s65_33 : mm_wp d 65 33 ls st h Q ↔ mm_wp d 65 34 ls (.int (1 : Int32) :: st) h Q := wp_iconst rfl rfl
theorem s65_34 : mm_wp d 65 34 ls (.int x2 :: .int x :: st) h Q ↔ mm_wp d 65 35 ls (.int (x - x2) :: st) h Q := wp_isub rfl
theorem s65_35 : mm_wp d 65 35 ls (.int x :: .ref a :: st) h Q ↔ (23 ≤ (mm_s h a).1 ∧ (mm_s h a).1 ≤ 26 ∧ mm_in x (mm_s h a).2 = true) ∧ mm_wp d 65 36 ls (mm_o (mm_r h a x.toNatClampNeg) :: st) h Q := wp_aaload rfl
theorem s65_36 : mm_wp d 65 36 ls (.ref a :: st) h Q ↔ (mm_s h a).1 = 6 ∧ mm_wp d 65 39 ls (.int (mm_i h a 5) :: st) h Q := wp_getI rfl rfl (by decide) (by decide)
theorem s65_39 : mm_wp d 65 39 ls st h Q ↔ mm_wp d 65 43 ls st h Q := wp_goto rfl rfl
theorem s65_42 : mm_wp d 65 42 ls st h Q ↔ mm_wp d 65 43 ls (.int (0 : Int32) :: st) h Q := wp_iconst rfl rfl
theorem s65_43 : mm_wp d 65 43 ls (.int x :: st) h Q ↔ Q (.inl (some (.int x))) h := wp_iret rfl rfl
/-! 66: LoadRoom$Placed.moveToZ(I)V -/
theorem s66_0 : mm_wp d 66 0 [.ref a, l1] st h Q ↔ mm_wp d 66 1 [.ref a, l1] (.ref a :: st) h Q := wp_aloadR_n rfl rfl
theorem s66_1 : mm_wp d 66 1 [l0, .int x] st h Q ↔ mm_wp d 66 2 [l0, .int x] (.int x :: st) h Q := wp_iload_n rfl rfl
theorem s66_2 : mm_wp d 66 2 ls (.int x :: .ref a :: st) h Q ↔ (mm_s h a).1 = 6 ∧ mm_wp d 66 5 ls st (mm_pi h a 5 x) Q := wp_putI rfl rfl
theorem s66_5 : mm_wp d 66 5 [.ref a, l1] st h Q ↔ mm_wp d 66 6 [.ref a, l1] (.ref a :: st) h Q := wp_aloadR_n rfl rfl
theorem s66_6 : mm_wp d 66 6 [l0, .int x] st h Q ↔ mm_wp d 66 7 [l0, .int x] (.int x :: st) h Q := wp_iload_n rfl rfl
theorem s66_7 : mm_wp d 66 7 [.ref a, l1] st h Q ↔ mm_wp d 66 8 [.ref a, l1] (.ref a :: st) h Q := wp_aloadR_n rfl rfl
theorem s66_8 : mm_wp d 66 8 ls (.ref a :: st) h Q ↔ (mm_s h a).1 = 6 ∧ mm_wp d 66 11 ls (.int (mm_i h a 11) :: st) h Q := wp_getI rfl rfl (by decide) (by decide)
theorem s66_11 : mm_wp d 66 11 ls (.int x2 :: .int x :: st) h Q ↔ mm_wp d 66 12 ls (.int (x + x2) :: st) h Q := wp_iadd rfl
theorem s66_12 : mm_wp d 66 12 ls (.int x :: .ref a :: st) h Q ↔ (mm_s h a).1 = 6 ∧ mm_wp d 66 15 ls st (mm_pi h a 8 x) Q := wp_putI rfl rfl
theorem s66_15 : mm_wp d 66 15 ls st h Q ↔ Q (.inl none) h := wp_vret rfl rfl
/-! 67: LoadRoom$Placed.moveToX(I)V -/
theorem s67_0 : mm_wp d 67 0 [.ref a, l1] st h Q ↔ mm_wp d 67 1 [.ref a, l1] (.ref a :: st) h Q := wp_aloadR_n rfl rfl
theorem s67_1 : mm_wp d 67 1 [l0, .int x] st h Q ↔ mm_wp d 67 2 [l0, .int x] (.int x :: st) h Q := wp_iload_n rfl rfl
theorem s67_2 : mm_wp d 67 2 ls (.int x :: .ref a :: st) h Q ↔ (mm_s h a).1 = 6 ∧ mm_wp d 67 5 ls st (mm_pi h a 3 x) Q := wp_putI rfl rfl
theorem s67_5 : mm_wp d 67 5 [.ref a, l1] st h Q ↔ mm_wp d 67 6 [.ref a, l1] (.ref a :: st) h Q := wp_aloadR_n rfl rfl
theorem s67_6 : mm_wp d 67 6 [l0, .int x] st h Q ↔ mm_wp d 67 7 [l0, .int x] (.int x :: st) h Q := wp_iload_n rfl rfl
theorem s67_7 : mm_wp d 67 7 [.ref a, l1] st h Q ↔ mm_wp d 67 8 [.ref a, l1] (.ref a :: st) h Q := wp_aloadR_n rfl rfl
theorem s67_8 : mm_wp d 67 8 ls (.ref a :: st) h Q ↔ (mm_s h a).1 = 6 ∧ mm_wp d 67 11 ls (.int (mm_i h a 9) :: st) h Q := wp_getI rfl rfl (by decide) (by decide)
theorem s67_11 : mm_wp d 67 11 ls (.int x2 :: .int x :: st) h Q ↔ mm_wp d 67 12 ls (.int (x + x2) :: st) h Q := wp_iadd rfl
theorem s67_12 : mm_wp d 67 12 ls (.int x :: .ref a :: st) h Q ↔ (mm_s h a).1 = 6 ∧ mm_wp d 67 15 ls st (mm_pi h a 6 x) Q := wp_putI rfl rfl
theorem s67_15 : mm_wp d 67 15 ls st h Q ↔ Q (.inl none) h := wp_vret rfl rfl
/-! 68: LoadRoom$Row.admits(LLoadRoom$Placed;)Z -/
theorem s68_0 : mm_wp d 68 0 [.ref a, l1] st h Q ↔ mm_wp d 68 1 [.ref a, l1] (.ref a :: st) h Q := wp_aloadR_n rfl rfl
theorem s68_1 : mm_wp d 68 1 [l0, .ref a] st h Q ↔ mm_wp d 68 2 [l0, .ref a] (.ref a :: st) h Q := wp_aloadR_n rfl rfl
theorem s68_1o : mm_wp d 68 1 [l0, mm_o o] st h Q ↔ mm_wp d 68 2 [l0, mm_o o] (mm_o o :: st) h Q := wp_aload_n rfl o rfl
theorem s68_1n : mm_wp d 68 1 [l0, .null] st h Q ↔ mm_wp d 68 2 [l0, .null] (.null :: st) h Q := wp_aload_n rfl none rfl
theorem s68_2 : mm_wp (d + 1) 68 2 ls [.ref b, .ref a] h Q ↔ (mm_s h a).1 = 7 ∧ mm_wp d 69 0 [.ref a, .ref b] [] h (mm_bk (d + 1) 68 2 ls [] Q) := wp_virtual rfl rfl ⟨by decide, rfl⟩ ⟨Nat.le_of_ble_eq_true rfl, Nat.le_of_ble_eq_true rfl⟩ rfl rfl rfl rfl rfl rfl
theorem s68_5 : mm_wp d 68 5 ls (.int x :: st) h Q ↔ if x = 0 then mm_wp d 68 44 ls st h Q else mm_wp d 68 8 ls st h Q := wp_ifeq rfl rfl
theorem s68_8 : mm_wp d 68 8 [.ref a, l1] st h Q ↔ mm_wp d 68 9 [.ref a, l1] (.ref a :: st) h Q := wp_aloadR_n rfl rfl
theorem s68_9 : mm_wp d 68 9 [l0, .ref a] st h Q ↔ mm_wp d 68 10 [l0, .ref a] (.ref a :: st) h Q := wp_aloadR_n rfl rfl
theorem s68_9o : mm_wp d 68 9 [l0, mm_o o] st h Q ↔ mm_wp d 68 10 [l0, mm_o o] (mm_o o :: st) h Q := wp_aload_n rfl o rfl
theorem s68_9n : mm_wp d 68 9 [l0, .null] st h Q ↔ mm_wp d 68 10 [l0, .null] (.null :: st) h Q := wp_aload_n rfl none rfl
theorem s68_10 : mm_wp (d + 1) 68 10 ls [.ref b, .ref a] h Q ↔ (mm_s h a).1 = 7 ∧ mm_wp d 71 0 [.ref a, .ref b, mm_j, mm_j] [] h (mm_bk (d + 1) 68 10 ls [] Q) := wp_virtual rfl rfl ⟨by decide, rfl⟩ ⟨Nat.le_of_ble_eq_true rfl, Nat.le_of_ble_eq_true rfl⟩ rfl rfl rfl rfl rfl rfl
theorem s68_13 : mm_wp d 68 13 ls (.int x :: st) h Q ↔ if x = 0 then mm_wp d 68 44 ls st h Q else mm_wp d 68 16 ls st h Q := wp_ifeq rfl rfl
theorem s68_16 : mm_wp d 68 16 [.ref a, l1] st h Q ↔ mm_wp d 68 17 [.ref a, l1] (.ref a :: st) h Q := wp_aloadR_n rfl rfl
theorem s68_17 : mm_wp d 68 17 [l0, .ref a] st h Q ↔ mm_wp d 68 18 [l0, .ref a] (.ref a :: st) h Q := wp_aloadR_n rfl rfl
theorem s68_17o : mm_wp d 68 17 [l0, mm_o o] st h Q ↔ mm_wp d 68 18 [l0, mm_o o] (mm_o o :: st) h Q := wp_aload_n rfl o rfl
theorem s68_17n : mm_wp d 68 17 [l0, .null] st h Q ↔ mm_wp d 68 18 [l0, .null] (.null :: st) h Q := wp_aload_n rfl none rfl
theorem s68_18 : mm_wp (d + 1) 68 18 ls [.ref b, .ref a] h Q ↔ (mm_s h a).1 = 7 ∧ mm_wp d 73 0 [.ref a, .ref b, mm_j] [] h (mm_bk (d + 1) 68 18 ls [] Q) := wp_virtual rfl rfl ⟨by decide, rfl⟩ ⟨Nat.le_of_ble_eq_true rfl, Nat.le_of_ble_eq_true rfl⟩ rfl rfl rfl rfl rfl rfl
theorem s68_21 : mm_wp d 68 21 ls (.int x :: st) h Q ↔ if x = 0 then mm_wp d 68 44 ls st h Q else mm_wp d 68 24 ls st h Q := wp_ifeq rfl rfl
theorem s68_24 : mm_wp d 68 24 [.ref a, l1] st h Q ↔ mm_wp d 68 25 [.ref a, l1] (.ref a :: st) h Q := wp_aloadR_n rfl rfl
theorem s68_25 : mm_wp d 68 25 [l0, .ref a] st h Q ↔ mm_wp d 68 26 [l0, .ref a] (.ref a :: st) h Q := wp_aloadR_n rfl rfl
theorem s68_25o : mm_wp d 68 25 [l0, mm_o o] st h Q ↔ mm_wp d 68 26 [l0, mm_o o] (mm_o o :: st) h Q := wp_aload_n rfl o rfl
theorem s68_25n : mm_wp d 68 25 [l0, .null] st h Q ↔ mm_wp d 68 26 [l0, .null] (.null :: st) h Q := wp_aload_n rfl none rfl
theorem s68_26 : mm_wp (d + 1) 68 26 ls [.ref b, .ref a] h Q ↔ (mm_s h a).1 = 7 ∧ mm_wp d 75 0 [.ref a, .ref b, mm_j, mm_j] [] h (mm_bk (d + 1) 68 26 ls [] Q) := wp_virtual rfl rfl ⟨by decide, rfl⟩ ⟨Nat.le_of_ble_eq_true rfl, Nat.le_of_ble_eq_true rfl⟩ rfl rfl rfl rfl rfl rfl
theorem s68_29 : mm_wp d 68 29 ls (.int x :: st) h Q ↔ if x = 0 then mm_wp d 68 44 ls st h Q else mm_wp d 68 32 ls st h Q := wp_ifeq rfl rfl
theorem s68_32 : mm_wp d 68 32 [.ref a, l1] st h Q ↔ mm_wp d 68 33 [.ref a, l1] (.ref a :: st) h Q := wp_aloadR_n rfl rfl
theorem s68_33 : mm_wp d 68 33 [l0, .ref a] st h Q ↔ mm_wp d 68 34 [l0, .ref a] (.ref a :: st) h Q := wp_aloadR_n rfl rfl
theorem s68_33o : mm_wp d 68 33 [l0, mm_o o] st h Q ↔ mm_wp d 68 34 [l0, mm_o o] (mm_o o :: st) h Q := wp_aload_n rfl o rfl
theorem s68_33n : mm_wp d 68 33 [l0, .null] st h Q ↔ mm_wp d 68 34 [l0, .null] (.null :: st) h Q := wp_aload_n rfl none rfl
theorem s68_34 : mm_wp (d + 1) 68 34 ls [.ref b, .ref a] h Q ↔ (mm_s h a).1 = 7 ∧ mm_wp d 77 0 [.ref a, .ref b, mm_j] [] h (mm_bk (d + 1) 68 34 ls [] Q) := wp_virtual rfl rfl ⟨by decide, rfl⟩ ⟨Nat.le_of_ble_eq_true rfl, Nat.le_of_ble_eq_true rfl⟩ rfl rfl rfl rfl rfl rfl
theorem s68_37 : mm_wp d 68 37 ls (.int x :: st) h Q ↔ if x = 0 then mm_wp d 68 44 ls st h Q else mm_wp d 68 40 ls st h Q := wp_ifeq rfl rfl
theorem s68_40 : mm_wp d 68 40 ls st h Q ↔ mm_wp d 68 41 ls (.int (1 : Int32) :: st) h Q := wp_iconst rfl rfl
theorem s68_41 : mm_wp d 68 41 ls st h Q ↔ mm_wp d 68 45 ls st h Q := wp_goto rfl rfl
theorem s68_44 : mm_wp d 68 44 ls st h Q ↔ mm_wp d 68 45 ls (.int (0 : Int32) :: st) h Q := wp_iconst rfl rfl
theorem s68_45 : mm_wp d 68 45 ls (.int x :: st) h Q ↔ (x = 0 ∨ x = 1) ∧ Q (.inl (some (.int x))) h := wp_zret rfl rfl
/-! 69: LoadRoom$Row.isRising(LLoadRoom$Placed;)Z -/
theorem s69_0 : mm_wp d 69 0 [.ref a, l1] st h Q ↔ mm_wp d 69 1 [.ref a, l1] (.ref a :: st) h Q := wp_aloadR_n rfl rfl
theorem s69_1 : mm_wp d 69 1 ls (.ref a :: st) h Q ↔ (mm_s h a).1 = 7 ∧ mm_wp d 69 4 ls (.int (mm_i h a 1) :: st) h Q := wp_getI rfl rfl (by decide) (by decide)
theorem s69_4 : mm_wp d 69 4 ls (.int x :: st) h Q ↔ if x = 0 then mm_wp d 69 25 ls st h Q else mm_wp d 69 7 ls st h Q := wp_ifeq rfl rfl
theorem s69_7 : mm_wp d 69 7 [l0, .ref a] st h Q ↔ mm_wp d 69 8 [l0, .ref a] (.ref a :: st) h Q := wp_aloadR_n rfl rfl
theorem s69_7o : mm_wp d 69 7 [l0, mm_o o] st h Q ↔ mm_wp d 69 8 [l0, mm_o o] (mm_o o :: st) h Q := wp_aload_n rfl o rfl
theorem s69_7n : mm_wp d 69 7 [l0, .null] st h Q ↔ mm_wp d 69 8 [l0, .null] (.null :: st) h Q := wp_aload_n rfl none rfl
theorem s69_8 : mm_wp d 69 8 [.ref a, l1] st h Q ↔ mm_wp d 69 9 [.ref a, l1] (.ref a :: st) h Q := wp_aloadR_n rfl rfl
theorem s69_9 : mm_wp d 69 9 ls (.ref a :: st) h Q ↔ (mm_s h a).1 = 7 ∧ mm_wp d 69 12 ls (mm_o (mm_r h a 0) :: st) h Q := wp_getR rfl rfl
theorem s69_12 : mm_wp d 69 12 [.ref a, l1] st h Q ↔ mm_wp d 69 13 [.ref a, l1] (.ref a :: st) h Q := wp_aloadR_n rfl rfl
theorem s69_13 : mm_wp d 69 13 ls (.ref a :: st) h Q ↔ (mm_s h a).1 = 7 ∧ mm_wp d 69 16 ls (.int (mm_i h a 1) :: st) h Q := wp_getI rfl rfl (by decide) (by decide)
theorem s69_16 : mm_wp d 69 16 ls st h Q ↔ mm_wp d 69 17 ls (.int (1 : Int32) :: st) h Q := wp_iconst rfl rfl
theorem s69_17 : mm_wp d 69 17 ls (.int x2 :: .int x :: st) h Q ↔ mm_wp d 69 18 ls (.int (x - x2) :: st) h Q := wp_isub rfl
theorem s69_18 : mm_wp d 69 18 ls (.int x :: .ref a :: st) h Q ↔ (23 ≤ (mm_s h a).1 ∧ (mm_s h a).1 ≤ 26 ∧ mm_in x (mm_s h a).2 = true) ∧ mm_wp d 69 19 ls (mm_o (mm_r h a x.toNatClampNeg) :: st) h Q := wp_aaload rfl
theorem s69_19 : mm_wp (d + 1) 69 19 ls [.ref b, .ref a] h Q ↔ (mm_s h a).1 = 6 ∧ mm_wp d 70 0 [.ref a, .ref b] [] h (mm_bk (d + 1) 69 19 ls [] Q) := wp_virtual rfl rfl ⟨by decide, rfl⟩ ⟨Nat.le_of_ble_eq_true rfl, Nat.le_of_ble_eq_true rfl⟩ rfl rfl rfl rfl rfl rfl
theorem s69_22 : mm_wp d 69 22 ls (.int x :: st) h Q ↔ if x = 0 then mm_wp d 69 29 ls st h Q else mm_wp d 69 25 ls st h Q := wp_ifeq rfl rfl
theorem s69_25 : mm_wp d 69 25 ls st h Q ↔ mm_wp d 69 26 ls (.int (1 : Int32) :: st) h Q := wp_iconst rfl rfl
theorem s69_26 : mm_wp d 69 26 ls st h Q ↔ mm_wp d 69 30 ls st h Q := wp_goto rfl rfl
theorem s69_29 : mm_wp d 69 29 ls st h Q ↔ mm_wp d 69 30 ls (.int (0 : Int32) :: st) h Q := wp_iconst rfl rfl
theorem s69_30 : mm_wp d 69 30 ls (.int x :: st) h Q ↔ (x = 0 ∨ x = 1) ∧ Q (.inl (some (.int x))) h := wp_zret rfl rfl
/-! 70: LoadRoom$Placed.isPast(LLoadRoom$Placed;)Z -/
theorem s70_0 : mm_wp d 70 0 [.ref a, l1] st h Q ↔ mm_wp d 70 1 [.ref a, l1] (.ref a :: st) h Q := wp_aloadR_n rfl rfl
theorem s70_1 : mm_wp d 70 1 ls (.ref a :: st) h Q ↔ (mm_s h a).1 = 6 ∧ mm_wp d 70 4 ls (.int (mm_i h a 4) :: st) h Q := wp_getI rfl rfl (by decide) (by decide)
theorem s70_4 : mm_wp d 70 4 [l0, .ref a] st h Q ↔ mm_wp d 70 5 [l0, .ref a] (.ref a :: st) h Q := wp_aloadR_n rfl rfl
theorem s70_4o : mm_wp d 70 4 [l0, mm_o o] st h Q ↔ mm_wp d 70 5 [l0, mm_o o] (mm_o o :: st) h Q := wp_aload_n rfl o rfl
theorem s70_4n : mm_wp d 70 4 [l0, .null] st h Q ↔ mm_wp d 70 5 [l0, .null] (.null :: st) h Q := wp_aload_n rfl none rfl
theorem s70_5 : mm_wp d 70 5 ls (.ref a :: st) h Q ↔ (mm_s h a).1 = 6 ∧ mm_wp d 70 8 ls (.int (mm_i h a 4) :: st) h Q := wp_getI rfl rfl (by decide) (by decide)
theorem s70_8 : mm_wp d 70 8 ls (.int x2 :: .int x :: st) h Q ↔ if x = x2 then mm_wp d 70 28 ls st h Q else mm_wp d 70 11 ls st h Q := wp_icmpeq rfl rfl
theorem s70_11 : mm_wp d 70 11 [.ref a, l1] st h Q ↔ mm_wp d 70 12 [.ref a, l1] (.ref a :: st) h Q := wp_aloadR_n rfl rfl
theorem s70_12 : mm_wp d 70 12 ls (.ref a :: st) h Q ↔ (mm_s h a).1 = 6 ∧ mm_wp d 70 15 ls (.int (mm_i h a 4) :: st) h Q := wp_getI rfl rfl (by decide) (by decide)
theorem s70_15 : mm_wp d 70 15 [l0, .ref a] st h Q ↔ mm_wp d 70 16 [l0, .ref a] (.ref a :: st) h Q := wp_aloadR_n rfl rfl
theorem s70_15o : mm_wp d 70 15 [l0, mm_o o] st h Q ↔ mm_wp d 70 16 [l0, mm_o o] (mm_o o :: st) h Q := wp_aload_n rfl o rfl
theorem s70_15n : mm_wp d 70 15 [l0, .null] st h Q ↔ mm_wp d 70 16 [l0, .null] (.null :: st) h Q := wp_aload_n rfl none rfl
theorem s70_16 : mm_wp d 70 16 ls (.ref a :: st) h Q ↔ (mm_s h a).1 = 6 ∧ mm_wp d 70 19 ls (.int (mm_i h a 4) :: st) h Q := wp_getI rfl rfl (by decide) (by decide)
theorem s70_19 : mm_wp d 70 19 ls (.int x2 :: .int x :: st) h Q ↔ if x ≤ x2 then mm_wp d 70 26 ls st h Q else mm_wp d 70 22 ls st h Q := wp_icmple rfl rfl
theorem s70_22 : mm_wp d 70 22 ls st h Q ↔ mm_wp d 70 23 ls (.int (1 : Int32) :: st) h Q := wp_iconst rfl rfl
theorem s70_23 : mm_wp d 70 23 ls st h Q ↔ mm_wp d 70 27 ls st h Q := wp_goto rfl rfl
theorem s70_26 : mm_wp d 70 26 ls st h Q ↔ mm_wp d 70 27 ls (.int (0 : Int32) :: st) h Q := wp_iconst rfl rfl
theorem s70_27 : mm_wp d 70 27 ls (.int x :: st) h Q ↔ (x = 0 ∨ x = 1) ∧ Q (.inl (some (.int x))) h := wp_zret rfl rfl
theorem s70_28 : mm_wp d 70 28 [.ref a, l1] st h Q ↔ mm_wp d 70 29 [.ref a, l1] (.ref a :: st) h Q := wp_aloadR_n rfl rfl
theorem s70_29 : mm_wp d 70 29 ls (.ref a :: st) h Q ↔ (mm_s h a).1 = 6 ∧ mm_wp d 70 32 ls (.int (mm_i h a 5) :: st) h Q := wp_getI rfl rfl (by decide) (by decide)
theorem s70_32 : mm_wp d 70 32 [l0, .ref a] st h Q ↔ mm_wp d 70 33 [l0, .ref a] (.ref a :: st) h Q := wp_aloadR_n rfl rfl
theorem s70_32o : mm_wp d 70 32 [l0, mm_o o] st h Q ↔ mm_wp d 70 33 [l0, mm_o o] (mm_o o :: st) h Q := wp_aload_n rfl o rfl
theorem s70_32n : mm_wp d 70 32 [l0, .null] st h Q ↔ mm_wp d 70 33 [l0, .null] (.null :: st) h Q := wp_aload_n rfl none rfl
theorem s70_33 : mm_wp d 70 33 ls (.ref a :: st) h Q ↔ (mm_s h a).1 = 6 ∧ mm_wp d 70 36 ls (.int (mm_i h a 5) :: st) h Q := wp_getI rfl rfl (by decide) (by decide)
theorem s70_36 : mm_wp d 70 36 ls (.int x2 :: .int x :: st) h Q ↔ if x = x2 then mm_wp d 70 58 ls st h Q else mm_wp d 70 39 ls st h Q := wp_icmpeq rfl rfl
theorem s70_39 : mm_wp d 70 39 [.ref a, l1] st h Q ↔ mm_wp d 70 40 [.ref a, l1] (.ref a :: st) h Q := wp_aloadR_n rfl rfl
theorem s70_40 : mm_wp d 70 40 ls (.ref a :: st) h Q ↔ (mm_s h a).1 = 6 ∧ mm_wp d 70 43 ls (.int (mm_i h a 5) :: st) h Q := wp_getI rfl rfl (by decide) (by decide)
theorem s70_43 : mm_wp d 70 43 [l0, .ref a] st h Q ↔ mm_wp d 70 44 [l0, .ref a] (.ref a :: st) h Q := wp_aloadR_n rfl rfl
theorem s70_43o : mm_wp d 70 43 [l0, mm_o o] st h Q ↔ mm_wp d 70 44 [l0, mm_o o] (mm_o o :: st) h Q := wp_aload_n rfl o rfl
theorem s70_43n : mm_wp d 70 43 [l0, .null] st h Q ↔ mm_wp d 70 44 [l0, .null] (.null :: st) h Q := wp_aload_n rfl none rfl
theorem s70_44 : mm_wp d 70 44 ls (.ref a :: st) h Q ↔ (mm_s h a).1 = 6 ∧ mm_wp d 70 47 ls (.int (mm_i h a 5) :: st) h Q := wp_getI rfl rfl (by decide) (by decide)
theorem s70_47 : mm_wp d 70 47 ls (.int x2 :: .int x :: st) h Q ↔ if x ≤ x2 then mm_wp d 70 54 ls st h Q else mm_wp d 70 50 ls st h Q := wp_icmple rfl rfl
theorem s70_50 : mm_wp d 70 50 ls st h Q ↔ mm_wp d 70 51 ls (.int (1 : Int32) :: st) h Q := wp_iconst rfl rfl
theorem s70_51 : mm_wp d 70 51 ls st h Q ↔ mm_wp d 70 74 ls st h Q := wp_goto rfl rfl
theorem s70_54 : mm_wp d 70 54 ls st h Q ↔ mm_wp d 70 55 ls (.int (0 : Int32) :: st) h Q := wp_iconst rfl rfl
theorem s70_55 : mm_wp d 70 55 ls st h Q ↔ mm_wp d 70 74 ls st h Q := wp_goto rfl rfl
theorem s70_58 : mm_wp d 70 58 [.ref a, l1] st h Q ↔ mm_wp d 70 59 [.ref a, l1] (.ref a :: st) h Q := wp_aloadR_n rfl rfl
theorem s70_59 : mm_wp d 70 59 ls (.ref a :: st) h Q ↔ (mm_s h a).1 = 6 ∧ mm_wp d 70 62 ls (.int (mm_i h a 3) :: st) h Q := wp_getI rfl rfl (by decide) (by decide)
theorem s70_62 : mm_wp d 70 62 [l0, .ref a] st h Q ↔ mm_wp d 70 63 [l0, .ref a] (.ref a :: st) h Q := wp_aloadR_n rfl rfl
theorem s70_62o : mm_wp d 70 62 [l0, mm_o o] st h Q ↔ mm_wp d 70 63 [l0, mm_o o] (mm_o o :: st) h Q := wp_aload_n rfl o rfl
theorem s70_62n : mm_wp d 70 62 [l0, .null] st h Q ↔ mm_wp d 70 63 [l0, .null] (.null :: st) h Q := wp_aload_n rfl none rfl
theorem s70_63 : mm_wp d 70 63 ls (.ref a :: st) h Q ↔ (mm_s h a).1 = 6 ∧ mm_wp d 70 66 ls (.int (mm_i h a 3) :: st) h Q := wp_getI rfl rfl (by decide) (by decide)
theorem s70_66 : mm_wp d 70 66 ls (.int x2 :: .int x :: st) h Q ↔ if x ≤ x2 then mm_wp d 70 73 ls st h Q else mm_wp d 70 69 ls st h Q := wp_icmple rfl rfl
theorem s70_69 : mm_wp d 70 69 ls st h Q ↔ mm_wp d 70 70 ls (.int (1 : Int32) :: st) h Q := wp_iconst rfl rfl
theorem s70_70 : mm_wp d 70 70 ls st h Q ↔ mm_wp d 70 74 ls st h Q := wp_goto rfl rfl
theorem s70_73 : mm_wp d 70 73 ls st h Q ↔ mm_wp d 70 74 ls (.int (0 : Int32) :: st) h Q := wp_iconst rfl rfl
theorem s70_74 : mm_wp d 70 74 ls (.int x :: st) h Q ↔ (x = 0 ∨ x = 1) ∧ Q (.inl (some (.int x))) h := wp_zret rfl rfl
/-! 71: LoadRoom$Row.letsStand(LLoadRoom$Placed;)Z -/
theorem s71_0 : mm_wp d 71 0 [l0, .ref a, l2, l3] st h Q ↔ mm_wp d 71 1 [l0, .ref a, l2, l3] (.ref a :: st) h Q := wp_aloadR_n rfl rfl
theorem s71_0o : mm_wp d 71 0 [l0, mm_o o, l2, l3] st h Q ↔ mm_wp d 71 1 [l0, mm_o o, l2, l3] (mm_o o :: st) h Q := wp_aload_n rfl o rfl
theorem s71_0n : mm_wp d 71 0 [l0, .null, l2, l3] st h Q ↔ mm_wp d 71 1 [l0, .null, l2, l3] (.null :: st) h Q := wp_aload_n rfl none rfl
theorem s71_1 : mm_wp d 71 1 ls (.ref a :: st) h Q ↔ (mm_s h a).1 = 6 ∧ mm_wp d 71 4 ls (.int (mm_i h a 4) :: st) h Q := wp_getI rfl rfl (by decide) (by decide)
theorem s71_4 : mm_wp d 71 4 ls (.int x :: st) h Q ↔ if x = 0 then mm_wp d 71 7 ls st h Q else mm_wp d 71 9 ls st h Q := wp_ifne rfl rfl
theorem s71_7 : mm_wp d 71 7 ls st h Q ↔ mm_wp d 71 8 ls (.int (1 : Int32) :: st) h Q := wp_iconst rfl rfl
theorem s71_8 : mm_wp d 71 8 ls (.int x :: st) h Q ↔ (x = 0 ∨ x = 1) ∧ Q (.inl (some (.int x))) h := wp_zret rfl rfl
theorem s71_9 : mm_wp d 71 9 ls st h Q ↔ mm_wp d 71 10 ls (.int (0 : Int32) :: st) h Q := wp_iconst rfl rfl
theorem s71_10 : mm_wp d 71 10 [l0, l1, l2, l3] (.int x :: st) h Q ↔ mm_wp d 71 11 [l0, l1, .int x, l3] st h Q := wp_istore_n rfl rfl
theorem s71_11 : mm_wp d 71 11 ls st h Q ↔ mm_wp d 71 12 ls (.int (0 : Int32) :: st) h Q := wp_iconst rfl rfl
theorem s71_12 : mm_wp d 71 12 [l0, l1, l2, l3] (.int x :: st) h Q ↔ mm_wp d 71 13 [l0, l1, l2, .int x] st h Q := wp_istore_n rfl rfl
theorem s71_13 : mm_wp d 71 13 [l0, l1, l2, .int x] st h Q ↔ mm_wp d 71 14 [l0, l1, l2, .int x] (.int x :: st) h Q := wp_iload_n rfl rfl
theorem s71_14 : mm_wp d 71 14 [.ref a, l1, l2, l3] st h Q ↔ mm_wp d 71 15 [.ref a, l1, l2, l3] (.ref a :: st) h Q := wp_aloadR_n rfl rfl
theorem s71_15 : mm_wp d 71 15 ls (.ref a :: st) h Q ↔ (mm_s h a).1 = 7 ∧ mm_wp d 71 18 ls (.int (mm_i h a 1) :: st) h Q := wp_getI rfl rfl (by decide) (by decide)
theorem s71_18 : mm_wp d 71 18 ls (.int x2 :: .int x :: st) h Q ↔ if x2 ≤ x then mm_wp d 71 40 ls st h Q else mm_wp d 71 21 ls st h Q := wp_icmpge rfl rfl
theorem s71_21 : mm_wp d 71 21 [l0, l1, .int x, l3] st h Q ↔ mm_wp d 71 22 [l0, l1, .int x, l3] (.int x :: st) h Q := wp_iload_n rfl rfl
theorem s71_22 : mm_wp d 71 22 [l0, .ref a, l2, l3] st h Q ↔ mm_wp d 71 23 [l0, .ref a, l2, l3] (.ref a :: st) h Q := wp_aloadR_n rfl rfl
theorem s71_22o : mm_wp d 71 22 [l0, mm_o o, l2, l3] st h Q ↔ mm_wp d 71 23 [l0, mm_o o, l2, l3] (mm_o o :: st) h Q := wp_aload_n rfl o rfl
theorem s71_22n : mm_wp d 71 22 [l0, .null, l2, l3] st h Q ↔ mm_wp d 71 23 [l0, .null, l2, l3] (.null :: st) h Q := wp_aload_n rfl none rfl
theorem s71_23 : mm_wp d 71 23 [.ref a, l1, l2, l3] st h Q ↔ mm_wp d 71 24 [.ref a, l1, l2, l3] (.ref a :: st) h Q := wp_aloadR_n rfl rfl
theorem s71_24 : mm_wp d 71 24 ls (.ref a :: st) h Q ↔ (mm_s h a).1 = 7 ∧ mm_wp d 71 27 ls (mm_o (mm_r h a 0) :: st) h Q := wp_getR rfl rfl
theorem s71_27 : mm_wp d 71 27 [l0, l1, l2, .int x] st h Q ↔ mm_wp d 71 28 [l0, l1, l2, .int x] (.int x :: st) h Q := wp_iload_n rfl rfl
theorem s71_28 : mm_wp d 71 28 ls (.int x :: .ref a :: st) h Q ↔ (23 ≤ (mm_s h a).1 ∧ (mm_s h a).1 ≤ 26 ∧ mm_in x (mm_s h a).2 = true) ∧ mm_wp d 71 29 ls (mm_o (mm_r h a x.toNatClampNeg) :: st) h Q := wp_aaload rfl
theorem s71_29 : mm_wp (d + 1) 71 29 ls [.ref b, .ref a, t0] h Q ↔ (mm_s h a).1 = 6 ∧ mm_wp d 72 0 [.ref a, .ref b, mm_j, mm_j] [] h (mm_bk (d + 1) 71 29 ls [t0] Q) := wp_virtual rfl rfl ⟨by decide, rfl⟩ ⟨Nat.le_of_ble_eq_true rfl, Nat.le_of_ble_eq_true rfl⟩ rfl rfl rfl rfl rfl rfl
theorem s71_32 : mm_wp d 71 32 ls (.int x2 :: .int x :: st) h Q ↔ mm_wp d 71 33 ls (.int (x + x2) :: st) h Q := wp_iadd rfl
theorem s71_33 : mm_wp d 71 33 [l0, l1, l2, l3] (.int x :: st) h Q ↔ mm_wp d 71 34 [l0, l1, .int x, l3] st h Q := wp_istore_n rfl rfl
theorem s71_34 : mm_wp d 71 34 [l0, l1, l2, .int x] st h Q ↔ mm_wp d 71 37 [l0, l1, l2, .int (x + (1 : Int32))] st h Q := wp_iinc rfl rfl rfl rfl
theorem s71_37 : mm_wp d 71 37 ls st h Q ↔ mm_wp d 71 13 ls st h Q := wp_goto rfl rfl
theorem s71_40 : mm_wp d 71 40 [l0, l1, .int x, l3] st h Q ↔ mm_wp d 71 41 [l0, l1, .int x, l3] (.int x :: st) h Q := wp_iload_n rfl rfl
theorem s71_41 : mm_wp d 71 41 [l0, .ref a, l2, l3] st h Q ↔ mm_wp d 71 42 [l0, .ref a, l2, l3] (.ref a :: st) h Q := wp_aloadR_n rfl rfl
theorem s71_41o : mm_wp d 71 41 [l0, mm_o o, l2, l3] st h Q ↔ mm_wp d 71 42 [l0, mm_o o, l2, l3] (mm_o o :: st) h Q := wp_aload_n rfl o rfl
theorem s71_41n : mm_wp d 71 41 [l0, .null, l2, l3] st h Q ↔ mm_wp d 71 42 [l0, .null, l2, l3] (.null :: st) h Q := wp_aload_n rfl none rfl
theorem s71_42 : mm_wp d 71 42 ls (.ref a :: st) h Q ↔ (mm_s h a).1 = 6 ∧ mm_wp d 71 45 ls (.int (mm_i h a 9) :: st) h Q := wp_getI rfl rfl (by decide) (by decide)
theorem s71_45 : mm_wp d 71 45 [l0, .ref a, l2, l3] st h Q ↔ mm_wp d 71 46 [l0, .ref a, l2, l3] (.ref a :: st) h Q := wp_aloadR_n rfl rfl
theorem s71_45o : mm_wp d 71 45 [l0, mm_o o, l2, l3] st h Q ↔ mm_wp d 71 46 [l0, mm_o o, l2, l3] (mm_o o :: st) h Q := wp_aload_n rfl o rfl
theorem s71_45n : mm_wp d 71 45 [l0, .null, l2, l3] st h Q ↔ mm_wp d 71 46 [l0, .null, l2, l3] (.null :: st) h Q := wp_aload_n rfl none rfl
theorem s71_46 : mm_wp d 71 46 ls (.ref a :: st) h Q ↔ (mm_s h a).1 = 6 ∧ mm_wp d 71 49 ls (.int (mm_i h a 11) :: st) h Q := wp_getI rfl rfl (by decide) (by decide)
theorem s71_49 : mm_wp d 71 49 ls (.int x2 :: .int x :: st) h Q ↔ mm_wp d 71 50 ls (.int (x * x2) :: st) h Q := wp_imul rfl
theorem s71_50 : mm_wp d 71 50 ls (.int x2 :: .int x :: st) h Q ↔ if x = x2 then mm_wp d 71 53 ls st h Q else mm_wp d 71 57 ls st h Q := wp_icmpne rfl rfl
theorem s71_53 : mm_wp d 71 53 ls st h Q ↔ mm_wp d 71 54 ls (.int (1 : Int32) :: st) h Q := wp_iconst rfl rfl
theorem s71_54 : mm_wp d 71 54 ls st h Q ↔ mm_wp d 71 58 ls st h Q := wp_goto rfl rfl
theorem s71_57 : mm_wp d 71 57 ls st h Q ↔ mm_wp d 71 58 ls (.int (0 : Int32) :: st) h Q := wp_iconst rfl rfl
theorem s71_58 : mm_wp d 71 58 ls (.int x :: st) h Q ↔ (x = 0 ∨ x = 1) ∧ Q (.inl (some (.int x))) h := wp_zret rfl rfl
/-! 72: LoadRoom$Placed.restsOn(LLoadRoom$Placed;)I -/
theorem s72_0 : mm_wp d 72 0 [.ref a, l1, l2, l3] st h Q ↔ mm_wp d 72 1 [.ref a, l1, l2, l3] (.ref a :: st) h Q := wp_aloadR_n rfl rfl
theorem s72_1 : mm_wp d 72 1 ls (.ref a :: st) h Q ↔ (mm_s h a).1 = 6 ∧ mm_wp d 72 4 ls (.int (mm_i h a 4) :: st) h Q := wp_getI rfl rfl (by decide) (by decide)
theorem s72_4 : mm_wp d 72 4 [l0, .ref a, l2, l3] st h Q ↔ mm_wp d 72 5 [l0, .ref a, l2, l3] (.ref a :: st) h Q := wp_aloadR_n rfl rfl
theorem s72_4o : mm_wp d 72 4 [l0, mm_o o, l2, l3] st h Q ↔ mm_wp d 72 5 [l0, mm_o o, l2, l3] (mm_o o :: st) h Q := wp_aload_n rfl o rfl
theorem s72_4n : mm_wp d 72 4 [l0, .null, l2, l3] st h Q ↔ mm_wp d 72 5 [l0, .null, l2, l3] (.null :: st) h Q := wp_aload_n rfl none rfl
theorem s72_5 : mm_wp d 72 5 ls (.ref a :: st) h Q ↔ (mm_s h a).1 = 6 ∧ mm_wp d 72 8 ls (.int (mm_i h a 7) :: st) h Q := wp_getI rfl rfl (by decide) (by decide)
theorem s72_8 : mm_wp d 72 8 ls (.int x2 :: .int x :: st) h Q ↔ if x = x2 then mm_wp d 72 13 ls st h Q else mm_wp d 72 11 ls st h Q := wp_icmpeq rfl rfl
theorem s72_11 : mm_wp d 72 11 ls st h Q ↔ mm_wp d 72 12 ls (.int (0 : Int32) :: st) h Q := wp_iconst rfl rfl
theorem s72_12 : mm_wp d 72 12 ls (.int x :: st) h Q ↔ Q (.inl (some (.int x))) h := wp_iret rfl rfl
theorem s72_13 : mm_wp d 72 13 [.ref a, l1, l2, l3] st h Q ↔ mm_wp d 72 14 [.ref a, l1, l2, l3] (.ref a :: st) h Q := wp_aloadR_n rfl rfl
theorem s72_14 : mm_wp d 72 14 ls (.ref a :: st) h Q ↔ (mm_s h a).1 = 6 ∧ mm_wp d 72 17 ls (.int (mm_i h a 6) :: st) h Q := wp_getI rfl rfl (by decide) (by decide)
theorem s72_17 : mm_wp d 72 17 [l0, .ref a, l2, l3] st h Q ↔ mm_wp d 72 18 [l0, .ref a, l2, l3] (.ref a :: st) h Q := wp_aloadR_n rfl rfl
theorem s72_17o : mm_wp d 72 17 [l0, mm_o o, l2, l3] st h Q ↔ mm_wp d 72 18 [l0, mm_o o, l2, l3] (mm_o o :: st) h Q := wp_aload_n rfl o rfl
theorem s72_17n : mm_wp d 72 17 [l0, .null, l2, l3] st h Q ↔ mm_wp d 72 18 [l0, .null, l2, l3] (.null :: st) h Q := wp_aload_n rfl none rfl
theorem s72_18 : mm_wp d 72 18 ls (.ref a :: st) h Q ↔ (mm_s h a).1 = 6 ∧ mm_wp d 72 21 ls (.int (mm_i h a 6) :: st) h Q := wp_getI rfl rfl (by decide) (by decide)
theorem s72_21 : mm_wp (d + 1) 72 21 ls [.int x2, .int x] h Q ↔ mm_wp d 3 0 [.int x, .int x2] [] h (mm_bk (d + 1) 72 21 ls [] Q) := wp_static rfl rfl ⟨by decide, rfl⟩ ⟨Nat.le_of_ble_eq_true rfl, Nat.le_of_ble_eq_true rfl⟩ rfl rfl rfl rfl
theorem s72_24 : mm_wp d 72 24 [.ref a, l1, l2, l3] st h Q ↔ mm_wp d 72 25 [.ref a, l1, l2, l3] (.ref a :: st) h Q := wp_aloadR_n rfl rfl
theorem s72_25 : mm_wp d 72 25 ls (.ref a :: st) h Q ↔ (mm_s h a).1 = 6 ∧ mm_wp d 72 28 ls (.int (mm_i h a 3) :: st) h Q := wp_getI rfl rfl (by decide) (by decide)
theorem s72_28 : mm_wp d 72 28 [l0, .ref a, l2, l3] st h Q ↔ mm_wp d 72 29 [l0, .ref a, l2, l3] (.ref a :: st) h Q := wp_aloadR_n rfl rfl
theorem s72_28o : mm_wp d 72 28 [l0, mm_o o, l2, l3] st h Q ↔ mm_wp d 72 29 [l0, mm_o o, l2, l3] (mm_o o :: st) h Q := wp_aload_n rfl o rfl
theorem s72_28n : mm_wp d 72 28 [l0, .null, l2, l3] st h Q ↔ mm_wp d 72 29 [l0, .null, l2, l3] (.null :: st) h Q := wp_aload_n rfl none rfl
theorem s72_29 : mm_wp d 72 29 ls (.ref a :: st) h Q ↔ (mm_s h a).1 = 6 ∧ mm_wp d 72 32 ls (.int (mm_i h a 3) :: st) h Q := wp_getI rfl rfl (by decide) (by decide)
theorem s72_32 : mm_wp (d + 1) 72 32 ls [.int x2, .int x, t0] h Q ↔ mm_wp d 4 0 [.int x, .int x2] [] h (mm_bk (d + 1) 72 32 ls [t0] Q) := wp_static rfl rfl ⟨by decide, rfl⟩ ⟨Nat.le_of_ble_eq_true rfl, Nat.le_of_ble_eq_true rfl⟩ rfl rfl rfl rfl
theorem s72_35 : mm_wp d 72 35 ls (.int x2 :: .int x :: st) h Q ↔ mm_wp d 72 36 ls (.int (x - x2) :: st) h Q := wp_isub rfl
theorem s72_36 : mm_wp d 72 36 [l0, l1, l2, l3] (.int x :: st) h Q ↔ mm_wp d 72 37 [l0, l1, .int x, l3] st h Q := wp_istore_n rfl rfl
theorem s72_37 : mm_wp d 72 37 [.ref a, l1, l2, l3] st h Q ↔ mm_wp d 72 38 [.ref a, l1, l2, l3] (.ref a :: st) h Q := wp_aloadR_n rfl rfl
theorem s72_38 : mm_wp d 72 38 ls (.ref a :: st) h Q ↔ (mm_s h a).1 = 6 ∧ mm_wp d 72 41 ls (.int (mm_i h a 8) :: st) h Q := wp_getI rfl rfl (by decide) (by decide)
theorem s72_41 : mm_wp d 72 41 [l0, .ref a, l2, l3] st h Q ↔ mm_wp d 72 42 [l0, .ref a, l2, l3] (.ref a :: st) h Q := wp_aloadR_n rfl rfl
theorem s72_41o : mm_wp d 72 41 [l0, mm_o o, l2, l3] st h Q ↔ mm_wp d 72 42 [l0, mm_o o, l2, l3] (mm_o o :: st) h Q := wp_aload_n rfl o rfl
theorem s72_41n : mm_wp d 72 41 [l0, .null, l2, l3] st h Q ↔ mm_wp d 72 42 [l0, .null, l2, l3] (.null :: st) h Q := wp_aload_n rfl none rfl
theorem s72_42 : mm_wp d 72 42 ls (.ref a :: st) h Q ↔ (mm_s h a).1 = 6 ∧ mm_wp d 72 45 ls (.int (mm_i h a 8) :: st) h Q := wp_getI rfl rfl (by decide) (by decide)
theorem s72_45 : mm_wp (d + 1) 72 45 ls [.int x2, .int x] h Q ↔ mm_wp d 3 0 [.int x, .int x2] [] h (mm_bk (d + 1) 72 45 ls [] Q) := wp_static rfl rfl ⟨by decide, rfl⟩ ⟨Nat.le_of_ble_eq_true rfl, Nat.le_of_ble_eq_true rfl⟩ rfl rfl rfl rfl
theorem s72_48 : mm_wp d 72 48 [.ref a, l1, l2, l3] st h Q ↔ mm_wp d 72 49 [.ref a, l1, l2, l3] (.ref a :: st) h Q := wp_aloadR_n rfl rfl
theorem s72_49 : mm_wp d 72 49 ls (.ref a :: st) h Q ↔ (mm_s h a).1 = 6 ∧ mm_wp d 72 52 ls (.int (mm_i h a 5) :: st) h Q := wp_getI rfl rfl (by decide) (by decide)
theorem s72_52 : mm_wp d 72 52 [l0, .ref a, l2, l3] st h Q ↔ mm_wp d 72 53 [l0, .ref a, l2, l3] (.ref a :: st) h Q := wp_aloadR_n rfl rfl
theorem s72_52o : mm_wp d 72 52 [l0, mm_o o, l2, l3] st h Q ↔ mm_wp d 72 53 [l0, mm_o o, l2, l3] (mm_o o :: st) h Q := wp_aload_n rfl o rfl
theorem s72_52n : mm_wp d 72 52 [l0, .null, l2, l3] st h Q ↔ mm_wp d 72 53 [l0, .null, l2, l3] (.null :: st) h Q := wp_aload_n rfl none rfl
theorem s72_53 : mm_wp d 72 53 ls (.ref a :: st) h Q ↔ (mm_s h a).1 = 6 ∧ mm_wp d 72 56 ls (.int (mm_i h a 5) :: st) h Q := wp_getI rfl rfl (by decide) (by decide)
theorem s72_56 : mm_wp (d + 1) 72 56 ls [.int x2, .int x, t0] h Q ↔ mm_wp d 4 0 [.int x, .int x2] [] h (mm_bk (d + 1) 72 56 ls [t0] Q) := wp_static rfl rfl ⟨by decide, rfl⟩ ⟨Nat.le_of_ble_eq_true rfl, Nat.le_of_ble_eq_true rfl⟩ rfl rfl rfl rfl
theorem s72_59 : mm_wp d 72 59 ls (.int x2 :: .int x :: st) h Q ↔ mm_wp d 72 60 ls (.int (x - x2) :: st) h Q := wp_isub rfl
theorem s72_60 : mm_wp d 72 60 [l0, l1, l2, l3] (.int x :: st) h Q ↔ mm_wp d 72 61 [l0, l1, l2, .int x] st h Q := wp_istore_n rfl rfl
theorem s72_61 : mm_wp d 72 61 [l0, l1, .int x, l3] st h Q ↔ mm_wp d 72 62 [l0, l1, .int x, l3] (.int x :: st) h Q := wp_iload_n rfl rfl
theorem s72_62 : mm_wp d 72 62 ls (.int x :: st) h Q ↔ if x ≤ 0 then mm_wp d 72 75 ls st h Q else mm_wp d 72 65 ls st h Q := wp_ifle rfl rfl
theorem s72_65 : mm_wp d 72 65 [l0, l1, l2, .int x] st h Q ↔ mm_wp d 72 66 [l0, l1, l2, .int x] (.int x :: st) h Q := wp_iload_n rfl rfl
theorem s72_66 : mm_wp d 72 66 ls (.int x :: st) h Q ↔ if x ≤ 0 then mm_wp d 72 75 ls st h Q else mm_wp d 72 69 ls st h Q := wp_ifle rfl rfl
theorem s72_69 : mm_wp d 72 69 [l0, l1, .int x, l3] st h Q ↔ mm_wp d 72 70 [l0, l1, .int x, l3] (.int x :: st) h Q := wp_iload_n rfl rfl
theorem s72_70 : mm_wp d 72 70 [l0, l1, l2, .int x] st h Q ↔ mm_wp d 72 71 [l0, l1, l2, .int x] (.int x :: st) h Q := wp_iload_n rfl rfl
theorem s72_71 : mm_wp d 72 71 ls (.int x2 :: .int x :: st) h Q ↔ mm_wp d 72 72 ls (.int (x * x2) :: st) h Q := wp_imul rfl
theorem s72_72 : mm_wp d 72 72 ls st h Q ↔ mm_wp d 72 76 ls st h Q := wp_goto rfl rfl
theorem s72_75 : mm_wp d 72 75 ls st h Q ↔ mm_wp d 72 76 ls (.int (0 : Int32) :: st) h Q := wp_iconst rfl rfl
theorem s72_76 : mm_wp d 72 76 ls (.int x :: st) h Q ↔ Q (.inl (some (.int x))) h := wp_iret rfl rfl
/-! 73: LoadRoom$Row.hasRoom(LLoadRoom$Placed;)Z -/
theorem s73_0 : mm_wp d 73 0 ls st h Q ↔ mm_wp d 73 1 ls (.int (0 : Int32) :: st) h Q := wp_iconst rfl rfl
theorem s73_1 : mm_wp d 73 1 [l0, l1, l2] (.int x :: st) h Q ↔ mm_wp d 73 2 [l0, l1, .int x] st h Q := wp_istore_n rfl rfl
theorem s73_2 : mm_wp d 73 2 [l0, l1, .int x] st h Q ↔ mm_wp d 73 3 [l0, l1, .int x] (.int x :: st) h Q := wp_iload_n rfl rfl
theorem s73_3 : mm_wp d 73 3 [.ref a, l1, l2] st h Q ↔ mm_wp d 73 4 [.ref a, l1, l2] (.ref a :: st) h Q := wp_aloadR_n rfl rfl
theorem s73_4 : mm_wp d 73 4 ls (.ref a :: st) h Q ↔ (mm_s h a).1 = 7 ∧ mm_wp d 73 7 ls (.int (mm_i h a 1) :: st) h Q := wp_getI rfl rfl (by decide) (by decide)
theorem s73_7 : mm_wp d 73 7 ls (.int x2 :: .int x :: st) h Q ↔ if x2 ≤ x then mm_wp d 73 31 ls st h Q else mm_wp d 73 10 ls st h Q := wp_icmpge rfl rfl
theorem s73_10 : mm_wp d 73 10 [l0, .ref a, l2] st h Q ↔ mm_wp d 73 11 [l0, .ref a, l2] (.ref a :: st) h Q := wp_aloadR_n rfl rfl
theorem s73_10o : mm_wp d 73 10 [l0, mm_o o, l2] st h Q ↔ mm_wp d 73 11 [l0, mm_o o, l2] (mm_o o :: st) h Q := wp_aload_n rfl o rfl
theorem s73_10n : mm_wp d 73 10 [l0, .null, l2] st h Q ↔ mm_wp d 73 11 [l0, .null, l2] (.null :: st) h Q := wp_aload_n rfl none rfl
theorem s73_11 : mm_wp d 73 11 [.ref a, l1, l2] st h Q ↔ mm_wp d 73 12 [.ref a, l1, l2] (.ref a :: st) h Q := wp_aloadR_n rfl rfl
theorem s73_12 : mm_wp d 73 12 ls (.ref a :: st) h Q ↔ (mm_s h a).1 = 7 ∧ mm_wp d 73 15 ls (mm_o (mm_r h a 0) :: st) h Q := wp_getR rfl rfl
theorem s73_15 : mm_wp d 73 15 [l0, l1, .int x] st h Q ↔ mm_wp d 73 16 [l0, l1, .int x] (.int x :: st) h Q := wp_iload_n rfl rfl
theorem s73_16 : mm_wp d 73 16 ls (.int x :: .ref a :: st) h Q ↔ (23 ≤ (mm_s h a).1 ∧ (mm_s h a).1 ≤ 26 ∧ mm_in x (mm_s h a).2 = true) ∧ mm_wp d 73 17 ls (mm_o (mm_r h a x.toNatClampNeg) :: st) h Q := wp_aaload rfl
theorem s73_17 : mm_wp (d + 1) 73 17 ls [.ref b, .ref a] h Q ↔ (mm_s h a).1 = 6 ∧ mm_wp d 74 0 [.ref a, .ref b] [] h (mm_bk (d + 1) 73 17 ls [] Q) := wp_virtual rfl rfl ⟨by decide, rfl⟩ ⟨Nat.le_of_ble_eq_true rfl, Nat.le_of_ble_eq_true rfl⟩ rfl rfl rfl rfl rfl rfl
theorem s73_20 : mm_wp d 73 20 ls (.int x :: st) h Q ↔ if x = 0 then mm_wp d 73 25 ls st h Q else mm_wp d 73 23 ls st h Q := wp_ifeq rfl rfl
theorem s73_23 : mm_wp d 73 23 ls st h Q ↔ mm_wp d 73 24 ls (.int (0 : Int32) :: st) h Q := wp_iconst rfl rfl
theorem s73_24 : mm_wp d 73 24 ls (.int x :: st) h Q ↔ (x = 0 ∨ x = 1) ∧ Q (.inl (some (.int x))) h := wp_zret rfl rfl
theorem s73_25 : mm_wp d 73 25 [l0, l1, .int x] st h Q ↔ mm_wp d 73 28 [l0, l1, .int (x + (1 : Int32))] st h Q := wp_iinc rfl rfl rfl rfl
theorem s73_28 : mm_wp d 73 28 ls st h Q ↔ mm_wp d 73 2 ls st h Q := wp_goto rfl rfl
theorem s73_31 : mm_wp d 73 31 ls st h Q ↔ mm_wp d 73 32 ls (.int (1 : Int32) :: st) h Q := wp_iconst rfl rfl
theorem s73_32 : mm_wp d 73 32 ls (.int x :: st) h Q ↔ (x = 0 ∨ x = 1) ∧ Q (.inl (some (.int x))) h := wp_zret rfl rfl
/-! 74: LoadRoom$Placed.sharesRoom(LLoadRoom$Placed;)Z -/
theorem s74_0 : mm_wp d 74 0 [.ref a, l1] st h Q ↔ mm_wp d 74 1 [.ref a, l1] (.ref a :: st) h Q := wp_aloadR_n rfl rfl
theorem s74_1 : mm_wp d 74 1 ls (.ref a :: st) h Q ↔ (mm_s h a).1 = 6 ∧ mm_wp d 74 4 ls (.int (mm_i h a 3) :: st) h Q := wp_getI rfl rfl (by decide) (by decide)
theorem s74_4 : mm_wp d 74 4 [l0, .ref a] st h Q ↔ mm_wp d 74 5 [l0, .ref a] (.ref a :: st) h Q := wp_aloadR_n rfl rfl
theorem s74_4o : mm_wp d 74 4 [l0, mm_o o] st h Q ↔ mm_wp d 74 5 [l0, mm_o o] (mm_o o :: st) h Q := wp_aload_n rfl o rfl
theorem s74_4n : mm_wp d 74 4 [l0, .null] st h Q ↔ mm_wp d 74 5 [l0, .null] (.null :: st) h Q := wp_aload_n rfl none rfl
theorem s74_5 : mm_wp d 74 5 ls (.ref a :: st) h Q ↔ (mm_s h a).1 = 6 ∧ mm_wp d 74 8 ls (.int (mm_i h a 6) :: st) h Q := wp_getI rfl rfl (by decide) (by decide)
theorem s74_8 : mm_wp d 74 8 ls (.int x2 :: .int x :: st) h Q ↔ if x2 ≤ x then mm_wp d 74 70 ls st h Q else mm_wp d 74 11 ls st h Q := wp_icmpge rfl rfl
theorem s74_11 : mm_wp d 74 11 [l0, .ref a] st h Q ↔ mm_wp d 74 12 [l0, .ref a] (.ref a :: st) h Q := wp_aloadR_n rfl rfl
theorem s74_11o : mm_wp d 74 11 [l0, mm_o o] st h Q ↔ mm_wp d 74 12 [l0, mm_o o] (mm_o o :: st) h Q := wp_aload_n rfl o rfl
theorem s74_11n : mm_wp d 74 11 [l0, .null] st h Q ↔ mm_wp d 74 12 [l0, .null] (.null :: st) h Q := wp_aload_n rfl none rfl
theorem s74_12 : mm_wp d 74 12 ls (.ref a :: st) h Q ↔ (mm_s h a).1 = 6 ∧ mm_wp d 74 15 ls (.int (mm_i h a 3) :: st) h Q := wp_getI rfl rfl (by decide) (by decide)
theorem s74_15 : mm_wp d 74 15 [.ref a, l1] st h Q ↔ mm_wp d 74 16 [.ref a, l1] (.ref a :: st) h Q := wp_aloadR_n rfl rfl
theorem s74_16 : mm_wp d 74 16 ls (.ref a :: st) h Q ↔ (mm_s h a).1 = 6 ∧ mm_wp d 74 19 ls (.int (mm_i h a 6) :: st) h Q := wp_getI rfl rfl (by decide) (by decide)
theorem s74_19 : mm_wp d 74 19 ls (.int x2 :: .int x :: st) h Q ↔ if x2 ≤ x then mm_wp d 74 70 ls st h Q else mm_wp d 74 22 ls st h Q := wp_icmpge rfl rfl
theorem s74_22 : mm_wp d 74 22 [.ref a, l1] st h Q ↔ mm_wp d 74 23 [.ref a, l1] (.ref a :: st) h Q := wp_aloadR_n rfl rfl
theorem s74_23 : mm_wp d 74 23 ls (.ref a :: st) h Q ↔ (mm_s h a).1 = 6 ∧ mm_wp d 74 26 ls (.int (mm_i h a 5) :: st) h Q := wp_getI rfl rfl (by decide) (by decide)
theorem s74_26 : mm_wp d 74 26 [l0, .ref a] st h Q ↔ mm_wp d 74 27 [l0, .ref a] (.ref a :: st) h Q := wp_aloadR_n rfl rfl
theorem s74_26o : mm_wp d 74 26 [l0, mm_o o] st h Q ↔ mm_wp d 74 27 [l0, mm_o o] (mm_o o :: st) h Q := wp_aload_n rfl o rfl
theorem s74_26n : mm_wp d 74 26 [l0, .null] st h Q ↔ mm_wp d 74 27 [l0, .null] (.null :: st) h Q := wp_aload_n rfl none rfl
theorem s74_27 : mm_wp d 74 27 ls (.ref a :: st) h Q ↔ (mm_s h a).1 = 6 ∧ mm_wp d 74 30 ls (.int (mm_i h a 8) :: st) h Q := wp_getI rfl rfl (by decide) (by decide)
theorem s74_30 : mm_wp d 74 30 ls (.int x2 :: .int x :: st) h Q ↔ if x2 ≤ x then mm_wp d 74 70 ls st h Q else mm_wp d 74 33 ls st h Q := wp_icmpge rfl rfl
theorem s74_33 : mm_wp d 74 33 [l0, .ref a] st h Q ↔ mm_wp d 74 34 [l0, .ref a] (.ref a :: st) h Q := wp_aloadR_n rfl rfl
theorem s74_33o : mm_wp d 74 33 [l0, mm_o o] st h Q ↔ mm_wp d 74 34 [l0, mm_o o] (mm_o o :: st) h Q := wp_aload_n rfl o rfl
theorem s74_33n : mm_wp d 74 33 [l0, .null] st h Q ↔ mm_wp d 74 34 [l0, .null] (.null :: st) h Q := wp_aload_n rfl none rfl
theorem s74_34 : mm_wp d 74 34 ls (.ref a :: st) h Q ↔ (mm_s h a).1 = 6 ∧ mm_wp d 74 37 ls (.int (mm_i h a 5) :: st) h Q := wp_getI rfl rfl (by decide) (by decide)
theorem s74_37 : mm_wp d 74 37 [.ref a, l1] st h Q ↔ mm_wp d 74 38 [.ref a, l1] (.ref a :: st) h Q := wp_aloadR_n rfl rfl
theorem s74_38 : mm_wp d 74 38 ls (.ref a :: st) h Q ↔ (mm_s h a).1 = 6 ∧ mm_wp d 74 41 ls (.int (mm_i h a 8) :: st) h Q := wp_getI rfl rfl (by decide) (by decide)
theorem s74_41 : mm_wp d 74 41 ls (.int x2 :: .int x :: st) h Q ↔ if x2 ≤ x then mm_wp d 74 70 ls st h Q else mm_wp d 74 44 ls st h Q := wp_icmpge rfl rfl
theorem s74_44 : mm_wp d 74 44 [.ref a, l1] st h Q ↔ mm_wp d 74 45 [.ref a, l1] (.ref a :: st) h Q := wp_aloadR_n rfl rfl
theorem s74_45 : mm_wp d 74 45 ls (.ref a :: st) h Q ↔ (mm_s h a).1 = 6 ∧ mm_wp d 74 48 ls (.int (mm_i h a 4) :: st) h Q := wp_getI rfl rfl (by decide) (by decide)
theorem s74_48 : mm_wp d 74 48 [l0, .ref a] st h Q ↔ mm_wp d 74 49 [l0, .ref a] (.ref a :: st) h Q := wp_aloadR_n rfl rfl
theorem s74_48o : mm_wp d 74 48 [l0, mm_o o] st h Q ↔ mm_wp d 74 49 [l0, mm_o o] (mm_o o :: st) h Q := wp_aload_n rfl o rfl
theorem s74_48n : mm_wp d 74 48 [l0, .null] st h Q ↔ mm_wp d 74 49 [l0, .null] (.null :: st) h Q := wp_aload_n rfl none rfl
theorem s74_49 : mm_wp d 74 49 ls (.ref a :: st) h Q ↔ (mm_s h a).1 = 6 ∧ mm_wp d 74 52 ls (.int (mm_i h a 7) :: st) h Q := wp_getI rfl rfl (by decide) (by decide)
theorem s74_52 : mm_wp d 74 52 ls (.int x2 :: .int x :: st) h Q ↔ if x2 ≤ x then mm_wp d 74 70 ls st h Q else mm_wp d 74 55 ls st h Q := wp_icmpge rfl rfl
theorem s74_55 : mm_wp d 74 55 [l0, .ref a] st h Q ↔ mm_wp d 74 56 [l0, .ref a] (.ref a :: st) h Q := wp_aloadR_n rfl rfl
theorem s74_55o : mm_wp d 74 55 [l0, mm_o o] st h Q ↔ mm_wp d 74 56 [l0, mm_o o] (mm_o o :: st) h Q := wp_aload_n rfl o rfl
theorem s74_55n : mm_wp d 74 55 [l0, .null] st h Q ↔ mm_wp d 74 56 [l0, .null] (.null :: st) h Q := wp_aload_n rfl none rfl
theorem s74_56 : mm_wp d 74 56 ls (.ref a :: st) h Q ↔ (mm_s h a).1 = 6 ∧ mm_wp d 74 59 ls (.int (mm_i h a 4) :: st) h Q := wp_getI rfl rfl (by decide) (by decide)
theorem s74_59 : mm_wp d 74 59 [.ref a, l1] st h Q ↔ mm_wp d 74 60 [.ref a, l1] (.ref a :: st) h Q := wp_aloadR_n rfl rfl
theorem s74_60 : mm_wp d 74 60 ls (.ref a :: st) h Q ↔ (mm_s h a).1 = 6 ∧ mm_wp d 74 63 ls (.int (mm_i h a 7) :: st) h Q := wp_getI rfl rfl (by decide) (by decide)
theorem s74_63 : mm_wp d 74 63 ls (.int x2 :: .int x :: st) h Q ↔ if x2 ≤ x then mm_wp d 74 70 ls st h Q else mm_wp d 74 66 ls st h Q := wp_icmpge rfl rfl
theorem s74_66 : mm_wp d 74 66 ls st h Q ↔ mm_wp d 74 67 ls (.int (1 : Int32) :: st) h Q := wp_iconst rfl rfl
theorem s74_67 : mm_wp d 74 67 ls st h Q ↔ mm_wp d 74 71 ls st h Q := wp_goto rfl rfl
theorem s74_70 : mm_wp d 74 70 ls st h Q ↔ mm_wp d 74 71 ls (.int (0 : Int32) :: st) h Q := wp_iconst rfl rfl
theorem s74_71 : mm_wp d 74 71 ls (.int x :: st) h Q ↔ (x = 0 ∨ x = 1) ∧ Q (.inl (some (.int x))) h := wp_zret rfl rfl
/-! 75: LoadRoom$Row.carries(LLoadRoom$Placed;)Z -/
theorem s75_0 : mm_wp d 75 0 ls st h Q ↔ mm_wp d 75 1 ls (.int (0 : Int32) :: st) h Q := wp_iconst rfl rfl
theorem s75_1 : mm_wp d 75 1 [l0, l1, l2, l3] (.int x :: st) h Q ↔ mm_wp d 75 2 [l0, l1, .int x, l3] st h Q := wp_istore_n rfl rfl
theorem s75_2 : mm_wp d 75 2 [l0, l1, .int x, l3] st h Q ↔ mm_wp d 75 3 [l0, l1, .int x, l3] (.int x :: st) h Q := wp_iload_n rfl rfl
theorem s75_3 : mm_wp d 75 3 [.ref a, l1, l2, l3] st h Q ↔ mm_wp d 75 4 [.ref a, l1, l2, l3] (.ref a :: st) h Q := wp_aloadR_n rfl rfl
theorem s75_4 : mm_wp d 75 4 ls (.ref a :: st) h Q ↔ (mm_s h a).1 = 7 ∧ mm_wp d 75 7 ls (.int (mm_i h a 1) :: st) h Q := wp_getI rfl rfl (by decide) (by decide)
theorem s75_7 : mm_wp d 75 7 ls (.int x2 :: .int x :: st) h Q ↔ if x2 ≤ x then mm_wp d 75 49 ls st h Q else mm_wp d 75 10 ls st h Q := wp_icmpge rfl rfl
theorem s75_10 : mm_wp d 75 10 [.ref a, l1, l2, l3] st h Q ↔ mm_wp d 75 11 [.ref a, l1, l2, l3] (.ref a :: st) h Q := wp_aloadR_n rfl rfl
theorem s75_11 : mm_wp d 75 11 ls (.ref a :: st) h Q ↔ (mm_s h a).1 = 7 ∧ mm_wp d 75 14 ls (mm_o (mm_r h a 0) :: st) h Q := wp_getR rfl rfl
theorem s75_14 : mm_wp d 75 14 [l0, l1, .int x, l3] st h Q ↔ mm_wp d 75 15 [l0, l1, .int x, l3] (.int x :: st) h Q := wp_iload_n rfl rfl
theorem s75_15 : mm_wp d 75 15 ls (.int x :: .ref a :: st) h Q ↔ (23 ≤ (mm_s h a).1 ∧ (mm_s h a).1 ≤ 26 ∧ mm_in x (mm_s h a).2 = true) ∧ mm_wp d 75 16 ls (mm_o (mm_r h a x.toNatClampNeg) :: st) h Q := wp_aaload rfl
theorem s75_16 : mm_wp d 75 16 [l0, l1, l2, l3] (.ref a :: st) h Q ↔ mm_wp d 75 17 [l0, l1, l2, .ref a] st h Q := wp_astoreR_n rfl rfl
theorem s75_16o : mm_wp d 75 16 [l0, l1, l2, l3] (mm_o o :: st) h Q ↔ mm_wp d 75 17 [l0, l1, l2, mm_o o] st h Q := wp_astore_n rfl o rfl
theorem s75_16n : mm_wp d 75 16 [l0, l1, l2, l3] (.null :: st) h Q ↔ mm_wp d 75 17 [l0, l1, l2, .null] st h Q := wp_astore_n rfl none rfl
theorem s75_17 : mm_wp d 75 17 [l0, l1, l2, .ref a] st h Q ↔ mm_wp d 75 18 [l0, l1, l2, .ref a] (.ref a :: st) h Q := wp_aloadR_n rfl rfl
theorem s75_17o : mm_wp d 75 17 [l0, l1, l2, mm_o o] st h Q ↔ mm_wp d 75 18 [l0, l1, l2, mm_o o] (mm_o o :: st) h Q := wp_aload_n rfl o rfl
theorem s75_17n : mm_wp d 75 17 [l0, l1, l2, .null] st h Q ↔ mm_wp d 75 18 [l0, l1, l2, .null] (.null :: st) h Q := wp_aload_n rfl none rfl
theorem s75_18 : mm_wp d 75 18 ls (.ref a :: st) h Q ↔ (mm_s h a).1 = 6 ∧ mm_wp d 75 21 ls (.int (mm_i h a 15) :: st) h Q := wp_getI rfl rfl (by decide) (by decide)
theorem s75_21 : mm_wp d 75 21 [l0, .ref a, l2, l3] st h Q ↔ mm_wp d 75 22 [l0, .ref a, l2, l3] (.ref a :: st) h Q := wp_aloadR_n rfl rfl
theorem s75_21o : mm_wp d 75 21 [l0, mm_o o, l2, l3] st h Q ↔ mm_wp d 75 22 [l0, mm_o o, l2, l3] (mm_o o :: st) h Q := wp_aload_n rfl o rfl
theorem s75_21n : mm_wp d 75 21 [l0, .null, l2, l3] st h Q ↔ mm_wp d 75 22 [l0, .null, l2, l3] (.null :: st) h Q := wp_aload_n rfl none rfl
theorem s75_22 : mm_wp d 75 22 ls (.ref a :: st) h Q ↔ (mm_s h a).1 = 6 ∧ mm_wp d 75 25 ls (.int (mm_i h a 12) :: st) h Q := wp_getI rfl rfl (by decide) (by decide)
theorem s75_25 : mm_wp d 75 25 ls (.int x2 :: .int x :: st) h Q ↔ mm_wp d 75 26 ls (.int (x + x2) :: st) h Q := wp_iadd rfl
theorem s75_26 : mm_wp d 75 26 [l0, l1, l2, .ref a] st h Q ↔ mm_wp d 75 27 [l0, l1, l2, .ref a] (.ref a :: st) h Q := wp_aloadR_n rfl rfl
theorem s75_26o : mm_wp d 75 26 [l0, l1, l2, mm_o o] st h Q ↔ mm_wp d 75 27 [l0, l1, l2, mm_o o] (mm_o o :: st) h Q := wp_aload_n rfl o rfl
theorem s75_26n : mm_wp d 75 26 [l0, l1, l2, .null] st h Q ↔ mm_wp d 75 27 [l0, l1, l2, .null] (.null :: st) h Q := wp_aload_n rfl none rfl
theorem s75_27 : mm_wp d 75 27 ls (.ref a :: st) h Q ↔ (mm_s h a).1 = 6 ∧ mm_wp d 75 30 ls (.int (mm_i h a 14) :: st) h Q := wp_getI rfl rfl (by decide) (by decide)
theorem s75_30 : mm_wp d 75 30 ls (.int x2 :: .int x :: st) h Q ↔ if x ≤ x2 then mm_wp d 75 43 ls st h Q else mm_wp d 75 33 ls st h Q := wp_icmple rfl rfl
theorem s75_33 : mm_wp d 75 33 [l0, .ref a, l2, l3] st h Q ↔ mm_wp d 75 34 [l0, .ref a, l2, l3] (.ref a :: st) h Q := wp_aloadR_n rfl rfl
theorem s75_33o : mm_wp d 75 33 [l0, mm_o o, l2, l3] st h Q ↔ mm_wp d 75 34 [l0, mm_o o, l2, l3] (mm_o o :: st) h Q := wp_aload_n rfl o rfl
theorem s75_33n : mm_wp d 75 33 [l0, .null, l2, l3] st h Q ↔ mm_wp d 75 34 [l0, .null, l2, l3] (.null :: st) h Q := wp_aload_n rfl none rfl
theorem s75_34 : mm_wp d 75 34 [l0, l1, l2, .ref a] st h Q ↔ mm_wp d 75 35 [l0, l1, l2, .ref a] (.ref a :: st) h Q := wp_aloadR_n rfl rfl
theorem s75_34o : mm_wp d 75 34 [l0, l1, l2, mm_o o] st h Q ↔ mm_wp d 75 35 [l0, l1, l2, mm_o o] (mm_o o :: st) h Q := wp_aload_n rfl o rfl
theorem s75_34n : mm_wp d 75 34 [l0, l1, l2, .null] st h Q ↔ mm_wp d 75 35 [l0, l1, l2, .null] (.null :: st) h Q := wp_aload_n rfl none rfl
theorem s75_35 : mm_wp (d + 1) 75 35 ls [.ref b, .ref a] h Q ↔ (mm_s h a).1 = 6 ∧ mm_wp d 76 0 [.ref a, .ref b] [] h (mm_bk (d + 1) 75 35 ls [] Q) := wp_virtual rfl rfl ⟨by decide, rfl⟩ ⟨Nat.le_of_ble_eq_true rfl, Nat.le_of_ble_eq_true rfl⟩ rfl rfl rfl rfl rfl rfl
theorem s75_38 : mm_wp d 75 38 ls (.int x :: st) h Q ↔ if x = 0 then mm_wp d 75 43 ls st h Q else mm_wp d 75 41 ls st h Q := wp_ifeq rfl rfl
theorem s75_41 : mm_wp d 75 41 ls st h Q ↔ mm_wp d 75 42 ls (.int (0 : Int32) :: st) h Q := wp_iconst rfl rfl
theorem s75_42 : mm_wp d 75 42 ls (.int x :: st) h Q ↔ (x = 0 ∨ x = 1) ∧ Q (.inl (some (.int x))) h := wp_zret rfl rfl
theorem s75_43 : mm_wp d 75 43 [l0, l1, .int x, l3] st h Q ↔ mm_wp d 75 46 [l0, l1, .int (x + (1 : Int32)), l3] st h Q := wp_iinc rfl rfl rfl rfl
theorem s75_46 : mm_wp d 75 46 ls st h Q ↔ mm_wp d 75 2 ls st h Q := wp_goto rfl rfl
theorem s75_49 : mm_wp d 75 49 ls st h Q ↔ mm_wp d 75 50 ls (.int (1 : Int32) :: st) h Q := wp_iconst rfl rfl
theorem s75_50 : mm_wp d 75 50 ls (.int x :: st) h Q ↔ (x = 0 ∨ x = 1) ∧ Q (.inl (some (.int x))) h := wp_zret rfl rfl
/-! 76: LoadRoom$Placed.isOver(LLoadRoom$Placed;)Z -/
theorem s76_0 : mm_wp d 76 0 [.ref a, l1] st h Q ↔ mm_wp d 76 1 [.ref a, l1] (.ref a :: st) h Q := wp_aloadR_n rfl rfl
theorem s76_1 : mm_wp d 76 1 ls (.ref a :: st) h Q ↔ (mm_s h a).1 = 6 ∧ mm_wp d 76 4 ls (.int (mm_i h a 4) :: st) h Q := wp_getI rfl rfl (by decide) (by decide)
theorem s76_4 : mm_wp d 76 4 [l0, .ref a] st h Q ↔ mm_wp d 76 5 [l0, .ref a] (.ref a :: st) h Q := wp_aloadR_n rfl rfl
theorem s76_4o : mm_wp d 76 4 [l0, mm_o o] st h Q ↔ mm_wp d 76 5 [l0, mm_o o] (mm_o o :: st) h Q := wp_aload_n rfl o rfl
theorem s76_4n : mm_wp d 76 4 [l0, .null] st h Q ↔ mm_wp d 76 5 [l0, .null] (.null :: st) h Q := wp_aload_n rfl none rfl
theorem s76_5 : mm_wp d 76 5 ls (.ref a :: st) h Q ↔ (mm_s h a).1 = 6 ∧ mm_wp d 76 8 ls (.int (mm_i h a 7) :: st) h Q := wp_getI rfl rfl (by decide) (by decide)
theorem s76_8 : mm_wp d 76 8 ls (.int x2 :: .int x :: st) h Q ↔ if x < x2 then mm_wp d 76 59 ls st h Q else mm_wp d 76 11 ls st h Q := wp_icmplt rfl rfl
theorem s76_11 : mm_wp d 76 11 [.ref a, l1] st h Q ↔ mm_wp d 76 12 [.ref a, l1] (.ref a :: st) h Q := wp_aloadR_n rfl rfl
theorem s76_12 : mm_wp d 76 12 ls (.ref a :: st) h Q ↔ (mm_s h a).1 = 6 ∧ mm_wp d 76 15 ls (.int (mm_i h a 3) :: st) h Q := wp_getI rfl rfl (by decide) (by decide)
theorem s76_15 : mm_wp d 76 15 [l0, .ref a] st h Q ↔ mm_wp d 76 16 [l0, .ref a] (.ref a :: st) h Q := wp_aloadR_n rfl rfl
theorem s76_15o : mm_wp d 76 15 [l0, mm_o o] st h Q ↔ mm_wp d 76 16 [l0, mm_o o] (mm_o o :: st) h Q := wp_aload_n rfl o rfl
theorem s76_15n : mm_wp d 76 15 [l0, .null] st h Q ↔ mm_wp d 76 16 [l0, .null] (.null :: st) h Q := wp_aload_n rfl none rfl
theorem s76_16 : mm_wp d 76 16 ls (.ref a :: st) h Q ↔ (mm_s h a).1 = 6 ∧ mm_wp d 76 19 ls (.int (mm_i h a 6) :: st) h Q := wp_getI rfl rfl (by decide) (by decide)
theorem s76_19 : mm_wp d 76 19 ls (.int x2 :: .int x :: st) h Q ↔ if x2 ≤ x then mm_wp d 76 59 ls st h Q else mm_wp d 76 22 ls st h Q := wp_icmpge rfl rfl
theorem s76_22 : mm_wp d 76 22 [l0, .ref a] st h Q ↔ mm_wp d 76 23 [l0, .ref a] (.ref a :: st) h Q := wp_aloadR_n rfl rfl
theorem s76_22o : mm_wp d 76 22 [l0, mm_o o] st h Q ↔ mm_wp d 76 23 [l0, mm_o o] (mm_o o :: st) h Q := wp_aload_n rfl o rfl
theorem s76_22n : mm_wp d 76 22 [l0, .null] st h Q ↔ mm_wp d 76 23 [l0, .null] (.null :: st) h Q := wp_aload_n rfl none rfl
theorem s76_23 : mm_wp d 76 23 ls (.ref a :: st) h Q ↔ (mm_s h a).1 = 6 ∧ mm_wp d 76 26 ls (.int (mm_i h a 3) :: st) h Q := wp_getI rfl rfl (by decide) (by decide)
theorem s76_26 : mm_wp d 76 26 [.ref a, l1] st h Q ↔ mm_wp d 76 27 [.ref a, l1] (.ref a :: st) h Q := wp_aloadR_n rfl rfl
theorem s76_27 : mm_wp d 76 27 ls (.ref a :: st) h Q ↔ (mm_s h a).1 = 6 ∧ mm_wp d 76 30 ls (.int (mm_i h a 6) :: st) h Q := wp_getI rfl rfl (by decide) (by decide)
theorem s76_30 : mm_wp d 76 30 ls (.int x2 :: .int x :: st) h Q ↔ if x2 ≤ x then mm_wp d 76 59 ls st h Q else mm_wp d 76 33 ls st h Q := wp_icmpge rfl rfl
theorem s76_33 : mm_wp d 76 33 [.ref a, l1] st h Q ↔ mm_wp d 76 34 [.ref a, l1] (.ref a :: st) h Q := wp_aloadR_n rfl rfl
theorem s76_34 : mm_wp d 76 34 ls (.ref a :: st) h Q ↔ (mm_s h a).1 = 6 ∧ mm_wp d 76 37 ls (.int (mm_i h a 5) :: st) h Q := wp_getI rfl rfl (by decide) (by decide)
theorem s76_37 : mm_wp d 76 37 [l0, .ref a] st h Q ↔ mm_wp d 76 38 [l0, .ref a] (.ref a :: st) h Q := wp_aloadR_n rfl rfl
theorem s76_37o : mm_wp d 76 37 [l0, mm_o o] st h Q ↔ mm_wp d 76 38 [l0, mm_o o] (mm_o o :: st) h Q := wp_aload_n rfl o rfl
theorem s76_37n : mm_wp d 76 37 [l0, .null] st h Q ↔ mm_wp d 76 38 [l0, .null] (.null :: st) h Q := wp_aload_n rfl none rfl
theorem s76_38 : mm_wp d 76 38 ls (.ref a :: st) h Q ↔ (mm_s h a).1 = 6 ∧ mm_wp d 76 41 ls (.int (mm_i h a 8) :: st) h Q := wp_getI rfl rfl (by decide) (by decide)
theorem s76_41 : mm_wp d 76 41 ls (.int x2 :: .int x :: st) h Q ↔ if x2 ≤ x then mm_wp d 76 59 ls st h Q else mm_wp d 76 44 ls st h Q := wp_icmpge rfl rfl
theorem s76_44 : mm_wp d 76 44 [l0, .ref a] st h Q ↔ mm_wp d 76 45 [l0, .ref a] (.ref a :: st) h Q := wp_aloadR_n rfl rfl
theorem s76_44o : mm_wp d 76 44 [l0, mm_o o] st h Q ↔ mm_wp d 76 45 [l0, mm_o o] (mm_o o :: st) h Q := wp_aload_n rfl o rfl
theorem s76_44n : mm_wp d 76 44 [l0, .null] st h Q ↔ mm_wp d 76 45 [l0, .null] (.null :: st) h Q := wp_aload_n rfl none rfl
theorem s76_45 : mm_wp d 76 45 ls (.ref a :: st) h Q ↔ (mm_s h a).1 = 6 ∧ mm_wp d 76 48 ls (.int (mm_i h a 5) :: st) h Q := wp_getI rfl rfl (by decide) (by decide)
theorem s76_48 : mm_wp d 76 48 [.ref a, l1] st h Q ↔ mm_wp d 76 49 [.ref a, l1] (.ref a :: st) h Q := wp_aloadR_n rfl rfl
theorem s76_49 : mm_wp d 76 49 ls (.ref a :: st) h Q ↔ (mm_s h a).1 = 6 ∧ mm_wp d 76 52 ls (.int (mm_i h a 8) :: st) h Q := wp_getI rfl rfl (by decide) (by decide)
theorem s76_52 : mm_wp d 76 52 ls (.int x2 :: .int x :: st) h Q ↔ if x2 ≤ x then mm_wp d 76 59 ls st h Q else mm_wp d 76 55 ls st h Q := wp_icmpge rfl rfl
theorem s76_55 : mm_wp d 76 55 ls st h Q ↔ mm_wp d 76 56 ls (.int (1 : Int32) :: st) h Q := wp_iconst rfl rfl
theorem s76_56 : mm_wp d 76 56 ls st h Q ↔ mm_wp d 76 60 ls st h Q := wp_goto rfl rfl
theorem s76_59 : mm_wp d 76 59 ls st h Q ↔ mm_wp d 76 60 ls (.int (0 : Int32) :: st) h Q := wp_iconst rfl rfl
theorem s76_60 : mm_wp d 76 60 ls (.int x :: st) h Q ↔ (x = 0 ∨ x = 1) ∧ Q (.inl (some (.int x))) h := wp_zret rfl rfl
/-! 77: LoadRoom$Row.letsOut(LLoadRoom$Placed;)Z -/
theorem s77_0 : mm_wp d 77 0 ls st h Q ↔ mm_wp d 77 1 ls (.int (0 : Int32) :: st) h Q := wp_iconst rfl rfl
theorem s77_1 : mm_wp d 77 1 [l0, l1, l2] (.int x :: st) h Q ↔ mm_wp d 77 2 [l0, l1, .int x] st h Q := wp_istore_n rfl rfl
theorem s77_2 : mm_wp d 77 2 [l0, l1, .int x] st h Q ↔ mm_wp d 77 3 [l0, l1, .int x] (.int x :: st) h Q := wp_iload_n rfl rfl
theorem s77_3 : mm_wp d 77 3 [.ref a, l1, l2] st h Q ↔ mm_wp d 77 4 [.ref a, l1, l2] (.ref a :: st) h Q := wp_aloadR_n rfl rfl
theorem s77_4 : mm_wp d 77 4 ls (.ref a :: st) h Q ↔ (mm_s h a).1 = 7 ∧ mm_wp d 77 7 ls (.int (mm_i h a 1) :: st) h Q := wp_getI rfl rfl (by decide) (by decide)
theorem s77_7 : mm_wp d 77 7 ls (.int x2 :: .int x :: st) h Q ↔ if x2 ≤ x then mm_wp d 77 44 ls st h Q else mm_wp d 77 10 ls st h Q := wp_icmpge rfl rfl
theorem s77_10 : mm_wp d 77 10 [l0, .ref a, l2] st h Q ↔ mm_wp d 77 11 [l0, .ref a, l2] (.ref a :: st) h Q := wp_aloadR_n rfl rfl
theorem s77_10o : mm_wp d 77 10 [l0, mm_o o, l2] st h Q ↔ mm_wp d 77 11 [l0, mm_o o, l2] (mm_o o :: st) h Q := wp_aload_n rfl o rfl
theorem s77_10n : mm_wp d 77 10 [l0, .null, l2] st h Q ↔ mm_wp d 77 11 [l0, .null, l2] (.null :: st) h Q := wp_aload_n rfl none rfl
theorem s77_11 : mm_wp d 77 11 [.ref a, l1, l2] st h Q ↔ mm_wp d 77 12 [.ref a, l1, l2] (.ref a :: st) h Q := wp_aloadR_n rfl rfl
theorem s77_12 : mm_wp d 77 12 ls (.ref a :: st) h Q ↔ (mm_s h a).1 = 7 ∧ mm_wp d 77 15 ls (mm_o (mm_r h a 0) :: st) h Q := wp_getR rfl rfl
theorem s77_15 : mm_wp d 77 15 [l0, l1, .int x] st h Q ↔ mm_wp d 77 16 [l0, l1, .int x] (.int x :: st) h Q := wp_iload_n rfl rfl
theorem s77_16 : mm_wp d 77 16 ls (.int x :: .ref a :: st) h Q ↔ (23 ≤ (mm_s h a).1 ∧ (mm_s h a).1 ≤ 26 ∧ mm_in x (mm_s h a).2 = true) ∧ mm_wp d 77 17 ls (mm_o (mm_r h a x.toNatClampNeg) :: st) h Q := wp_aaload rfl
theorem s77_17 : mm_wp (d + 1) 77 17 ls [.ref b, .ref a] h Q ↔ (mm_s h a).1 = 6 ∧ mm_wp d 78 0 [.ref a, .ref b] [] h (mm_bk (d + 1) 77 17 ls [] Q) := wp_virtual rfl rfl ⟨by decide, rfl⟩ ⟨Nat.le_of_ble_eq_true rfl, Nat.le_of_ble_eq_true rfl⟩ rfl rfl rfl rfl rfl rfl
theorem s77_20 : mm_wp d 77 20 ls (.int x :: st) h Q ↔ if x = 0 then mm_wp d 77 23 ls st h Q else mm_wp d 77 36 ls st h Q := wp_ifne rfl rfl
theorem s77_23 : mm_wp d 77 23 [.ref a, l1, l2] st h Q ↔ mm_wp d 77 24 [.ref a, l1, l2] (.ref a :: st) h Q := wp_aloadR_n rfl rfl
theorem s77_24 : mm_wp d 77 24 ls (.ref a :: st) h Q ↔ (mm_s h a).1 = 7 ∧ mm_wp d 77 27 ls (mm_o (mm_r h a 0) :: st) h Q := wp_getR rfl rfl
theorem s77_27 : mm_wp d 77 27 [l0, l1, .int x] st h Q ↔ mm_wp d 77 28 [l0, l1, .int x] (.int x :: st) h Q := wp_iload_n rfl rfl
theorem s77_28 : mm_wp d 77 28 ls (.int x :: .ref a :: st) h Q ↔ (23 ≤ (mm_s h a).1 ∧ (mm_s h a).1 ≤ 26 ∧ mm_in x (mm_s h a).2 = true) ∧ mm_wp d 77 29 ls (mm_o (mm_r h a x.toNatClampNeg) :: st) h Q := wp_aaload rfl
theorem s77_29 : mm_wp d 77 29 [l0, .ref a, l2] st h Q ↔ mm_wp d 77 30 [l0, .ref a, l2] (.ref a :: st) h Q := wp_aloadR_n rfl rfl
theorem s77_29o : mm_wp d 77 29 [l0, mm_o o, l2] st h Q ↔ mm_wp d 77 30 [l0, mm_o o, l2] (mm_o o :: st) h Q := wp_aload_n rfl o rfl
theorem s77_29n : mm_wp d 77 29 [l0, .null, l2] st h Q ↔ mm_wp d 77 30 [l0, .null, l2] (.null :: st) h Q := wp_aload_n rfl none rfl
theorem s77_30 : mm_wp (d + 1) 77 30 ls [.ref b, .ref a] h Q ↔ (mm_s h a).1 = 6 ∧ mm_wp d 78 0 [.ref a, .ref b] [] h (mm_bk (d + 1) 77 30 ls [] Q) := wp_virtual rfl rfl ⟨by decide, rfl⟩ ⟨Nat.le_of_ble_eq_true rfl, Nat.le_of_ble_eq_true rfl⟩ rfl rfl rfl rfl rfl rfl
theorem s77_33 : mm_wp d 77 33 ls (.int x :: st) h Q ↔ if x = 0 then mm_wp d 77 38 ls st h Q else mm_wp d 77 36 ls st h Q := wp_ifeq rfl rfl
theorem s77_36 : mm_wp d 77 36 ls st h Q ↔ mm_wp d 77 37 ls (.int (0 : Int32) :: st) h Q := wp_iconst rfl rfl
theorem s77_37 : mm_wp d 77 37 ls (.int x :: st) h Q ↔ (x = 0 ∨ x = 1) ∧ Q (.inl (some (.int x))) h := wp_zret rfl rfl
theorem s77_38 : mm_wp d 77 38 [l0, l1, .int x] st h Q ↔ mm_wp d 77 41 [l0, l1, .int (x + (1 : Int32))] st h Q := wp_iinc rfl rfl rfl rfl
theorem s77_41 : mm_wp d 77 41 ls st h Q ↔ mm_wp d 77 2 ls st h Q := wp_goto rfl rfl
theorem s77_44 : mm_wp d 77 44 ls st h Q ↔ mm_wp d 77 45 ls (.int (1 : Int32) :: st) h Q := wp_iconst rfl rfl
theorem s77_45 : mm_wp d 77 45 ls (.int x :: st) h Q ↔ (x = 0 ∨ x = 1) ∧ Q (.inl (some (.int x))) h := wp_zret rfl rfl
/-! 78: LoadRoom$Placed.shutsIn(LLoadRoom$Placed;)Z -/
theorem s78_0 : mm_wp d 78 0 [.ref a, l1] st h Q ↔ mm_wp d 78 1 [.ref a, l1] (.ref a :: st) h Q := wp_aloadR_n rfl rfl
theorem s78_1 : mm_wp d 78 1 ls (.ref a :: st) h Q ↔ (mm_s h a).1 = 6 ∧ mm_wp d 78 4 ls (.int (mm_i h a 13) :: st) h Q := wp_getI rfl rfl (by decide) (by decide)
theorem s78_4 : mm_wp d 78 4 [l0, .ref a] st h Q ↔ mm_wp d 78 5 [l0, .ref a] (.ref a :: st) h Q := wp_aloadR_n rfl rfl
theorem s78_4o : mm_wp d 78 4 [l0, mm_o o] st h Q ↔ mm_wp d 78 5 [l0, mm_o o] (mm_o o :: st) h Q := wp_aload_n rfl o rfl
theorem s78_4n : mm_wp d 78 4 [l0, .null] st h Q ↔ mm_wp d 78 5 [l0, .null] (.null :: st) h Q := wp_aload_n rfl none rfl
theorem s78_5 : mm_wp d 78 5 ls (.ref a :: st) h Q ↔ (mm_s h a).1 = 6 ∧ mm_wp d 78 8 ls (.int (mm_i h a 13) :: st) h Q := wp_getI rfl rfl (by decide) (by decide)
theorem s78_8 : mm_wp d 78 8 ls (.int x2 :: .int x :: st) h Q ↔ if x ≤ x2 then mm_wp d 78 70 ls st h Q else mm_wp d 78 11 ls st h Q := wp_icmple rfl rfl
theorem s78_11 : mm_wp d 78 11 [.ref a, l1] st h Q ↔ mm_wp d 78 12 [.ref a, l1] (.ref a :: st) h Q := wp_aloadR_n rfl rfl
theorem s78_12 : mm_wp d 78 12 ls (.ref a :: st) h Q ↔ (mm_s h a).1 = 6 ∧ mm_wp d 78 15 ls (.int (mm_i h a 5) :: st) h Q := wp_getI rfl rfl (by decide) (by decide)
theorem s78_15 : mm_wp d 78 15 [l0, .ref a] st h Q ↔ mm_wp d 78 16 [l0, .ref a] (.ref a :: st) h Q := wp_aloadR_n rfl rfl
theorem s78_15o : mm_wp d 78 15 [l0, mm_o o] st h Q ↔ mm_wp d 78 16 [l0, mm_o o] (mm_o o :: st) h Q := wp_aload_n rfl o rfl
theorem s78_15n : mm_wp d 78 15 [l0, .null] st h Q ↔ mm_wp d 78 16 [l0, .null] (.null :: st) h Q := wp_aload_n rfl none rfl
theorem s78_16 : mm_wp d 78 16 ls (.ref a :: st) h Q ↔ (mm_s h a).1 = 6 ∧ mm_wp d 78 19 ls (.int (mm_i h a 8) :: st) h Q := wp_getI rfl rfl (by decide) (by decide)
theorem s78_19 : mm_wp d 78 19 ls (.int x2 :: .int x :: st) h Q ↔ if x < x2 then mm_wp d 78 70 ls st h Q else mm_wp d 78 22 ls st h Q := wp_icmplt rfl rfl
theorem s78_22 : mm_wp d 78 22 [.ref a, l1] st h Q ↔ mm_wp d 78 23 [.ref a, l1] (.ref a :: st) h Q := wp_aloadR_n rfl rfl
theorem s78_23 : mm_wp d 78 23 ls (.ref a :: st) h Q ↔ (mm_s h a).1 = 6 ∧ mm_wp d 78 26 ls (.int (mm_i h a 3) :: st) h Q := wp_getI rfl rfl (by decide) (by decide)
theorem s78_26 : mm_wp d 78 26 [l0, .ref a] st h Q ↔ mm_wp d 78 27 [l0, .ref a] (.ref a :: st) h Q := wp_aloadR_n rfl rfl
theorem s78_26o : mm_wp d 78 26 [l0, mm_o o] st h Q ↔ mm_wp d 78 27 [l0, mm_o o] (mm_o o :: st) h Q := wp_aload_n rfl o rfl
theorem s78_26n : mm_wp d 78 26 [l0, .null] st h Q ↔ mm_wp d 78 27 [l0, .null] (.null :: st) h Q := wp_aload_n rfl none rfl
theorem s78_27 : mm_wp d 78 27 ls (.ref a :: st) h Q ↔ (mm_s h a).1 = 6 ∧ mm_wp d 78 30 ls (.int (mm_i h a 6) :: st) h Q := wp_getI rfl rfl (by decide) (by decide)
theorem s78_30 : mm_wp d 78 30 ls (.int x2 :: .int x :: st) h Q ↔ if x2 ≤ x then mm_wp d 78 70 ls st h Q else mm_wp d 78 33 ls st h Q := wp_icmpge rfl rfl
theorem s78_33 : mm_wp d 78 33 [l0, .ref a] st h Q ↔ mm_wp d 78 34 [l0, .ref a] (.ref a :: st) h Q := wp_aloadR_n rfl rfl
theorem s78_33o : mm_wp d 78 33 [l0, mm_o o] st h Q ↔ mm_wp d 78 34 [l0, mm_o o] (mm_o o :: st) h Q := wp_aload_n rfl o rfl
theorem s78_33n : mm_wp d 78 33 [l0, .null] st h Q ↔ mm_wp d 78 34 [l0, .null] (.null :: st) h Q := wp_aload_n rfl none rfl
theorem s78_34 : mm_wp d 78 34 ls (.ref a :: st) h Q ↔ (mm_s h a).1 = 6 ∧ mm_wp d 78 37 ls (.int (mm_i h a 3) :: st) h Q := wp_getI rfl rfl (by decide) (by decide)
theorem s78_37 : mm_wp d 78 37 [.ref a, l1] st h Q ↔ mm_wp d 78 38 [.ref a, l1] (.ref a :: st) h Q := wp_aloadR_n rfl rfl
theorem s78_38 : mm_wp d 78 38 ls (.ref a :: st) h Q ↔ (mm_s h a).1 = 6 ∧ mm_wp d 78 41 ls (.int (mm_i h a 6) :: st) h Q := wp_getI rfl rfl (by decide) (by decide)
theorem s78_41 : mm_wp d 78 41 ls (.int x2 :: .int x :: st) h Q ↔ if x2 ≤ x then mm_wp d 78 70 ls st h Q else mm_wp d 78 44 ls st h Q := wp_icmpge rfl rfl
theorem s78_44 : mm_wp d 78 44 [.ref a, l1] st h Q ↔ mm_wp d 78 45 [.ref a, l1] (.ref a :: st) h Q := wp_aloadR_n rfl rfl
theorem s78_45 : mm_wp d 78 45 ls (.ref a :: st) h Q ↔ (mm_s h a).1 = 6 ∧ mm_wp d 78 48 ls (.int (mm_i h a 4) :: st) h Q := wp_getI rfl rfl (by decide) (by decide)
theorem s78_48 : mm_wp d 78 48 [l0, .ref a] st h Q ↔ mm_wp d 78 49 [l0, .ref a] (.ref a :: st) h Q := wp_aloadR_n rfl rfl
theorem s78_48o : mm_wp d 78 48 [l0, mm_o o] st h Q ↔ mm_wp d 78 49 [l0, mm_o o] (mm_o o :: st) h Q := wp_aload_n rfl o rfl
theorem s78_48n : mm_wp d 78 48 [l0, .null] st h Q ↔ mm_wp d 78 49 [l0, .null] (.null :: st) h Q := wp_aload_n rfl none rfl
theorem s78_49 : mm_wp d 78 49 ls (.ref a :: st) h Q ↔ (mm_s h a).1 = 6 ∧ mm_wp d 78 52 ls (.int (mm_i h a 7) :: st) h Q := wp_getI rfl rfl (by decide) (by decide)
theorem s78_52 : mm_wp d 78 52 ls (.int x2 :: .int x :: st) h Q ↔ if x2 ≤ x then mm_wp d 78 70 ls st h Q else mm_wp d 78 55 ls st h Q := wp_icmpge rfl rfl
theorem s78_55 : mm_wp d 78 55 [l0, .ref a] st h Q ↔ mm_wp d 78 56 [l0, .ref a] (.ref a :: st) h Q := wp_aloadR_n rfl rfl
theorem s78_55o : mm_wp d 78 55 [l0, mm_o o] st h Q ↔ mm_wp d 78 56 [l0, mm_o o] (mm_o o :: st) h Q := wp_aload_n rfl o rfl
theorem s78_55n : mm_wp d 78 55 [l0, .null] st h Q ↔ mm_wp d 78 56 [l0, .null] (.null :: st) h Q := wp_aload_n rfl none rfl
theorem s78_56 : mm_wp d 78 56 ls (.ref a :: st) h Q ↔ (mm_s h a).1 = 6 ∧ mm_wp d 78 59 ls (.int (mm_i h a 4) :: st) h Q := wp_getI rfl rfl (by decide) (by decide)
theorem s78_59 : mm_wp d 78 59 [.ref a, l1] st h Q ↔ mm_wp d 78 60 [.ref a, l1] (.ref a :: st) h Q := wp_aloadR_n rfl rfl
theorem s78_60 : mm_wp d 78 60 ls (.ref a :: st) h Q ↔ (mm_s h a).1 = 6 ∧ mm_wp d 78 63 ls (.int (mm_i h a 7) :: st) h Q := wp_getI rfl rfl (by decide) (by decide)
theorem s78_63 : mm_wp d 78 63 ls (.int x2 :: .int x :: st) h Q ↔ if x2 ≤ x then mm_wp d 78 70 ls st h Q else mm_wp d 78 66 ls st h Q := wp_icmpge rfl rfl
theorem s78_66 : mm_wp d 78 66 ls st h Q ↔ mm_wp d 78 67 ls (.int (1 : Int32) :: st) h Q := wp_iconst rfl rfl
theorem s78_67 : mm_wp d 78 67 ls st h Q ↔ mm_wp d 78 71 ls st h Q := wp_goto rfl rfl
theorem s78_70 : mm_wp d 78 70 ls st h Q ↔ mm_wp d 78 71 ls (.int (0 : Int32) :: st) h Q := wp_iconst rfl rfl
theorem s78_71 : mm_wp d 78 71 ls (.int x :: st) h Q ↔ (x = 0 ∨ x = 1) ∧ Q (.inl (some (.int x))) h := wp_zret rfl rfl
end
