/-! rows of the program, by rows.py -/
section
variable {d : Nat} {ls st : List Value} {h : mm_H} {Q : mm_Q} {o : Option Nat} {a b c : Nat} {x y x1 x2 x3 x4 x5 x6 : Int32} {w w2 w3 w4 : Int64} {q : UInt32} {l0 l1 l2 l3 l4 l5 l6 l7 l8 l9 l10 l11 l12 l13 l14 l15 l16 t0 t1 t2 t3 t4 t5 : Value}
/-! 60: LoadRoom$Placed.take(ILLoadRoom$Piece;I)V -/
theorem s60_0 : mm_wp d 60 0 [.ref a, l1, l2, l3] st h Q ↔ mm_wp d 60 1 [.ref a, l1, l2, l3] (.ref a :: st) h Q := wp_aloadR_n rfl rfl
theorem s60_1 : mm_wp d 60 1 [l0, .int x, l2, l3] st h Q ↔ mm_wp d 60 2 [l0, .int x, l2, l3] (.int x :: st) h Q := wp_iload_n rfl rfl
theorem s60_2 : mm_wp d 60 2 ls (.int x :: .ref a :: st) h Q ↔ (mm_s h a).1 = 6 ∧ mm_wp d 60 5 ls st (mm_pi h a 1 x) Q := wp_putI rfl rfl
theorem s60_5 : mm_wp d 60 5 [.ref a, l1, l2, l3] st h Q ↔ mm_wp d 60 6 [.ref a, l1, l2, l3] (.ref a :: st) h Q := wp_aloadR_n rfl rfl
theorem s60_6 : mm_wp d 60 6 [l0, l1, l2, .int x] st h Q ↔ mm_wp d 60 7 [l0, l1, l2, .int x] (.int x :: st) h Q := wp_iload_n rfl rfl
theorem s60_7 : mm_wp d 60 7 ls (.int x :: .ref a :: st) h Q ↔ (mm_s h a).1 = 6 ∧ mm_wp d 60 10 ls st (mm_pi h a 2 x) Q := wp_putI rfl rfl
theorem s60_10 : mm_wp d 60 10 [.ref a, l1, l2, l3] st h Q ↔ mm_wp d 60 11 [.ref a, l1, l2, l3] (.ref a :: st) h Q := wp_aloadR_n rfl rfl
theorem s60_11 : mm_wp d 60 11 [l0, l1, .ref a, l3] st h Q ↔ mm_wp d 60 12 [l0, l1, .ref a, l3] (.ref a :: st) h Q := wp_aloadR_n rfl rfl
theorem s60_11o : mm_wp d 60 11 [l0, l1, mm_o o, l3] st h Q ↔ mm_wp d 60 12 [l0, l1, mm_o o, l3] (mm_o o :: st) h Q := wp_aload_n rfl o rfl
theorem s60_12 : mm_wp d 60 12 [l0, l1, l2, .int x] st h Q ↔ mm_wp d 60 13 [l0, l1, l2, .int x] (.int x :: st) h Q := wp_iload_n rfl rfl
theorem s60_13 : mm_wp (d + 1) 60 13 ls [.int x2, .ref a, t0] h Q ↔ (mm_s h a).1 = 5 ∧ mm_wp d 35 0 [.ref a, .int x2] [] h (mm_bk (d + 1) 60 13 ls [t0] Q) := wp_virtual rfl rfl ⟨by decide, rfl⟩ ⟨Nat.le_of_ble_eq_true rfl, Nat.le_of_ble_eq_true rfl⟩ rfl rfl rfl rfl rfl rfl
theorem s60_16 : mm_wp d 60 16 ls (.int x :: .ref a :: st) h Q ↔ (mm_s h a).1 = 6 ∧ mm_wp d 60 19 ls st (mm_pi h a 9 x) Q := wp_putI rfl rfl
theorem s60_19 : mm_wp d 60 19 [.ref a, l1, l2, l3] st h Q ↔ mm_wp d 60 20 [.ref a, l1, l2, l3] (.ref a :: st) h Q := wp_aloadR_n rfl rfl
theorem s60_20 : mm_wp d 60 20 [l0, l1, .ref a, l3] st h Q ↔ mm_wp d 60 21 [l0, l1, .ref a, l3] (.ref a :: st) h Q := wp_aloadR_n rfl rfl
theorem s60_20o : mm_wp d 60 20 [l0, l1, mm_o o, l3] st h Q ↔ mm_wp d 60 21 [l0, l1, mm_o o, l3] (mm_o o :: st) h Q := wp_aload_n rfl o rfl
theorem s60_21 : mm_wp d 60 21 [l0, l1, l2, .int x] st h Q ↔ mm_wp d 60 22 [l0, l1, l2, .int x] (.int x :: st) h Q := wp_iload_n rfl rfl
theorem s60_22 : mm_wp (d + 1) 60 22 ls [.int x2, .ref a, t0] h Q ↔ (mm_s h a).1 = 5 ∧ mm_wp d 36 0 [.ref a, .int x2] [] h (mm_bk (d + 1) 60 22 ls [t0] Q) := wp_virtual rfl rfl ⟨by decide, rfl⟩ ⟨Nat.le_of_ble_eq_true rfl, Nat.le_of_ble_eq_true rfl⟩ rfl rfl rfl rfl rfl rfl
theorem s60_25 : mm_wp d 60 25 ls (.int x :: .ref a :: st) h Q ↔ (mm_s h a).1 = 6 ∧ mm_wp d 60 28 ls st (mm_pi h a 10 x) Q := wp_putI rfl rfl
theorem s60_28 : mm_wp d 60 28 [.ref a, l1, l2, l3] st h Q ↔ mm_wp d 60 29 [.ref a, l1, l2, l3] (.ref a :: st) h Q := wp_aloadR_n rfl rfl
theorem s60_29 : mm_wp d 60 29 [l0, l1, .ref a, l3] st h Q ↔ mm_wp d 60 30 [l0, l1, .ref a, l3] (.ref a :: st) h Q := wp_aloadR_n rfl rfl
theorem s60_29o : mm_wp d 60 29 [l0, l1, mm_o o, l3] st h Q ↔ mm_wp d 60 30 [l0, l1, mm_o o, l3] (mm_o o :: st) h Q := wp_aload_n rfl o rfl
theorem s60_30 : mm_wp d 60 30 [l0, l1, l2, .int x] st h Q ↔ mm_wp d 60 31 [l0, l1, l2, .int x] (.int x :: st) h Q := wp_iload_n rfl rfl
theorem s60_31 : mm_wp (d + 1) 60 31 ls [.int x2, .ref a, t0] h Q ↔ (mm_s h a).1 = 5 ∧ mm_wp d 37 0 [.ref a, .int x2] [] h (mm_bk (d + 1) 60 31 ls [t0] Q) := wp_virtual rfl rfl ⟨by decide, rfl⟩ ⟨Nat.le_of_ble_eq_true rfl, Nat.le_of_ble_eq_true rfl⟩ rfl rfl rfl rfl rfl rfl
theorem s60_34 : mm_wp d 60 34 ls (.int x :: .ref a :: st) h Q ↔ (mm_s h a).1 = 6 ∧ mm_wp d 60 37 ls st (mm_pi h a 11 x) Q := wp_putI rfl rfl
theorem s60_37 : mm_wp d 60 37 [.ref a, l1, l2, l3] st h Q ↔ mm_wp d 60 38 [.ref a, l1, l2, l3] (.ref a :: st) h Q := wp_aloadR_n rfl rfl
theorem s60_38 : mm_wp d 60 38 [l0, l1, .ref a, l3] st h Q ↔ mm_wp d 60 39 [l0, l1, .ref a, l3] (.ref a :: st) h Q := wp_aloadR_n rfl rfl
theorem s60_38o : mm_wp d 60 38 [l0, l1, mm_o o, l3] st h Q ↔ mm_wp d 60 39 [l0, l1, mm_o o, l3] (mm_o o :: st) h Q := wp_aload_n rfl o rfl
theorem s60_39 : mm_wp d 60 39 ls (.ref a :: st) h Q ↔ (mm_s h a).1 = 5 ∧ mm_wp d 60 42 ls (.int (mm_i h a 6) :: st) h Q := wp_getI rfl rfl (by decide) (by decide)
theorem s60_42 : mm_wp d 60 42 ls (.int x :: .ref a :: st) h Q ↔ (mm_s h a).1 = 6 ∧ mm_wp d 60 45 ls st (mm_pi h a 12 x) Q := wp_putI rfl rfl
theorem s60_45 : mm_wp d 60 45 [.ref a, l1, l2, l3] st h Q ↔ mm_wp d 60 46 [.ref a, l1, l2, l3] (.ref a :: st) h Q := wp_aloadR_n rfl rfl
theorem s60_46 : mm_wp d 60 46 [l0, l1, .ref a, l3] st h Q ↔ mm_wp d 60 47 [l0, l1, .ref a, l3] (.ref a :: st) h Q := wp_aloadR_n rfl rfl
theorem s60_46o : mm_wp d 60 46 [l0, l1, mm_o o, l3] st h Q ↔ mm_wp d 60 47 [l0, l1, mm_o o, l3] (mm_o o :: st) h Q := wp_aload_n rfl o rfl
theorem s60_47 : mm_wp d 60 47 ls (.ref a :: st) h Q ↔ (mm_s h a).1 = 5 ∧ mm_wp d 60 50 ls (.int (mm_i h a 8) :: st) h Q := wp_getI rfl rfl (by decide) (by decide)
theorem s60_50 : mm_wp d 60 50 ls (.int x :: .ref a :: st) h Q ↔ (mm_s h a).1 = 6 ∧ mm_wp d 60 53 ls st (mm_pi h a 13 x) Q := wp_putI rfl rfl
theorem s60_53 : mm_wp d 60 53 [.ref a, l1, l2, l3] st h Q ↔ mm_wp d 60 54 [.ref a, l1, l2, l3] (.ref a :: st) h Q := wp_aloadR_n rfl rfl
theorem s60_54 : mm_wp d 60 54 [l0, l1, .ref a, l3] st h Q ↔ mm_wp d 60 55 [l0, l1, .ref a, l3] (.ref a :: st) h Q := wp_aloadR_n rfl rfl
theorem s60_54o : mm_wp d 60 54 [l0, l1, mm_o o, l3] st h Q ↔ mm_wp d 60 55 [l0, l1, mm_o o, l3] (mm_o o :: st) h Q := wp_aload_n rfl o rfl
theorem s60_55 : mm_wp d 60 55 ls (.ref a :: st) h Q ↔ (mm_s h a).1 = 5 ∧ mm_wp d 60 58 ls (.int (mm_i h a 9) :: st) h Q := wp_getI rfl rfl (by decide) (by decide)
theorem s60_58 : mm_wp d 60 58 ls (.int x :: .ref a :: st) h Q ↔ (mm_s h a).1 = 6 ∧ mm_wp d 60 61 ls st (mm_pi h a 14 x) Q := wp_putI rfl rfl
theorem s60_61 : mm_wp d 60 61 [.ref a, l1, l2, l3] st h Q ↔ mm_wp d 60 62 [.ref a, l1, l2, l3] (.ref a :: st) h Q := wp_aloadR_n rfl rfl
theorem s60_62 : mm_wp d 60 62 ls st h Q ↔ mm_wp d 60 63 ls (.int (0 : Int32) :: st) h Q := wp_iconst rfl rfl
theorem s60_63 : mm_wp d 60 63 ls (.int x :: .ref a :: st) h Q ↔ (mm_s h a).1 = 6 ∧ mm_wp d 60 66 ls st (mm_pi h a 15 x) Q := wp_putI rfl rfl
theorem s60_66 : mm_wp d 60 66 ls st h Q ↔ Q (.inl none) h := wp_vret rfl rfl
/-! 61: LoadRoom$Search.tryFloors(LLoadRoom$Placed;)V -/
theorem s61_0 : mm_wp d 61 0 [.ref a, l1, l2, l3, l4] st h Q ↔ mm_wp d 61 1 [.ref a, l1, l2, l3, l4] (.ref a :: st) h Q := wp_aloadR_n rfl rfl
theorem s61_1 : mm_wp d 61 1 ls (.ref a :: st) h Q ↔ (mm_s h a).1 = 8 ∧ mm_wp d 61 4 ls (mm_o (mm_r h a 5) :: st) h Q := wp_getR rfl rfl
theorem s61_4 : mm_wp d 61 4 [l0, .ref a, l2, l3, l4] st h Q ↔ mm_wp d 61 5 [l0, .ref a, l2, l3, l4] (.ref a :: st) h Q := wp_aloadR_n rfl rfl
theorem s61_4o : mm_wp d 61 4 [l0, mm_o o, l2, l3, l4] st h Q ↔ mm_wp d 61 5 [l0, mm_o o, l2, l3, l4] (mm_o o :: st) h Q := wp_aload_n rfl o rfl
theorem s61_5 : mm_wp d 61 5 ls (.ref a :: st) h Q ↔ (mm_s h a).1 = 6 ∧ mm_wp d 61 8 ls (.int (mm_i h a 0) :: st) h Q := wp_getI rfl rfl (by decide) (by decide)
theorem s61_8 : mm_wp (d + 1) 61 8 ls [.int x2, .ref a] h Q ↔ (mm_s h a).1 = 3 ∧ mm_wp d 55 0 [.ref a, .int x2] [] h (mm_bk (d + 1) 61 8 ls [] Q) := wp_virtual rfl rfl ⟨by decide, rfl⟩ ⟨Nat.le_of_ble_eq_true rfl, Nat.le_of_ble_eq_true rfl⟩ rfl rfl rfl rfl rfl rfl
theorem s61_11 : mm_wp d 61 11 [l0, l1, l2, l3, l4] (.int x :: st) h Q ↔ mm_wp d 61 12 [l0, l1, .int x, l3, l4] st h Q := wp_istore_n rfl rfl
theorem s61_12 : mm_wp d 61 12 ls st h Q ↔ mm_wp d 61 13 ls (.int (0 : Int32) :: st) h Q := wp_iconst rfl rfl
theorem s61_13 : mm_wp d 61 13 [l0, l1, l2, l3, l4] (.int x :: st) h Q ↔ mm_wp d 61 14 [l0, l1, l2, .int x, l4] st h Q := wp_istore_n rfl rfl
theorem s61_14 : mm_wp d 61 14 [l0, l1, l2, .int x, l4] st h Q ↔ mm_wp d 61 15 [l0, l1, l2, .int x, l4] (.int x :: st) h Q := wp_iload_n rfl rfl
theorem s61_15 : mm_wp d 61 15 [l0, l1, .int x, l3, l4] st h Q ↔ mm_wp d 61 16 [l0, l1, .int x, l3, l4] (.int x :: st) h Q := wp_iload_n rfl rfl
theorem s61_16 : mm_wp d 61 16 ls (.int x2 :: .int x :: st) h Q ↔ if x2 ≤ x then mm_wp d 61 109 ls st h Q else mm_wp d 61 19 ls st h Q := wp_icmpge rfl rfl
theorem s61_19 : mm_wp d 61 19 [.ref a, l1, l2, l3, l4] st h Q ↔ mm_wp d 61 20 [.ref a, l1, l2, l3, l4] (.ref a :: st) h Q := wp_aloadR_n rfl rfl
theorem s61_20 : mm_wp d 61 20 ls (.ref a :: st) h Q ↔ (mm_s h a).1 = 8 ∧ mm_wp d 61 23 ls (.int (mm_i h a 10) :: st) h Q := wp_getI rfl rfl (by decide) (by decide)
theorem s61_23 : mm_wp d 61 23 ls (.int x :: st) h Q ↔ if x = 0 then mm_wp d 61 26 ls st h Q else mm_wp d 61 109 ls st h Q := wp_ifne rfl rfl
theorem s61_26 : mm_wp d 61 26 [.ref a, l1, l2, l3, l4] st h Q ↔ mm_wp d 61 27 [.ref a, l1, l2, l3, l4] (.ref a :: st) h Q := wp_aloadR_n rfl rfl
theorem s61_27 : mm_wp d 61 27 ls (.ref a :: st) h Q ↔ (mm_s h a).1 = 8 ∧ mm_wp d 61 30 ls (mm_o (mm_r h a 7) :: st) h Q := wp_getR rfl rfl
theorem s61_30 : mm_wp d 61 30 [l0, .ref a, l2, l3, l4] st h Q ↔ mm_wp d 61 31 [l0, .ref a, l2, l3, l4] (.ref a :: st) h Q := wp_aloadR_n rfl rfl
theorem s61_30o : mm_wp d 61 30 [l0, mm_o o, l2, l3, l4] st h Q ↔ mm_wp d 61 31 [l0, mm_o o, l2, l3, l4] (mm_o o :: st) h Q := wp_aload_n rfl o rfl
theorem s61_31 : mm_wp d 61 31 ls (.ref a :: st) h Q ↔ (mm_s h a).1 = 6 ∧ mm_wp d 61 34 ls (.int (mm_i h a 0) :: st) h Q := wp_getI rfl rfl (by decide) (by decide)
theorem s61_34 : mm_wp d 61 34 ls st h Q ↔ mm_wp d 61 36 ls (.int (8 : Int32) :: st) h Q := wp_bipush rfl rfl
theorem s61_36 : mm_wp d 61 36 ls (.int x2 :: .int x :: st) h Q ↔ mm_wp d 61 37 ls (.int (x * x2) :: st) h Q := wp_imul rfl
theorem s61_37 : mm_wp d 61 37 [l0, l1, l2, .int x, l4] st h Q ↔ mm_wp d 61 38 [l0, l1, l2, .int x, l4] (.int x :: st) h Q := wp_iload_n rfl rfl
theorem s61_38 : mm_wp d 61 38 ls (.int x2 :: .int x :: st) h Q ↔ mm_wp d 61 39 ls (.int (x + x2) :: st) h Q := wp_iadd rfl
theorem s61_39 : mm_wp d 61 39 ls (.int x :: .ref a :: st) h Q ↔ (23 ≤ (mm_s h a).1 ∧ (mm_s h a).1 ≤ 26 ∧ mm_in x (mm_s h a).2 = true) ∧ mm_wp d 61 40 ls (mm_o (mm_r h a x.toNatClampNeg) :: st) h Q := wp_aaload rfl
theorem s61_40 : mm_wp d 61 40 [l0, l1, l2, l3, l4] (.ref a :: st) h Q ↔ mm_wp d 61 42 [l0, l1, l2, l3, .ref a] st h Q := wp_astoreR rfl rfl
theorem s61_40o : mm_wp d 61 40 [l0, l1, l2, l3, l4] (mm_o o :: st) h Q ↔ mm_wp d 61 42 [l0, l1, l2, l3, mm_o o] st h Q := wp_astore rfl o rfl
theorem s61_42 : mm_wp d 61 42 [l0, .ref a, l2, l3, l4] st h Q ↔ mm_wp d 61 43 [l0, .ref a, l2, l3, l4] (.ref a :: st) h Q := wp_aloadR_n rfl rfl
theorem s61_42o : mm_wp d 61 42 [l0, mm_o o, l2, l3, l4] st h Q ↔ mm_wp d 61 43 [l0, mm_o o, l2, l3, l4] (mm_o o :: st) h Q := wp_aload_n rfl o rfl
theorem s61_43 : mm_wp d 61 43 [l0, l1, l2, l3, .ref a] st h Q ↔ mm_wp d 61 45 [l0, l1, l2, l3, .ref a] (.ref a :: st) h Q := wp_aloadR rfl rfl
theorem s61_43o : mm_wp d 61 43 [l0, l1, l2, l3, mm_o o] st h Q ↔ mm_wp d 61 45 [l0, l1, l2, l3, mm_o o] (mm_o o :: st) h Q := wp_aload rfl o rfl
theorem s61_45 : mm_wp d 61 45 ls (.ref a :: st) h Q ↔ (mm_s h a).1 = 4 ∧ mm_wp d 61 48 ls (.int (mm_i h a 0) :: st) h Q := wp_getI rfl rfl (by decide) (by decide)
theorem s61_48 : mm_wp (d + 1) 61 48 ls [.int x2, .ref a] h Q ↔ (mm_s h a).1 = 6 ∧ mm_wp d 62 0 [.ref a, .int x2] [] h (mm_bk (d + 1) 61 48 ls [] Q) := wp_virtual rfl rfl ⟨by decide, rfl⟩ ⟨Nat.le_of_ble_eq_true rfl, Nat.le_of_ble_eq_true rfl⟩ rfl rfl rfl rfl rfl rfl
theorem s61_51 : mm_wp d 61 51 [l0, .ref a, l2, l3, l4] st h Q ↔ mm_wp d 61 52 [l0, .ref a, l2, l3, l4] (.ref a :: st) h Q := wp_aloadR_n rfl rfl
theorem s61_51o : mm_wp d 61 51 [l0, mm_o o, l2, l3, l4] st h Q ↔ mm_wp d 61 52 [l0, mm_o o, l2, l3, l4] (mm_o o :: st) h Q := wp_aload_n rfl o rfl
theorem s61_52 : mm_wp d 61 52 ls (.ref a :: st) h Q ↔ (mm_s h a).1 = 6 ∧ mm_wp d 61 55 ls (.int (mm_i h a 4) :: st) h Q := wp_getI rfl rfl (by decide) (by decide)
theorem s61_55 : mm_wp d 61 55 [.ref a, l1, l2, l3, l4] st h Q ↔ mm_wp d 61 56 [.ref a, l1, l2, l3, l4] (.ref a :: st) h Q := wp_aloadR_n rfl rfl
theorem s61_56 : mm_wp d 61 56 ls (.ref a :: st) h Q ↔ (mm_s h a).1 = 8 ∧ mm_wp d 61 59 ls (mm_o (mm_r h a 2) :: st) h Q := wp_getR rfl rfl
theorem s61_59 : mm_wp (d + 1) 61 59 ls [.ref a, t0] h Q ↔ (mm_s h a).1 = 7 ∧ mm_wp d 63 0 [.ref a] [] h (mm_bk (d + 1) 61 59 ls [t0] Q) := wp_virtual rfl rfl ⟨by decide, rfl⟩ ⟨Nat.le_of_ble_eq_true rfl, Nat.le_of_ble_eq_true rfl⟩ rfl rfl rfl rfl rfl rfl
theorem s61_62 : mm_wp d 61 62 ls (.int x2 :: .int x :: st) h Q ↔ if x < x2 then mm_wp d 61 103 ls st h Q else mm_wp d 61 65 ls st h Q := wp_icmplt rfl rfl
theorem s61_65 : mm_wp d 61 65 [l0, .ref a, l2, l3, l4] st h Q ↔ mm_wp d 61 66 [l0, .ref a, l2, l3, l4] (.ref a :: st) h Q := wp_aloadR_n rfl rfl
theorem s61_65o : mm_wp d 61 65 [l0, mm_o o, l2, l3, l4] st h Q ↔ mm_wp d 61 66 [l0, mm_o o, l2, l3, l4] (mm_o o :: st) h Q := wp_aload_n rfl o rfl
theorem s61_66 : mm_wp d 61 66 ls (.ref a :: st) h Q ↔ (mm_s h a).1 = 6 ∧ mm_wp d 61 69 ls (.int (mm_i h a 7) :: st) h Q := wp_getI rfl rfl (by decide) (by decide)
theorem s61_69 : mm_wp d 61 69 [.ref a, l1, l2, l3, l4] st h Q ↔ mm_wp d 61 70 [.ref a, l1, l2, l3, l4] (.ref a :: st) h Q := wp_aloadR_n rfl rfl
theorem s61_70 : mm_wp d 61 70 ls (.ref a :: st) h Q ↔ (mm_s h a).1 = 8 ∧ mm_wp d 61 73 ls (mm_o (mm_r h a 0) :: st) h Q := wp_getR rfl rfl
theorem s61_73 : mm_wp d 61 73 ls (.ref a :: st) h Q ↔ (mm_s h a).1 = 1 ∧ mm_wp d 61 76 ls (.int (mm_i h a 1) :: st) h Q := wp_getI rfl rfl (by decide) (by decide)
theorem s61_76 : mm_wp d 61 76 ls (.int x2 :: .int x :: st) h Q ↔ if x2 < x then mm_wp d 61 103 ls st h Q else mm_wp d 61 79 ls st h Q := wp_icmpgt rfl rfl
theorem s61_79 : mm_wp d 61 79 [l0, .ref a, l2, l3, l4] st h Q ↔ mm_wp d 61 80 [l0, .ref a, l2, l3, l4] (.ref a :: st) h Q := wp_aloadR_n rfl rfl
theorem s61_79o : mm_wp d 61 79 [l0, mm_o o, l2, l3, l4] st h Q ↔ mm_wp d 61 80 [l0, mm_o o, l2, l3, l4] (mm_o o :: st) h Q := wp_aload_n rfl o rfl
theorem s61_80 : mm_wp d 61 80 ls (.ref a :: st) h Q ↔ (mm_s h a).1 = 6 ∧ mm_wp d 61 83 ls (.int (mm_i h a 9) :: st) h Q := wp_getI rfl rfl (by decide) (by decide)
theorem s61_83 : mm_wp d 61 83 [l0, .ref a, l2, l3, l4] st h Q ↔ mm_wp d 61 84 [l0, .ref a, l2, l3, l4] (.ref a :: st) h Q := wp_aloadR_n rfl rfl
theorem s61_83o : mm_wp d 61 83 [l0, mm_o o, l2, l3, l4] st h Q ↔ mm_wp d 61 84 [l0, mm_o o, l2, l3, l4] (mm_o o :: st) h Q := wp_aload_n rfl o rfl
theorem s61_84 : mm_wp d 61 84 ls (.ref a :: st) h Q ↔ (mm_s h a).1 = 6 ∧ mm_wp d 61 87 ls (.int (mm_i h a 11) :: st) h Q := wp_getI rfl rfl (by decide) (by decide)
theorem s61_87 : mm_wp d 61 87 ls (.int x2 :: .int x :: st) h Q ↔ mm_wp d 61 88 ls (.int (x * x2) :: st) h Q := wp_imul rfl
theorem s61_88 : mm_wp d 61 88 [l0, l1, l2, l3, .ref a] st h Q ↔ mm_wp d 61 90 [l0, l1, l2, l3, .ref a] (.ref a :: st) h Q := wp_aloadR rfl rfl
theorem s61_88o : mm_wp d 61 88 [l0, l1, l2, l3, mm_o o] st h Q ↔ mm_wp d 61 90 [l0, l1, l2, l3, mm_o o] (mm_o o :: st) h Q := wp_aload rfl o rfl
theorem s61_90 : mm_wp d 61 90 ls (.ref a :: st) h Q ↔ (mm_s h a).1 = 4 ∧ mm_wp d 61 93 ls (.int (mm_i h a 1) :: st) h Q := wp_getI rfl rfl (by decide) (by decide)
theorem s61_93 : mm_wp d 61 93 ls (.int x2 :: .int x :: st) h Q ↔ if x2 < x then mm_wp d 61 103 ls st h Q else mm_wp d 61 96 ls st h Q := wp_icmpgt rfl rfl
theorem s61_96 : mm_wp d 61 96 [.ref a, l1, l2, l3, l4] st h Q ↔ mm_wp d 61 97 [.ref a, l1, l2, l3, l4] (.ref a :: st) h Q := wp_aloadR_n rfl rfl
theorem s61_97 : mm_wp d 61 97 [l0, .ref a, l2, l3, l4] st h Q ↔ mm_wp d 61 98 [l0, .ref a, l2, l3, l4] (.ref a :: st) h Q := wp_aloadR_n rfl rfl
theorem s61_97o : mm_wp d 61 97 [l0, mm_o o, l2, l3, l4] st h Q ↔ mm_wp d 61 98 [l0, mm_o o, l2, l3, l4] (mm_o o :: st) h Q := wp_aload_n rfl o rfl
theorem s61_98 : mm_wp d 61 98 [l0, l1, l2, l3, .ref a] st h Q ↔ mm_wp d 61 100 [l0, l1, l2, l3, .ref a] (.ref a :: st) h Q := wp_aloadR rfl rfl
theorem s61_98o : mm_wp d 61 98 [l0, l1, l2, l3, mm_o o] st h Q ↔ mm_wp d 61 100 [l0, l1, l2, l3, mm_o o] (mm_o o :: st) h Q := wp_aload rfl o rfl
theorem s61_100 : mm_wp (d + 1) 61 100 ls [.ref c, .ref b, .ref a] h Q ↔ (mm_s h a).1 = 8 ∧ mm_wp d 64 0 [.ref a, .ref b, .ref c, mm_j, mm_j, mm_j, mm_j] [] h (mm_bk (d + 1) 61 100 ls [] Q) := wp_virtual rfl rfl ⟨by decide, rfl⟩ ⟨Nat.le_of_ble_eq_true rfl, Nat.le_of_ble_eq_true rfl⟩ rfl rfl rfl rfl rfl rfl
theorem s61_103 : mm_wp d 61 103 [l0, l1, l2, .int x, l4] st h Q ↔ mm_wp d 61 106 [l0, l1, l2, .int (x + (1 : Int32)), l4] st h Q := wp_iinc rfl rfl rfl rfl
theorem s61_106 : mm_wp d 61 106 ls st h Q ↔ mm_wp d 61 14 ls st h Q := wp_goto rfl rfl
theorem s61_109 : mm_wp d 61 109 ls st h Q ↔ Q (.inl none) h := wp_vret rfl rfl
/-! 62: LoadRoom$Placed.moveToY(I)V -/
theorem s62_0 : mm_wp d 62 0 [.ref a, l1] st h Q ↔ mm_wp d 62 1 [.ref a, l1] (.ref a :: st) h Q := wp_aloadR_n rfl rfl
theorem s62_1 : mm_wp d 62 1 [l0, .int x] st h Q ↔ mm_wp d 62 2 [l0, .int x] (.int x :: st) h Q := wp_iload_n rfl rfl
theorem s62_2 : mm_wp d 62 2 ls (.int x :: .ref a :: st) h Q ↔ (mm_s h a).1 = 6 ∧ mm_wp d 62 5 ls st (mm_pi h a 4 x) Q := wp_putI rfl rfl
theorem s62_5 : mm_wp d 62 5 [.ref a, l1] st h Q ↔ mm_wp d 62 6 [.ref a, l1] (.ref a :: st) h Q := wp_aloadR_n rfl rfl
theorem s62_6 : mm_wp d 62 6 [l0, .int x] st h Q ↔ mm_wp d 62 7 [l0, .int x] (.int x :: st) h Q := wp_iload_n rfl rfl
theorem s62_7 : mm_wp d 62 7 [.ref a, l1] st h Q ↔ mm_wp d 62 8 [.ref a, l1] (.ref a :: st) h Q := wp_aloadR_n rfl rfl
theorem s62_8 : mm_wp d 62 8 ls (.ref a :: st) h Q ↔ (mm_s h a).1 = 6 ∧ mm_wp d 62 11 ls (.int (mm_i h a 10) :: st) h Q := wp_getI rfl rfl (by decide) (by decide)
theorem s62_11 : mm_wp d 62 11 ls (.int x2 :: .int x :: st) h Q ↔ mm_wp d 62 12 ls (.int (x + x2) :: st) h Q := wp_iadd rfl
theorem s62_12 : mm_wp d 62 12 ls (.int x :: .ref a :: st) h Q ↔ (mm_s h a).1 = 6 ∧ mm_wp d 62 15 ls st (mm_pi h a 7 x) Q := wp_putI rfl rfl
theorem s62_15 : mm_wp d 62 15 ls st h Q ↔ Q (.inl none) h := wp_vret rfl rfl
/-! 63: LoadRoom$Row.leastHeight()I -/
theorem s63_0 : mm_wp d 63 0 [.ref a] st h Q ↔ mm_wp d 63 1 [.ref a] (.ref a :: st) h Q := wp_aloadR_n rfl rfl
theorem s63_1 : mm_wp d 63 1 ls (.ref a :: st) h Q ↔ (mm_s h a).1 = 7 ∧ mm_wp d 63 4 ls (.int (mm_i h a 1) :: st) h Q := wp_getI rfl rfl (by decide) (by decide)
theorem s63_4 : mm_wp d 63 4 ls (.int x :: st) h Q ↔ if x ≤ 0 then mm_wp d 63 24 ls st h Q else mm_wp d 63 7 ls st h Q := wp_ifle rfl rfl
theorem s63_7 : mm_wp d 63 7 [.ref a] st h Q ↔ mm_wp d 63 8 [.ref a] (.ref a :: st) h Q := wp_aloadR_n rfl rfl
theorem s63_8 : mm_wp d 63 8 ls (.ref a :: st) h Q ↔ (mm_s h a).1 = 7 ∧ mm_wp d 63 11 ls (mm_o (mm_r h a 0) :: st) h Q := wp_getR rfl rfl
theorem s63_11 : mm_wp d 63 11 [.ref a] st h Q ↔ mm_wp d 63 12 [.ref a] (.ref a :: st) h Q := wp_aloadR_n rfl rfl
theorem s63_12 : mm_wp d 63 12 ls (.ref a :: st) h Q ↔ (mm_s h a).1 = 7 ∧ mm_wp d 63 15 ls (.int (mm_i h a 1) :: st) h Q := wp_getI rfl rfl (by decide) (by decide)
theorem s63_15 : mm_wp d 63 15 ls st h Q ↔ mm_wp d 63 16 ls (.int (1 : Int32) :: st) h Q := wp_iconst rfl rfl
theorem s63_16 : mm_wp d 63 16 ls (.int x2 :: .int x :: st) h Q ↔ mm_wp d 63 17 ls (.int (x - x2) :: st) h Q := wp_isub rfl
theorem s63_17 : mm_wp d 63 17 ls (.int x :: .ref a :: st) h Q ↔ (23 ≤ (mm_s h a).1 ∧ (mm_s h a).1 ≤ 26 ∧ mm_in x (mm_s h a).2 = true) ∧ mm_wp d 63 18 ls (mm_o (mm_r h a x.toNatClampNeg) :: st) h Q := wp_aaload rfl
theorem s63_18 : mm_wp d 63 18 ls (.ref a :: st) h Q ↔ (mm_s h a).1 = 6 ∧ mm_wp d 63 21 ls (.int (mm_i h a 4) :: st) h Q := wp_getI rfl rfl (by decide) (by decide)
theorem s63_21 : mm_wp d 63 21 ls st h Q ↔ mm_wp d 63 25 ls st h Q := wp_goto rfl rfl
theorem s63_24 : mm_wp d 63 24 ls st h Q ↔ mm_wp d 63 25 ls (.int (0 : Int32) :: st) h Q := wp_iconst rfl rfl
theorem s63_25 : mm_wp d 63 25 ls (.int x :: st) h Q ↔ Q (.inl (some (.int x))) h := wp_iret rfl rfl
/-! 64: LoadRoom$Search.tryPlaces(LLoadRoom$Placed;LLoadRoom$Floor;)V -/
theorem s64_0 : mm_wp d 64 0 [l0, l1, .ref a, l3, l4, l5, l6] st h Q ↔ mm_wp d 64 1 [l0, l1, .ref a, l3, l4, l5, l6] (.ref a :: st) h Q := wp_aloadR_n rfl rfl
theorem s64_0o : mm_wp d 64 0 [l0, l1, mm_o o, l3, l4, l5, l6] st h Q ↔ mm_wp d 64 1 [l0, l1, mm_o o, l3, l4, l5, l6] (mm_o o :: st) h Q := wp_aload_n rfl o rfl
theorem s64_1 : mm_wp d 64 1 ls (.ref a :: st) h Q ↔ (mm_s h a).1 = 4 ∧ mm_wp d 64 4 ls (.int (mm_i h a 4) :: st) h Q := wp_getI rfl rfl (by decide) (by decide)
theorem s64_4 : mm_wp d 64 4 [.ref a, l1, l2, l3, l4, l5, l6] st h Q ↔ mm_wp d 64 5 [.ref a, l1, l2, l3, l4, l5, l6] (.ref a :: st) h Q := wp_aloadR_n rfl rfl
theorem s64_5 : mm_wp d 64 5 ls (.ref a :: st) h Q ↔ (mm_s h a).1 = 8 ∧ mm_wp d 64 8 ls (mm_o (mm_r h a 2) :: st) h Q := wp_getR rfl rfl
theorem s64_8 : mm_wp d 64 8 [l0, l1, .ref a, l3, l4, l5, l6] st h Q ↔ mm_wp d 64 9 [l0, l1, .ref a, l3, l4, l5, l6] (.ref a :: st) h Q := wp_aloadR_n rfl rfl
theorem s64_8o : mm_wp d 64 8 [l0, l1, mm_o o, l3, l4, l5, l6] st h Q ↔ mm_wp d 64 9 [l0, l1, mm_o o, l3, l4, l5, l6] (mm_o o :: st) h Q := wp_aload_n rfl o rfl
theorem s64_9 : mm_wp d 64 9 ls (.ref a :: st) h Q ↔ (mm_s h a).1 = 4 ∧ mm_wp d 64 12 ls (.int (mm_i h a 0) :: st) h Q := wp_getI rfl rfl (by decide) (by decide)
theorem s64_12 : mm_wp (d + 1) 64 12 ls [.int x2, .ref a, t0] h Q ↔ (mm_s h a).1 = 7 ∧ mm_wp d 65 0 [.ref a, .int x2] [] h (mm_bk (d + 1) 64 12 ls [t0] Q) := wp_virtual rfl rfl ⟨by decide, rfl⟩ ⟨Nat.le_of_ble_eq_true rfl, Nat.le_of_ble_eq_true rfl⟩ rfl rfl rfl rfl rfl rfl
theorem s64_15 : mm_wp (d + 1) 64 15 ls [.int x2, .int x] h Q ↔ mm_wp d 4 0 [.int x, .int x2] [] h (mm_bk (d + 1) 64 15 ls [] Q) := wp_static rfl rfl ⟨by decide, rfl⟩ ⟨Nat.le_of_ble_eq_true rfl, Nat.le_of_ble_eq_true rfl⟩ rfl rfl rfl rfl
theorem s64_18 : mm_wp d 64 18 [l0, l1, l2, l3, l4, l5, l6] (.int x :: st) h Q ↔ mm_wp d 64 19 [l0, l1, l2, .int x, l4, l5, l6] st h Q := wp_istore_n rfl rfl
theorem s64_19 : mm_wp d 64 19 ls st h Q ↔ mm_wp d 64 20 ls (.int (0 : Int32) :: st) h Q := wp_iconst rfl rfl
theorem s64_20 : mm_wp d 64 20 [l0, l1, l2, l3, l4, l5, l6] (.int x :: st) h Q ↔ mm_wp d 64 22 [l0, l1, l2, l3, .int x, l5, l6] st h Q := wp_istore rfl rfl
theorem s64_22 : mm_wp d 64 22 [l0, l1, l2, l3, .int x, l5, l6] st h Q ↔ mm_wp d 64 24 [l0, l1, l2, l3, .int x, l5, l6] (.int x :: st) h Q := wp_iload rfl rfl
theorem s64_24 : mm_wp d 64 24 [.ref a, l1, l2, l3, l4, l5, l6] st h Q ↔ mm_wp d 64 25 [.ref a, l1, l2, l3, l4, l5, l6] (.ref a :: st) h Q := wp_aloadR_n rfl rfl
theorem s64_25 : mm_wp d 64 25 ls (.ref a :: st) h Q ↔ (mm_s h a).1 = 8 ∧ mm_wp d 64 28 ls (mm_o (mm_r h a 6) :: st) h Q := wp_getR rfl rfl
theorem s64_28 : mm_wp d 64 28 [l0, .ref a, l2, l3, l4, l5, l6] st h Q ↔ mm_wp d 64 29 [l0, .ref a, l2, l3, l4, l5, l6] (.ref a :: st) h Q := wp_aloadR_n rfl rfl
theorem s64_28o : mm_wp d 64 28 [l0, mm_o o, l2, l3, l4, l5, l6] st h Q ↔ mm_wp d 64 29 [l0, mm_o o, l2, l3, l4, l5, l6] (mm_o o :: st) h Q := wp_aload_n rfl o rfl
theorem s64_29 : mm_wp d 64 29 ls (.ref a :: st) h Q ↔ (mm_s h a).1 = 6 ∧ mm_wp d 64 32 ls (.int (mm_i h a 0) :: st) h Q := wp_getI rfl rfl (by decide) (by decide)
theorem s64_32 : mm_wp (d + 1) 64 32 ls [.int x2, .ref a, t0] h Q ↔ (mm_s h a).1 = 3 ∧ mm_wp d 55 0 [.ref a, .int x2] [] h (mm_bk (d + 1) 64 32 ls [t0] Q) := wp_virtual rfl rfl ⟨by decide, rfl⟩ ⟨Nat.le_of_ble_eq_true rfl, Nat.le_of_ble_eq_true rfl⟩ rfl rfl rfl rfl rfl rfl
theorem s64_35 : mm_wp d 64 35 ls (.int x2 :: .int x :: st) h Q ↔ if x2 ≤ x then mm_wp d 64 186 ls st h Q else mm_wp d 64 38 ls st h Q := wp_icmpge rfl rfl
theorem s64_38 : mm_wp d 64 38 [.ref a, l1, l2, l3, l4, l5, l6] st h Q ↔ mm_wp d 64 39 [.ref a, l1, l2, l3, l4, l5, l6] (.ref a :: st) h Q := wp_aloadR_n rfl rfl
theorem s64_39 : mm_wp d 64 39 ls (.ref a :: st) h Q ↔ (mm_s h a).1 = 8 ∧ mm_wp d 64 42 ls (.int (mm_i h a 10) :: st) h Q := wp_getI rfl rfl (by decide) (by decide)
theorem s64_42 : mm_wp d 64 42 ls (.int x :: st) h Q ↔ if x = 0 then mm_wp d 64 45 ls st h Q else mm_wp d 64 186 ls st h Q := wp_ifne rfl rfl
theorem s64_45 : mm_wp d 64 45 [l0, .ref a, l2, l3, l4, l5, l6] st h Q ↔ mm_wp d 64 46 [l0, .ref a, l2, l3, l4, l5, l6] (.ref a :: st) h Q := wp_aloadR_n rfl rfl
theorem s64_45o : mm_wp d 64 45 [l0, mm_o o, l2, l3, l4, l5, l6] st h Q ↔ mm_wp d 64 46 [l0, mm_o o, l2, l3, l4, l5, l6] (mm_o o :: st) h Q := wp_aload_n rfl o rfl
theorem s64_46 : mm_wp d 64 46 [.ref a, l1, l2, l3, l4, l5, l6] st h Q ↔ mm_wp d 64 47 [.ref a, l1, l2, l3, l4, l5, l6] (.ref a :: st) h Q := wp_aloadR_n rfl rfl
theorem s64_47 : mm_wp d 64 47 ls (.ref a :: st) h Q ↔ (mm_s h a).1 = 8 ∧ mm_wp d 64 50 ls (mm_o (mm_r h a 6) :: st) h Q := wp_getR rfl rfl
theorem s64_50 : mm_wp d 64 50 [l0, .ref a, l2, l3, l4, l5, l6] st h Q ↔ mm_wp d 64 51 [l0, .ref a, l2, l3, l4, l5, l6] (.ref a :: st) h Q := wp_aloadR_n rfl rfl
theorem s64_50o : mm_wp d 64 50 [l0, mm_o o, l2, l3, l4, l5, l6] st h Q ↔ mm_wp d 64 51 [l0, mm_o o, l2, l3, l4, l5, l6] (mm_o o :: st) h Q := wp_aload_n rfl o rfl
theorem s64_51 : mm_wp d 64 51 ls (.ref a :: st) h Q ↔ (mm_s h a).1 = 6 ∧ mm_wp d 64 54 ls (.int (mm_i h a 0) :: st) h Q := wp_getI rfl rfl (by decide) (by decide)
theorem s64_54 : mm_wp d 64 54 [l0, l1, l2, l3, .int x, l5, l6] st h Q ↔ mm_wp d 64 56 [l0, l1, l2, l3, .int x, l5, l6] (.int x :: st) h Q := wp_iload rfl rfl
theorem s64_56 : mm_wp (d + 1) 64 56 ls [.int x3, .int x2, .ref a, t0] h Q ↔ (mm_s h a).1 = 3 ∧ mm_wp d 56 0 [.ref a, .int x2, .int x3] [] h (mm_bk (d + 1) 64 56 ls [t0] Q) := wp_virtual rfl rfl ⟨by decide, rfl⟩ ⟨Nat.le_of_ble_eq_true rfl, Nat.le_of_ble_eq_true rfl⟩ rfl rfl rfl rfl rfl rfl
theorem s64_59 : mm_wp (d + 1) 64 59 ls [.int x2, .ref a] h Q ↔ (mm_s h a).1 = 6 ∧ mm_wp d 66 0 [.ref a, .int x2] [] h (mm_bk (d + 1) 64 59 ls [] Q) := wp_virtual rfl rfl ⟨by decide, rfl⟩ ⟨Nat.le_of_ble_eq_true rfl, Nat.le_of_ble_eq_true rfl⟩ rfl rfl rfl rfl rfl rfl
theorem s64_62 : mm_wp d 64 62 [l0, .ref a, l2, l3, l4, l5, l6] st h Q ↔ mm_wp d 64 63 [l0, .ref a, l2, l3, l4, l5, l6] (.ref a :: st) h Q := wp_aloadR_n rfl rfl
theorem s64_62o : mm_wp d 64 62 [l0, mm_o o, l2, l3, l4, l5, l6] st h Q ↔ mm_wp d 64 63 [l0, mm_o o, l2, l3, l4, l5, l6] (mm_o o :: st) h Q := wp_aload_n rfl o rfl
theorem s64_63 : mm_wp d 64 63 ls (.ref a :: st) h Q ↔ (mm_s h a).1 = 6 ∧ mm_wp d 64 66 ls (.int (mm_i h a 5) :: st) h Q := wp_getI rfl rfl (by decide) (by decide)
theorem s64_66 : mm_wp d 64 66 [l0, l1, l2, .int x, l4, l5, l6] st h Q ↔ mm_wp d 64 67 [l0, l1, l2, .int x, l4, l5, l6] (.int x :: st) h Q := wp_iload_n rfl rfl
theorem s64_67 : mm_wp d 64 67 ls (.int x2 :: .int x :: st) h Q ↔ if x < x2 then mm_wp d 64 85 ls st h Q else mm_wp d 64 70 ls st h Q := wp_icmplt rfl rfl
theorem s64_70 : mm_wp d 64 70 [l0, .ref a, l2, l3, l4, l5, l6] st h Q ↔ mm_wp d 64 71 [l0, .ref a, l2, l3, l4, l5, l6] (.ref a :: st) h Q := wp_aloadR_n rfl rfl
theorem s64_70o : mm_wp d 64 70 [l0, mm_o o, l2, l3, l4, l5, l6] st h Q ↔ mm_wp d 64 71 [l0, mm_o o, l2, l3, l4, l5, l6] (mm_o o :: st) h Q := wp_aload_n rfl o rfl
theorem s64_71 : mm_wp d 64 71 ls (.ref a :: st) h Q ↔ (mm_s h a).1 = 6 ∧ mm_wp d 64 74 ls (.int (mm_i h a 8) :: st) h Q := wp_getI rfl rfl (by decide) (by decide)
theorem s64_74 : mm_wp d 64 74 [l0, l1, .ref a, l3, l4, l5, l6] st h Q ↔ mm_wp d 64 75 [l0, l1, .ref a, l3, l4, l5, l6] (.ref a :: st) h Q := wp_aloadR_n rfl rfl
theorem s64_74o : mm_wp d 64 74 [l0, l1, mm_o o, l3, l4, l5, l6] st h Q ↔ mm_wp d 64 75 [l0, l1, mm_o o, l3, l4, l5, l6] (mm_o o :: st) h Q := wp_aload_n rfl o rfl
theorem s64_75 : mm_wp d 64 75 ls (.ref a :: st) h Q ↔ (mm_s h a).1 = 4 ∧ mm_wp d 64 78 ls (.int (mm_i h a 5) :: st) h Q := wp_getI rfl rfl (by decide) (by decide)
theorem s64_78 : mm_wp d 64 78 ls (.int x2 :: .int x :: st) h Q ↔ if x2 < x then mm_wp d 64 85 ls st h Q else mm_wp d 64 81 ls st h Q := wp_icmpgt rfl rfl
theorem s64_81 : mm_wp d 64 81 ls st h Q ↔ mm_wp d 64 82 ls (.int (1 : Int32) :: st) h Q := wp_iconst rfl rfl
theorem s64_82 : mm_wp d 64 82 ls st h Q ↔ mm_wp d 64 86 ls st h Q := wp_goto rfl rfl
theorem s64_85 : mm_wp d 64 85 ls st h Q ↔ mm_wp d 64 86 ls (.int (0 : Int32) :: st) h Q := wp_iconst rfl rfl
theorem s64_86 : mm_wp d 64 86 [l0, l1, l2, l3, l4, l5, l6] (.int x :: st) h Q ↔ mm_wp d 64 88 [l0, l1, l2, l3, l4, .int x, l6] st h Q := wp_istore rfl rfl
theorem s64_88 : mm_wp d 64 88 ls st h Q ↔ mm_wp d 64 89 ls (.int (0 : Int32) :: st) h Q := wp_iconst rfl rfl
theorem s64_89 : mm_wp d 64 89 [l0, l1, l2, l3, l4, l5, l6] (.int x :: st) h Q ↔ mm_wp d 64 91 [l0, l1, l2, l3, l4, l5, .int x] st h Q := wp_istore rfl rfl
theorem s64_91 : mm_wp d 64 91 [l0, l1, l2, l3, l4, l5, .int x] st h Q ↔ mm_wp d 64 93 [l0, l1, l2, l3, l4, l5, .int x] (.int x :: st) h Q := wp_iload rfl rfl
theorem s64_93 : mm_wp d 64 93 [.ref a, l1, l2, l3, l4, l5, l6] st h Q ↔ mm_wp d 64 94 [.ref a, l1, l2, l3, l4, l5, l6] (.ref a :: st) h Q := wp_aloadR_n rfl rfl
theorem s64_94 : mm_wp d 64 94 ls (.ref a :: st) h Q ↔ (mm_s h a).1 = 8 ∧ mm_wp d 64 97 ls (mm_o (mm_r h a 4) :: st) h Q := wp_getR rfl rfl
theorem s64_97 : mm_wp d 64 97 [l0, .ref a, l2, l3, l4, l5, l6] st h Q ↔ mm_wp d 64 98 [l0, .ref a, l2, l3, l4, l5, l6] (.ref a :: st) h Q := wp_aloadR_n rfl rfl
theorem s64_97o : mm_wp d 64 97 [l0, mm_o o, l2, l3, l4, l5, l6] st h Q ↔ mm_wp d 64 98 [l0, mm_o o, l2, l3, l4, l5, l6] (mm_o o :: st) h Q := wp_aload_n rfl o rfl
theorem s64_98 : mm_wp d 64 98 ls (.ref a :: st) h Q ↔ (mm_s h a).1 = 6 ∧ mm_wp d 64 101 ls (.int (mm_i h a 0) :: st) h Q := wp_getI rfl rfl (by decide) (by decide)
theorem s64_101 : mm_wp (d + 1) 64 101 ls [.int x2, .ref a, t0] h Q ↔ (mm_s h a).1 = 3 ∧ mm_wp d 55 0 [.ref a, .int x2] [] h (mm_bk (d + 1) 64 101 ls [t0] Q) := wp_virtual rfl rfl ⟨by decide, rfl⟩ ⟨Nat.le_of_ble_eq_true rfl, Nat.le_of_ble_eq_true rfl⟩ rfl rfl rfl rfl rfl rfl
theorem s64_104 : mm_wp d 64 104 ls (.int x2 :: .int x :: st) h Q ↔ if x2 ≤ x then mm_wp d 64 180 ls st h Q else mm_wp d 64 107 ls st h Q := wp_icmpge rfl rfl
theorem s64_107 : mm_wp d 64 107 [l0, l1, l2, l3, l4, .int x, l6] st h Q ↔ mm_wp d 64 109 [l0, l1, l2, l3, l4, .int x, l6] (.int x :: st) h Q := wp_iload rfl rfl
theorem s64_109 : mm_wp d 64 109 ls (.int x :: st) h Q ↔ if x = 0 then mm_wp d 64 180 ls st h Q else mm_wp d 64 112 ls st h Q := wp_ifeq rfl rfl
theorem s64_112 : mm_wp d 64 112 [.ref a, l1, l2, l3, l4, l5, l6] st h Q ↔ mm_wp d 64 113 [.ref a, l1, l2, l3, l4, l5, l6] (.ref a :: st) h Q := wp_aloadR_n rfl rfl
theorem s64_113 : mm_wp d 64 113 ls (.ref a :: st) h Q ↔ (mm_s h a).1 = 8 ∧ mm_wp d 64 116 ls (.int (mm_i h a 10) :: st) h Q := wp_getI rfl rfl (by decide) (by decide)
theorem s64_116 : mm_wp d 64 116 ls (.int x :: st) h Q ↔ if x = 0 then mm_wp d 64 119 ls st h Q else mm_wp d 64 180 ls st h Q := wp_ifne rfl rfl
theorem s64_119 : mm_wp d 64 119 [l0, .ref a, l2, l3, l4, l5, l6] st h Q ↔ mm_wp d 64 120 [l0, .ref a, l2, l3, l4, l5, l6] (.ref a :: st) h Q := wp_aloadR_n rfl rfl
theorem s64_119o : mm_wp d 64 119 [l0, mm_o o, l2, l3, l4, l5, l6] st h Q ↔ mm_wp d 64 120 [l0, mm_o o, l2, l3, l4, l5, l6] (mm_o o :: st) h Q := wp_aload_n rfl o rfl
theorem s64_120 : mm_wp d 64 120 [.ref a, l1, l2, l3, l4, l5, l6] st h Q ↔ mm_wp d 64 121 [.ref a, l1, l2, l3, l4, l5, l6] (.ref a :: st) h Q := wp_aloadR_n rfl rfl
theorem s64_121 : mm_wp d 64 121 ls (.ref a :: st) h Q ↔ (mm_s h a).1 = 8 ∧ mm_wp d 64 124 ls (mm_o (mm_r h a 4) :: st) h Q := wp_getR rfl rfl
theorem s64_124 : mm_wp d 64 124 [l0, .ref a, l2, l3, l4, l5, l6] st h Q ↔ mm_wp d 64 125 [l0, .ref a, l2, l3, l4, l5, l6] (.ref a :: st) h Q := wp_aloadR_n rfl rfl
theorem s64_124o : mm_wp d 64 124 [l0, mm_o o, l2, l3, l4, l5, l6] st h Q ↔ mm_wp d 64 125 [l0, mm_o o, l2, l3, l4, l5, l6] (mm_o o :: st) h Q := wp_aload_n rfl o rfl
theorem s64_125 : mm_wp d 64 125 ls (.ref a :: st) h Q ↔ (mm_s h a).1 = 6 ∧ mm_wp d 64 128 ls (.int (mm_i h a 0) :: st) h Q := wp_getI rfl rfl (by decide) (by decide)
theorem s64_128 : mm_wp d 64 128 [l0, l1, l2, l3, l4, l5, .int x] st h Q ↔ mm_wp d 64 130 [l0, l1, l2, l3, l4, l5, .int x] (.int x :: st) h Q := wp_iload rfl rfl
theorem s64_130 : mm_wp (d + 1) 64 130 ls [.int x3, .int x2, .ref a, t0] h Q ↔ (mm_s h a).1 = 3 ∧ mm_wp d 56 0 [.ref a, .int x2, .int x3] [] h (mm_bk (d + 1) 64 130 ls [t0] Q) := wp_virtual rfl rfl ⟨by decide, rfl⟩ ⟨Nat.le_of_ble_eq_true rfl, Nat.le_of_ble_eq_true rfl⟩ rfl rfl rfl rfl rfl rfl
theorem s64_133 : mm_wp (d + 1) 64 133 ls [.int x2, .ref a] h Q ↔ (mm_s h a).1 = 6 ∧ mm_wp d 67 0 [.ref a, .int x2] [] h (mm_bk (d + 1) 64 133 ls [] Q) := wp_virtual rfl rfl ⟨by decide, rfl⟩ ⟨Nat.le_of_ble_eq_true rfl, Nat.le_of_ble_eq_true rfl⟩ rfl rfl rfl rfl rfl rfl
theorem s64_136 : mm_wp d 64 136 [l0, .ref a, l2, l3, l4, l5, l6] st h Q ↔ mm_wp d 64 137 [l0, .ref a, l2, l3, l4, l5, l6] (.ref a :: st) h Q := wp_aloadR_n rfl rfl
theorem s64_136o : mm_wp d 64 136 [l0, mm_o o, l2, l3, l4, l5, l6] st h Q ↔ mm_wp d 64 137 [l0, mm_o o, l2, l3, l4, l5, l6] (mm_o o :: st) h Q := wp_aload_n rfl o rfl
theorem s64_137 : mm_wp d 64 137 ls (.ref a :: st) h Q ↔ (mm_s h a).1 = 6 ∧ mm_wp d 64 140 ls (.int (mm_i h a 3) :: st) h Q := wp_getI rfl rfl (by decide) (by decide)
theorem s64_140 : mm_wp d 64 140 [l0, l1, .ref a, l3, l4, l5, l6] st h Q ↔ mm_wp d 64 141 [l0, l1, .ref a, l3, l4, l5, l6] (.ref a :: st) h Q := wp_aloadR_n rfl rfl
theorem s64_140o : mm_wp d 64 140 [l0, l1, mm_o o, l3, l4, l5, l6] st h Q ↔ mm_wp d 64 141 [l0, l1, mm_o o, l3, l4, l5, l6] (mm_o o :: st) h Q := wp_aload_n rfl o rfl
theorem s64_141 : mm_wp d 64 141 ls (.ref a :: st) h Q ↔ (mm_s h a).1 = 4 ∧ mm_wp d 64 144 ls (.int (mm_i h a 2) :: st) h Q := wp_getI rfl rfl (by decide) (by decide)
theorem s64_144 : mm_wp d 64 144 ls (.int x2 :: .int x :: st) h Q ↔ if x < x2 then mm_wp d 64 174 ls st h Q else mm_wp d 64 147 ls st h Q := wp_icmplt rfl rfl
theorem s64_147 : mm_wp d 64 147 [l0, .ref a, l2, l3, l4, l5, l6] st h Q ↔ mm_wp d 64 148 [l0, .ref a, l2, l3, l4, l5, l6] (.ref a :: st) h Q := wp_aloadR_n rfl rfl
theorem s64_147o : mm_wp d 64 147 [l0, mm_o o, l2, l3, l4, l5, l6] st h Q ↔ mm_wp d 64 148 [l0, mm_o o, l2, l3, l4, l5, l6] (mm_o o :: st) h Q := wp_aload_n rfl o rfl
theorem s64_148 : mm_wp d 64 148 ls (.ref a :: st) h Q ↔ (mm_s h a).1 = 6 ∧ mm_wp d 64 151 ls (.int (mm_i h a 6) :: st) h Q := wp_getI rfl rfl (by decide) (by decide)
theorem s64_151 : mm_wp d 64 151 [l0, l1, .ref a, l3, l4, l5, l6] st h Q ↔ mm_wp d 64 152 [l0, l1, .ref a, l3, l4, l5, l6] (.ref a :: st) h Q := wp_aloadR_n rfl rfl
theorem s64_151o : mm_wp d 64 151 [l0, l1, mm_o o, l3, l4, l5, l6] st h Q ↔ mm_wp d 64 152 [l0, l1, mm_o o, l3, l4, l5, l6] (mm_o o :: st) h Q := wp_aload_n rfl o rfl
theorem s64_152 : mm_wp d 64 152 ls (.ref a :: st) h Q ↔ (mm_s h a).1 = 4 ∧ mm_wp d 64 155 ls (.int (mm_i h a 3) :: st) h Q := wp_getI rfl rfl (by decide) (by decide)
theorem s64_155 : mm_wp d 64 155 ls (.int x2 :: .int x :: st) h Q ↔ if x2 < x then mm_wp d 64 174 ls st h Q else mm_wp d 64 158 ls st h Q := wp_icmpgt rfl rfl
theorem s64_158 : mm_wp d 64 158 [.ref a, l1, l2, l3, l4, l5, l6] st h Q ↔ mm_wp d 64 159 [.ref a, l1, l2, l3, l4, l5, l6] (.ref a :: st) h Q := wp_aloadR_n rfl rfl
theorem s64_159 : mm_wp d 64 159 ls (.ref a :: st) h Q ↔ (mm_s h a).1 = 8 ∧ mm_wp d 64 162 ls (mm_o (mm_r h a 2) :: st) h Q := wp_getR rfl rfl
theorem s64_162 : mm_wp d 64 162 [l0, .ref a, l2, l3, l4, l5, l6] st h Q ↔ mm_wp d 64 163 [l0, .ref a, l2, l3, l4, l5, l6] (.ref a :: st) h Q := wp_aloadR_n rfl rfl
theorem s64_162o : mm_wp d 64 162 [l0, mm_o o, l2, l3, l4, l5, l6] st h Q ↔ mm_wp d 64 163 [l0, mm_o o, l2, l3, l4, l5, l6] (mm_o o :: st) h Q := wp_aload_n rfl o rfl
theorem s64_163 : mm_wp (d + 1) 64 163 ls [.ref b, .ref a] h Q ↔ (mm_s h a).1 = 7 ∧ mm_wp d 68 0 [.ref a, .ref b] [] h (mm_bk (d + 1) 64 163 ls [] Q) := wp_virtual rfl rfl ⟨by decide, rfl⟩ ⟨Nat.le_of_ble_eq_true rfl, Nat.le_of_ble_eq_true rfl⟩ rfl rfl rfl rfl rfl rfl
theorem s64_166 : mm_wp d 64 166 ls (.int x :: st) h Q ↔ if x = 0 then mm_wp d 64 174 ls st h Q else mm_wp d 64 169 ls st h Q := wp_ifeq rfl rfl
theorem s64_169 : mm_wp d 64 169 [.ref a, l1, l2, l3, l4, l5, l6] st h Q ↔ mm_wp d 64 170 [.ref a, l1, l2, l3, l4, l5, l6] (.ref a :: st) h Q := wp_aloadR_n rfl rfl
theorem s64_170 : mm_wp d 64 170 [l0, .ref a, l2, l3, l4, l5, l6] st h Q ↔ mm_wp d 64 171 [l0, .ref a, l2, l3, l4, l5, l6] (.ref a :: st) h Q := wp_aloadR_n rfl rfl
theorem s64_170o : mm_wp d 64 170 [l0, mm_o o, l2, l3, l4, l5, l6] st h Q ↔ mm_wp d 64 171 [l0, mm_o o, l2, l3, l4, l5, l6] (mm_o o :: st) h Q := wp_aload_n rfl o rfl
theorem s64_171 : mm_wp (d + 1) 64 171 ls [.ref b, .ref a] h Q ↔ (mm_s h a).1 = 8 ∧ mm_wp d 79 0 [.ref a, .ref b] [] h (mm_bk (d + 1) 64 171 ls [] Q) := wp_virtual rfl rfl ⟨by decide, rfl⟩ ⟨Nat.le_of_ble_eq_true rfl, Nat.le_of_ble_eq_true rfl⟩ rfl rfl rfl rfl rfl rfl
theorem s64_174 : mm_wp d 64 174 [l0, l1, l2, l3, l4, l5, .int x] st h Q ↔ mm_wp d 64 177 [l0, l1, l2, l3, l4, l5, .int (x + (1 : Int32))] st h Q := wp_iinc rfl rfl rfl rfl
theorem s64_177 : mm_wp d 64 177 ls st h Q ↔ mm_wp d 64 91 ls st h Q := wp_goto rfl rfl
theorem s64_180 : mm_wp d 64 180 [l0, l1, l2, l3, .int x, l5, l6] st h Q ↔ mm_wp d 64 183 [l0, l1, l2, l3, .int (x + (1 : Int32)), l5, l6] st h Q := wp_iinc rfl rfl rfl rfl
theorem s64_183 : mm_wp d 64 183 ls st h Q ↔ mm_wp d 64 22 ls st h Q := wp_goto rfl rfl
theorem s64_186 : mm_wp d 64 186 ls st h Q ↔ Q (.inl none) h := wp_vret rfl rfl
/-! 65: LoadRoom$Row.leastDepth(I)I -/
theorem s65_0 : mm_wp d 65 0 [.ref a, l1] st h Q ↔ mm_wp d 65 1 [.ref a, l1] (.ref a :: st) h Q := wp_aloadR_n rfl rfl
theorem s65_1 : mm_wp d 65 1 ls (.ref a :: st) h Q ↔ (mm_s h a).1 = 7 ∧ mm_wp d 65 4 ls (.int (mm_i h a 1) :: st) h Q := wp_getI rfl rfl (by decide) (by decide)
theorem s65_4 : mm_wp d 65 4 ls (.int x :: st) h Q ↔ if x ≤ 0 then mm_wp d 65 42 ls st h Q else mm_wp d 65 7 ls st h Q := wp_ifle rfl rfl
theorem s65_7 : mm_wp d 65 7 [.ref a, l1] st h Q ↔ mm_wp d 65 8 [.ref a, l1] (.ref a :: st) h Q := wp_aloadR_n rfl rfl
theorem s65_8 : mm_wp d 65 8 ls (.ref a :: st) h Q ↔ (mm_s h a).1 = 7 ∧ mm_wp d 65 11 ls (mm_o (mm_r h a 0) :: st) h Q := wp_getR rfl rfl
theorem s65_11 : mm_wp d 65 11 [.ref a, l1] st h Q ↔ mm_wp d 65 12 [.ref a, l1] (.ref a :: st) h Q := wp_aloadR_n rfl rfl
theorem s65_12 : mm_wp d 65 12 ls (.ref a :: st) h Q ↔ (mm_s h a).1 = 7 ∧ mm_wp d 65 15 ls (.int (mm_i h a 1) :: st) h Q := wp_getI rfl rfl (by decide) (by decide)
theorem s65_15 : mm_wp d 65 15 ls st h Q ↔ mm_wp d 65 16 ls (.int (1 : Int32) :: st) h Q := wp_iconst rfl rfl
theorem s65_16 : mm_wp d 65 16 ls (.int x2 :: .int x :: st) h Q ↔ mm_wp d 65 17 ls (.int (x - x2) :: st) h Q := wp_isub rfl
theorem s65_17 : mm_wp d 65 17 ls (.int x :: .ref a :: st) h Q ↔ (23 ≤ (mm_s h a).1 ∧ (mm_s h a).1 ≤ 26 ∧ mm_in x (mm_s h a).2 = true) ∧ mm_wp d 65 18 ls (mm_o (mm_r h a x.toNatClampNeg) :: st) h Q := wp_aaload rfl
theorem s65_18 : mm_wp d 65 18 ls (.ref a :: st) h Q ↔ (mm_s h a).1 = 6 ∧ mm_wp d 65 21 ls (.int (mm_i h a 4) :: st) h Q := wp_getI rfl rfl (by decide) (by decide)
theorem s65_21 : mm_wp d 65 21 [l0, .int x] st h Q ↔ mm_wp d 65 22 [l0, .int x] (.int x :: st) h Q := wp_iload_n rfl rfl
theorem s65_22 : mm_wp d 65 22 ls (.int x2 :: .int x :: st) h Q ↔ if x = x2 then mm_wp d 65 25 ls st h Q else mm_wp d 65 42 ls st h Q := wp_icmpne rfl rfl
theorem s65_25 : mm_wp d 65 25 [.ref a, l1] st h Q ↔ mm_wp d 65 26 [.ref a, l1] (.ref a :: st) h Q := wp_aloadR_n rfl rfl
theorem s65_26 : mm_wp d 65 26 ls (.ref a :: st) h Q ↔ (mm_s h a).1 = 7 ∧ mm_wp d 65 29 ls (mm_o (mm_r h a 0) :: st) h Q := wp_getR rfl rfl
theorem s65_29 : mm_wp d 65 29 [.ref a, l1] st h Q ↔ mm_wp d 65 30 [.ref a, l1] (.ref a :: st) h Q := wp_aloadR_n rfl rfl
theorem s65_30 : mm_wp d 65 30 ls (.ref a :: st) h Q ↔ (mm_s h a).1 = 7 ∧ mm_wp d 65 33 ls (.int (mm_i h a 1) :: st) h Q := wp_getI rfl rfl (by decide) (by decide)
theorem s65_33 : mm_wp d 65 33 ls st h Q ↔ mm_wp d 65 34 ls (.int (1 : Int32) :: st) h Q := wp_iconst rfl rfl
theorem s65_34 : mm_wp d 65 34 ls (.int x2 :: .int x :: st) h Q ↔ mm_wp d 65 35 ls (.int (x - x2) :: st) h Q := wp_isub rfl
theorem s65_35 : mm_wp d 65 35 ls (.int x :: .ref a :: st) h Q ↔ (23 ≤ (mm_s h a).1 ∧ (mm_s h a).1 ≤ 26 ∧ mm_in x (mm_s h a).2 = true) ∧ mm_wp d 65 36 ls (mm_o (mm_r h a x.toNatClampNeg) :: st) h Q := wp_aaload rfl
theorem s65_36 : mm_wp d 65 36 ls (.ref a :: st) h Q ↔ (mm_s h a).1 = 6 ∧ mm_wp d 65 39 ls (.int (mm_i h a 5) :: st) h Q := wp_getI rfl rfl (by decide) (by decide)
theorem s65_39 : mm_wp d 65 39 ls st h Q ↔ mm_wp d 65 43 ls st h Q := wp_goto rfl rfl
theorem s65_42 : mm_wp d 65 42 ls st h Q ↔ mm_wp d 65 43 ls (.int (0 : Int32) :: st) h Q := wp_iconst rfl rfl
theorem s65_43 : mm_wp d 65 43 ls (.int x :: st) h Q ↔ Q (.inl (some (.int x))) h := wp_iret rfl rfl
/-! 66: LoadRoom$Placed.moveToZ(I)V -/
theorem s66_0 : mm_wp d 66 0 [.ref a, l1] st h Q ↔ mm_wp d 66 1 [.ref a, l1] (.ref a :: st) h Q := wp_aloadR_n rfl rfl
theorem s66_1 : mm_wp d 66 1 [l0, .int x] st h Q ↔ mm_wp d 66 2 [l0, .int x] (.int x :: st) h Q := wp_iload_n rfl rfl
theorem s66_2 : mm_wp d 66 2 ls (.int x :: .ref a :: st) h Q ↔ (mm_s h a).1 = 6 ∧ mm_wp d 66 5 ls st (mm_pi h a 5 x) Q := wp_putI rfl rfl
theorem s66_5 : mm_wp d 66 5 [.ref a, l1] st h Q ↔ mm_wp d 66 6 [.ref a, l1] (.ref a :: st) h Q := wp_aloadR_n rfl rfl
theorem s66_6 : mm_wp d 66 6 [l0, .int x] st h Q ↔ mm_wp d 66 7 [l0, .int x] (.int x :: st) h Q := wp_iload_n rfl rfl
theorem s66_7 : mm_wp d 66 7 [.ref a, l1] st h Q ↔ mm_wp d 66 8 [.ref a, l1] (.ref a :: st) h Q := wp_aloadR_n rfl rfl
theorem s66_8 : mm_wp d 66 8 ls (.ref a :: st) h Q ↔ (mm_s h a).1 = 6 ∧ mm_wp d 66 11 ls (.int (mm_i h a 11) :: st) h Q := wp_getI rfl rfl (by decide) (by decide)
theorem s66_11 : mm_wp d 66 11 ls (.int x2 :: .int x :: st) h Q ↔ mm_wp d 66 12 ls (.int (x + x2) :: st) h Q := wp_iadd rfl
theorem s66_12 : mm_wp d 66 12 ls (.int x :: .ref a :: st) h Q ↔ (mm_s h a).1 = 6 ∧ mm_wp d 66 15 ls st (mm_pi h a 8 x) Q := wp_putI rfl rfl
theorem s66_15 : mm_wp d 66 15 ls st h Q ↔ Q (.inl none) h := wp_vret rfl rfl
/-! 67: LoadRoom$Placed.moveToX(I)V -/
theorem s67_0 : mm_wp d 67 0 [.ref a, l1] st h Q ↔ mm_wp d 67 1 [.ref a, l1] (.ref a :: st) h Q := wp_aloadR_n rfl rfl
theorem s67_1 : mm_wp d 67 1 [l0, .int x] st h Q ↔ mm_wp d 67 2 [l0, .int x] (.int x :: st) h Q := wp_iload_n rfl rfl
theorem s67_2 : mm_wp d 67 2 ls (.int x :: .ref a :: st) h Q ↔ (mm_s h a).1 = 6 ∧ mm_wp d 67 5 ls st (mm_pi h a 3 x) Q := wp_putI rfl rfl
theorem s67_5 : mm_wp d 67 5 [.ref a, l1] st h Q ↔ mm_wp d 67 6 [.ref a, l1] (.ref a :: st) h Q := wp_aloadR_n rfl rfl
theorem s67_6 : mm_wp d 67 6 [l0, .int x] st h Q ↔ mm_wp d 67 7 [l0, .int x] (.int x :: st) h Q := wp_iload_n rfl rfl
theorem s67_7 : mm_wp d 67 7 [.ref a, l1] st h Q ↔ mm_wp d 67 8 [.ref a, l1] (.ref a :: st) h Q := wp_aloadR_n rfl rfl
theorem s67_8 : mm_wp d 67 8 ls (.ref a :: st) h Q ↔ (mm_s h a).1 = 6 ∧ mm_wp d 67 11 ls (.int (mm_i h a 9) :: st) h Q := wp_getI rfl rfl (by decide) (by decide)
theorem s67_11 : mm_wp d 67 11 ls (.int x2 :: .int x :: st) h Q ↔ mm_wp d 67 12 ls (.int (x + x2) :: st) h Q := wp_iadd rfl
theorem s67_12 : mm_wp d 67 12 ls (.int x :: .ref a :: st) h Q ↔ (mm_s h a).1 = 6 ∧ mm_wp d 67 15 ls st (mm_pi h a 6 x) Q := wp_putI rfl rfl
theorem s67_15 : mm_wp d 67 15 ls st h Q ↔ Q (.inl none) h := wp_vret rfl rfl
/-! 68: LoadRoom$Row.admits(LLoadRoom$Placed;)Z -/
theorem s68_0 : mm_wp d 68 0 [.ref a, l1] st h Q ↔ mm_wp d 68 1 [.ref a, l1] (.ref a :: st) h Q := wp_aloadR_n rfl rfl
theorem s68_1 : mm_wp d 68 1 [l0, .ref a] st h Q ↔ mm_wp d 68 2 [l0, .ref a] (.ref a :: st) h Q := wp_aloadR_n rfl rfl
theorem s68_1o : mm_wp d 68 1 [l0, mm_o o] st h Q ↔ mm_wp d 68 2 [l0, mm_o o] (mm_o o :: st) h Q := wp_aload_n rfl o rfl
theorem s68_2 : mm_wp (d + 1) 68 2 ls [.ref b, .ref a] h Q ↔ (mm_s h a).1 = 7 ∧ mm_wp d 69 0 [.ref a, .ref b] [] h (mm_bk (d + 1) 68 2 ls [] Q) := wp_virtual rfl rfl ⟨by decide, rfl⟩ ⟨Nat.le_of_ble_eq_true rfl, Nat.le_of_ble_eq_true rfl⟩ rfl rfl rfl rfl rfl rfl
theorem s68_5 : mm_wp d 68 5 ls (.int x :: st) h Q ↔ if x = 0 then mm_wp d 68 44 ls st h Q else mm_wp d 68 8 ls st h Q := wp_ifeq rfl rfl
theorem s68_8 : mm_wp d 68 8 [.ref a, l1] st h Q ↔ mm_wp d 68 9 [.ref a, l1] (.ref a :: st) h Q := wp_aloadR_n rfl rfl
theorem s68_9 : mm_wp d 68 9 [l0, .ref a] st h Q ↔ mm_wp d 68 10 [l0, .ref a] (.ref a :: st) h Q := wp_aloadR_n rfl rfl
theorem s68_9o : mm_wp d 68 9 [l0, mm_o o] st h Q ↔ mm_wp d 68 10 [l0, mm_o o] (mm_o o :: st) h Q := wp_aload_n rfl o rfl
theorem s68_10 : mm_wp (d + 1) 68 10 ls [.ref b, .ref a] h Q ↔ (mm_s h a).1 = 7 ∧ mm_wp d 71 0 [.ref a, .ref b, mm_j, mm_j] [] h (mm_bk (d + 1) 68 10 ls [] Q) := wp_virtual rfl rfl ⟨by decide, rfl⟩ ⟨Nat.le_of_ble_eq_true rfl, Nat.le_of_ble_eq_true rfl⟩ rfl rfl rfl rfl rfl rfl
theorem s68_13 : mm_wp d 68 13 ls (.int x :: st) h Q ↔ if x = 0 then mm_wp d 68 44 ls st h Q else mm_wp d 68 16 ls st h Q := wp_ifeq rfl rfl
theorem s68_16 : mm_wp d 68 16 [.ref a, l1] st h Q ↔ mm_wp d 68 17 [.ref a, l1] (.ref a :: st) h Q := wp_aloadR_n rfl rfl
theorem s68_17 : mm_wp d 68 17 [l0, .ref a] st h Q ↔ mm_wp d 68 18 [l0, .ref a] (.ref a :: st) h Q := wp_aloadR_n rfl rfl
theorem s68_17o : mm_wp d 68 17 [l0, mm_o o] st h Q ↔ mm_wp d 68 18 [l0, mm_o o] (mm_o o :: st) h Q := wp_aload_n rfl o rfl
theorem s68_18 : mm_wp (d + 1) 68 18 ls [.ref b, .ref a] h Q ↔ (mm_s h a).1 = 7 ∧ mm_wp d 73 0 [.ref a, .ref b, mm_j] [] h (mm_bk (d + 1) 68 18 ls [] Q) := wp_virtual rfl rfl ⟨by decide, rfl⟩ ⟨Nat.le_of_ble_eq_true rfl, Nat.le_of_ble_eq_true rfl⟩ rfl rfl rfl rfl rfl rfl
theorem s68_21 : mm_wp d 68 21 ls (.int x :: st) h Q ↔ if x = 0 then mm_wp d 68 44 ls st h Q else mm_wp d 68 24 ls st h Q := wp_ifeq rfl rfl
theorem s68_24 : mm_wp d 68 24 [.ref a, l1] st h Q ↔ mm_wp d 68 25 [.ref a, l1] (.ref a :: st) h Q := wp_aloadR_n rfl rfl
theorem s68_25 : mm_wp d 68 25 [l0, .ref a] st h Q ↔ mm_wp d 68 26 [l0, .ref a] (.ref a :: st) h Q := wp_aloadR_n rfl rfl
theorem s68_25o : mm_wp d 68 25 [l0, mm_o o] st h Q ↔ mm_wp d 68 26 [l0, mm_o o] (mm_o o :: st) h Q := wp_aload_n rfl o rfl
theorem s68_26 : mm_wp (d + 1) 68 26 ls [.ref b, .ref a] h Q ↔ (mm_s h a).1 = 7 ∧ mm_wp d 75 0 [.ref a, .ref b, mm_j, mm_j] [] h (mm_bk (d + 1) 68 26 ls [] Q) := wp_virtual rfl rfl ⟨by decide, rfl⟩ ⟨Nat.le_of_ble_eq_true rfl, Nat.le_of_ble_eq_true rfl⟩ rfl rfl rfl rfl rfl rfl
theorem s68_29 : mm_wp d 68 29 ls (.int x :: st) h Q ↔ if x = 0 then mm_wp d 68 44 ls st h Q else mm_wp d 68 32 ls st h Q := wp_ifeq rfl rfl
theorem s68_32 : mm_wp d 68 32 [.ref a, l1] st h Q ↔ mm_wp d 68 33 [.ref a, l1] (.ref a :: st) h Q := wp_aloadR_n rfl rfl
theorem s68_33 : mm_wp d 68 33 [l0, .ref a] st h Q ↔ mm_wp d 68 34 [l0, .ref a] (.ref a :: st) h Q := wp_aloadR_n rfl rfl
theorem s68_33o : mm_wp d 68 33 [l0, mm_o o] st h Q ↔ mm_wp d 68 34 [l0, mm_o o] (mm_o o :: st) h Q := wp_aload_n rfl o rfl
theorem s68_34 : mm_wp (d + 1) 68 34 ls [.ref b, .ref a] h Q ↔ (mm_s h a).1 = 7 ∧ mm_wp d 77 0 [.ref a, .ref b, mm_j] [] h (mm_bk (d + 1) 68 34 ls [] Q) := wp_virtual rfl rfl ⟨by decide, rfl⟩ ⟨Nat.le_of_ble_eq_true rfl, Nat.le_of_ble_eq_true rfl⟩ rfl rfl rfl rfl rfl rfl
theorem s68_37 : mm_wp d 68 37 ls (.int x :: st) h Q ↔ if x = 0 then mm_wp d 68 44 ls st h Q else mm_wp d 68 40 ls st h Q := wp_ifeq rfl rfl
theorem s68_40 : mm_wp d 68 40 ls st h Q ↔ mm_wp d 68 41 ls (.int (1 : Int32) :: st) h Q := wp_iconst rfl rfl
theorem s68_41 : mm_wp d 68 41 ls st h Q ↔ mm_wp d 68 45 ls st h Q := wp_goto rfl rfl
theorem s68_44 : mm_wp d 68 44 ls st h Q ↔ mm_wp d 68 45 ls (.int (0 : Int32) :: st) h Q := wp_iconst rfl rfl
theorem s68_45 : mm_wp d 68 45 ls (.int x :: st) h Q ↔ (x = 0 ∨ x = 1) ∧ Q (.inl (some (.int x))) h := wp_zret rfl rfl
/-! 69: LoadRoom$Row.isRising(LLoadRoom$Placed;)Z -/
theorem s69_0 : mm_wp d 69 0 [.ref a, l1] st h Q ↔ mm_wp d 69 1 [.ref a, l1] (.ref a :: st) h Q := wp_aloadR_n rfl rfl
theorem s69_1 : mm_wp d 69 1 ls (.ref a :: st) h Q ↔ (mm_s h a).1 = 7 ∧ mm_wp d 69 4 ls (.int (mm_i h a 1) :: st) h Q := wp_getI rfl rfl (by decide) (by decide)
theorem s69_4 : mm_wp d 69 4 ls (.int x :: st) h Q ↔ if x = 0 then mm_wp d 69 25 ls st h Q else mm_wp d 69 7 ls st h Q := wp_ifeq rfl rfl
theorem s69_7 : mm_wp d 69 7 [l0, .ref a] st h Q ↔ mm_wp d 69 8 [l0, .ref a] (.ref a :: st) h Q := wp_aloadR_n rfl rfl
theorem s69_7o : mm_wp d 69 7 [l0, mm_o o] st h Q ↔ mm_wp d 69 8 [l0, mm_o o] (mm_o o :: st) h Q := wp_aload_n rfl o rfl
theorem s69_8 : mm_wp d 69 8 [.ref a, l1] st h Q ↔ mm_wp d 69 9 [.ref a, l1] (.ref a :: st) h Q := wp_aloadR_n rfl rfl
theorem s69_9 : mm_wp d 69 9 ls (.ref a :: st) h Q ↔ (mm_s h a).1 = 7 ∧ mm_wp d 69 12 ls (mm_o (mm_r h a 0) :: st) h Q := wp_getR rfl rfl
theorem s69_12 : mm_wp d 69 12 [.ref a, l1] st h Q ↔ mm_wp d 69 13 [.ref a, l1] (.ref a :: st) h Q := wp_aloadR_n rfl rfl
theorem s69_13 : mm_wp d 69 13 ls (.ref a :: st) h Q ↔ (mm_s h a).1 = 7 ∧ mm_wp d 69 16 ls (.int (mm_i h a 1) :: st) h Q := wp_getI rfl rfl (by decide) (by decide)
theorem s69_16 : mm_wp d 69 16 ls st h Q ↔ mm_wp d 69 17 ls (.int (1 : Int32) :: st) h Q := wp_iconst rfl rfl
theorem s69_17 : mm_wp d 69 17 ls (.int x2 :: .int x :: st) h Q ↔ mm_wp d 69 18 ls (.int (x - x2) :: st) h Q := wp_isub rfl
theorem s69_18 : mm_wp d 69 18 ls (.int x :: .ref a :: st) h Q ↔ (23 ≤ (mm_s h a).1 ∧ (mm_s h a).1 ≤ 26 ∧ mm_in x (mm_s h a).2 = true) ∧ mm_wp d 69 19 ls (mm_o (mm_r h a x.toNatClampNeg) :: st) h Q := wp_aaload rfl
theorem s69_19 : mm_wp (d + 1) 69 19 ls [.ref b, .ref a] h Q ↔ (mm_s h a).1 = 6 ∧ mm_wp d 70 0 [.ref a, .ref b] [] h (mm_bk (d + 1) 69 19 ls [] Q) := wp_virtual rfl rfl ⟨by decide, rfl⟩ ⟨Nat.le_of_ble_eq_true rfl, Nat.le_of_ble_eq_true rfl⟩ rfl rfl rfl rfl rfl rfl
theorem s69_22 : mm_wp d 69 22 ls (.int x :: st) h Q ↔ if x = 0 then mm_wp d 69 29 ls st h Q else mm_wp d 69 25 ls st h Q := wp_ifeq rfl rfl
theorem s69_25 : mm_wp d 69 25 ls st h Q ↔ mm_wp d 69 26 ls (.int (1 : Int32) :: st) h Q := wp_iconst rfl rfl
theorem s69_26 : mm_wp d 69 26 ls st h Q ↔ mm_wp d 69 30 ls st h Q := wp_goto rfl rfl
theorem s69_29 : mm_wp d 69 29 ls st h Q ↔ mm_wp d 69 30 ls (.int (0 : Int32) :: st) h Q := wp_iconst rfl rfl
theorem s69_30 : mm_wp d 69 30 ls (.int x :: st) h Q ↔ (x = 0 ∨ x = 1) ∧ Q (.inl (some (.int x))) h := wp_zret rfl rfl
/-! 70: LoadRoom$Placed.isPast(LLoadRoom$Placed;)Z -/
theorem s70_0 : mm_wp d 70 0 [.ref a, l1] st h Q ↔ mm_wp d 70 1 [.ref a, l1] (.ref a :: st) h Q := wp_aloadR_n rfl rfl
theorem s70_1 : mm_wp d 70 1 ls (.ref a :: st) h Q ↔ (mm_s h a).1 = 6 ∧ mm_wp d 70 4 ls (.int (mm_i h a 4) :: st) h Q := wp_getI rfl rfl (by decide) (by decide)
theorem s70_4 : mm_wp d 70 4 [l0, .ref a] st h Q ↔ mm_wp d 70 5 [l0, .ref a] (.ref a :: st) h Q := wp_aloadR_n rfl rfl
theorem s70_4o : mm_wp d 70 4 [l0, mm_o o] st h Q ↔ mm_wp d 70 5 [l0, mm_o o] (mm_o o :: st) h Q := wp_aload_n rfl o rfl
theorem s70_5 : mm_wp d 70 5 ls (.ref a :: st) h Q ↔ (mm_s h a).1 = 6 ∧ mm_wp d 70 8 ls (.int (mm_i h a 4) :: st) h Q := wp_getI rfl rfl (by decide) (by decide)
theorem s70_8 : mm_wp d 70 8 ls (.int x2 :: .int x :: st) h Q ↔ if x = x2 then mm_wp d 70 28 ls st h Q else mm_wp d 70 11 ls st h Q := wp_icmpeq rfl rfl
theorem s70_11 : mm_wp d 70 11 [.ref a, l1] st h Q ↔ mm_wp d 70 12 [.ref a, l1] (.ref a :: st) h Q := wp_aloadR_n rfl rfl
theorem s70_12 : mm_wp d 70 12 ls (.ref a :: st) h Q ↔ (mm_s h a).1 = 6 ∧ mm_wp d 70 15 ls (.int (mm_i h a 4) :: st) h Q := wp_getI rfl rfl (by decide) (by decide)
theorem s70_15 : mm_wp d 70 15 [l0, .ref a] st h Q ↔ mm_wp d 70 16 [l0, .ref a] (.ref a :: st) h Q := wp_aloadR_n rfl rfl
theorem s70_15o : mm_wp d 70 15 [l0, mm_o o] st h Q ↔ mm_wp d 70 16 [l0, mm_o o] (mm_o o :: st) h Q := wp_aload_n rfl o rfl
theorem s70_16 : mm_wp d 70 16 ls (.ref a :: st) h Q ↔ (mm_s h a).1 = 6 ∧ mm_wp d 70 19 ls (.int (mm_i h a 4) :: st) h Q := wp_getI rfl rfl (by decide) (by decide)
theorem s70_19 : mm_wp d 70 19 ls (.int x2 :: .int x :: st) h Q ↔ if x ≤ x2 then mm_wp d 70 26 ls st h Q else mm_wp d 70 22 ls st h Q := wp_icmple rfl rfl
theorem s70_22 : mm_wp d 70 22 ls st h Q ↔ mm_wp d 70 23 ls (.int (1 : Int32) :: st) h Q := wp_iconst rfl rfl
theorem s70_23 : mm_wp d 70 23 ls st h Q ↔ mm_wp d 70 27 ls st h Q := wp_goto rfl rfl
theorem s70_26 : mm_wp d 70 26 ls st h Q ↔ mm_wp d 70 27 ls (.int (0 : Int32) :: st) h Q := wp_iconst rfl rfl
theorem s70_27 : mm_wp d 70 27 ls (.int x :: st) h Q ↔ (x = 0 ∨ x = 1) ∧ Q (.inl (some (.int x))) h := wp_zret rfl rfl
theorem s70_28 : mm_wp d 70 28 [.ref a, l1] st h Q ↔ mm_wp d 70 29 [.ref a, l1] (.ref a :: st) h Q := wp_aloadR_n rfl rfl
theorem s70_29 : mm_wp d 70 29 ls (.ref a :: st) h Q ↔ (mm_s h a).1 = 6 ∧ mm_wp d 70 32 ls (.int (mm_i h a 5) :: st) h Q := wp_getI rfl rfl (by decide) (by decide)
theorem s70_32 : mm_wp d 70 32 [l0, .ref a] st h Q ↔ mm_wp d 70 33 [l0, .ref a] (.ref a :: st) h Q := wp_aloadR_n rfl rfl
theorem s70_32o : mm_wp d 70 32 [l0, mm_o o] st h Q ↔ mm_wp d 70 33 [l0, mm_o o] (mm_o o :: st) h Q := wp_aload_n rfl o rfl
theorem s70_33 : mm_wp d 70 33 ls (.ref a :: st) h Q ↔ (mm_s h a).1 = 6 ∧ mm_wp d 70 36 ls (.int (mm_i h a 5) :: st) h Q := wp_getI rfl rfl (by decide) (by decide)
theorem s70_36 : mm_wp d 70 36 ls (.int x2 :: .int x :: st) h Q ↔ if x = x2 then mm_wp d 70 58 ls st h Q else mm_wp d 70 39 ls st h Q := wp_icmpeq rfl rfl
theorem s70_39 : mm_wp d 70 39 [.ref a, l1] st h Q ↔ mm_wp d 70 40 [.ref a, l1] (.ref a :: st) h Q := wp_aloadR_n rfl rfl
theorem s70_40 : mm_wp d 70 40 ls (.ref a :: st) h Q ↔ (mm_s h a).1 = 6 ∧ mm_wp d 70 43 ls (.int (mm_i h a 5) :: st) h Q := wp_getI rfl rfl (by decide) (by decide)
theorem s70_43 : mm_wp d 70 43 [l0, .ref a] st h Q ↔ mm_wp d 70 44 [l0, .ref a] (.ref a :: st) h Q := wp_aloadR_n rfl rfl
theorem s70_43o : mm_wp d 70 43 [l0, mm_o o] st h Q ↔ mm_wp d 70 44 [l0, mm_o o] (mm_o o :: st) h Q := wp_aload_n rfl o rfl
theorem s70_44 : mm_wp d 70 44 ls (.ref a :: st) h Q ↔ (mm_s h a).1 = 6 ∧ mm_wp d 70 47 ls (.int (mm_i h a 5) :: st) h Q := wp_getI rfl rfl (by decide) (by decide)
theorem s70_47 : mm_wp d 70 47 ls (.int x2 :: .int x :: st) h Q ↔ if x ≤ x2 then mm_wp d 70 54 ls st h Q else mm_wp d 70 50 ls st h Q := wp_icmple rfl rfl
theorem s70_50 : mm_wp d 70 50 ls st h Q ↔ mm_wp d 70 51 ls (.int (1 : Int32) :: st) h Q := wp_iconst rfl rfl
theorem s70_51 : mm_wp d 70 51 ls st h Q ↔ mm_wp d 70 74 ls st h Q := wp_goto rfl rfl
theorem s70_54 : mm_wp d 70 54 ls st h Q ↔ mm_wp d 70 55 ls (.int (0 : Int32) :: st) h Q := wp_iconst rfl rfl
theorem s70_55 : mm_wp d 70 55 ls st h Q ↔ mm_wp d 70 74 ls st h Q := wp_goto rfl rfl
theorem s70_58 : mm_wp d 70 58 [.ref a, l1] st h Q ↔ mm_wp d 70 59 [.ref a, l1] (.ref a :: st) h Q := wp_aloadR_n rfl rfl
theorem s70_59 : mm_wp d 70 59 ls (.ref a :: st) h Q ↔ (mm_s h a).1 = 6 ∧ mm_wp d 70 62 ls (.int (mm_i h a 3) :: st) h Q := wp_getI rfl rfl (by decide) (by decide)
theorem s70_62 : mm_wp d 70 62 [l0, .ref a] st h Q ↔ mm_wp d 70 63 [l0, .ref a] (.ref a :: st) h Q := wp_aloadR_n rfl rfl
theorem s70_62o : mm_wp d 70 62 [l0, mm_o o] st h Q ↔ mm_wp d 70 63 [l0, mm_o o] (mm_o o :: st) h Q := wp_aload_n rfl o rfl
theorem s70_63 : mm_wp d 70 63 ls (.ref a :: st) h Q ↔ (mm_s h a).1 = 6 ∧ mm_wp d 70 66 ls (.int (mm_i h a 3) :: st) h Q := wp_getI rfl rfl (by decide) (by decide)
theorem s70_66 : mm_wp d 70 66 ls (.int x2 :: .int x :: st) h Q ↔ if x ≤ x2 then mm_wp d 70 73 ls st h Q else mm_wp d 70 69 ls st h Q := wp_icmple rfl rfl
theorem s70_69 : mm_wp d 70 69 ls st h Q ↔ mm_wp d 70 70 ls (.int (1 : Int32) :: st) h Q := wp_iconst rfl rfl
theorem s70_70 : mm_wp d 70 70 ls st h Q ↔ mm_wp d 70 74 ls st h Q := wp_goto rfl rfl
theorem s70_73 : mm_wp d 70 73 ls st h Q ↔ mm_wp d 70 74 ls (.int (0 : Int32) :: st) h Q := wp_iconst rfl rfl
theorem s70_74 : mm_wp d 70 74 ls (.int x :: st) h Q ↔ (x = 0 ∨ x = 1) ∧ Q (.inl (some (.int x))) h := wp_zret rfl rfl
/-! 71: LoadRoom$Row.letsStand(LLoadRoom$Placed;)Z -/
theorem s71_0 : mm_wp d 71 0 [l0, .ref a, l2, l3] st h Q ↔ mm_wp d 71 1 [l0, .ref a, l2, l3] (.ref a :: st) h Q := wp_aloadR_n rfl rfl
theorem s71_0o : mm_wp d 71 0 [l0, mm_o o, l2, l3] st h Q ↔ mm_wp d 71 1 [l0, mm_o o, l2, l3] (mm_o o :: st) h Q := wp_aload_n rfl o rfl
theorem s71_1 : mm_wp d 71 1 ls (.ref a :: st) h Q ↔ (mm_s h a).1 = 6 ∧ mm_wp d 71 4 ls (.int (mm_i h a 4) :: st) h Q := wp_getI rfl rfl (by decide) (by decide)
theorem s71_4 : mm_wp d 71 4 ls (.int x :: st) h Q ↔ if x = 0 then mm_wp d 71 7 ls st h Q else mm_wp d 71 9 ls st h Q := wp_ifne rfl rfl
theorem s71_7 : mm_wp d 71 7 ls st h Q ↔ mm_wp d 71 8 ls (.int (1 : Int32) :: st) h Q := wp_iconst rfl rfl
theorem s71_8 : mm_wp d 71 8 ls (.int x :: st) h Q ↔ (x = 0 ∨ x = 1) ∧ Q (.inl (some (.int x))) h := wp_zret rfl rfl
theorem s71_9 : mm_wp d 71 9 ls st h Q ↔ mm_wp d 71 10 ls (.int (0 : Int32) :: st) h Q := wp_iconst rfl rfl
theorem s71_10 : mm_wp d 71 10 [l0, l1, l2, l3] (.int x :: st) h Q ↔ mm_wp d 71 11 [l0, l1, .int x, l3] st h Q := wp_istore_n rfl rfl
theorem s71_11 : mm_wp d 71 11 ls st h Q ↔ mm_wp d 71 12 ls (.int (0 : Int32) :: st) h Q := wp_iconst rfl rfl
theorem s71_12 : mm_wp d 71 12 [l0, l1, l2, l3] (.int x :: st) h Q ↔ mm_wp d 71 13 [l0, l1, l2, .int x] st h Q := wp_istore_n rfl rfl
theorem s71_13 : mm_wp d 71 13 [l0, l1, l2, .int x] st h Q ↔ mm_wp d 71 14 [l0, l1, l2, .int x] (.int x :: st) h Q := wp_iload_n rfl rfl
theorem s71_14 : mm_wp d 71 14 [.ref a, l1, l2, l3] st h Q ↔ mm_wp d 71 15 [.ref a, l1, l2, l3] (.ref a :: st) h Q := wp_aloadR_n rfl rfl
theorem s71_15 : mm_wp d 71 15 ls (.ref a :: st) h Q ↔ (mm_s h a).1 = 7 ∧ mm_wp d 71 18 ls (.int (mm_i h a 1) :: st) h Q := wp_getI rfl rfl (by decide) (by decide)
theorem s71_18 : mm_wp d 71 18 ls (.int x2 :: .int x :: st) h Q ↔ if x2 ≤ x then mm_wp d 71 40 ls st h Q else mm_wp d 71 21 ls st h Q := wp_icmpge rfl rfl
theorem s71_21 : mm_wp d 71 21 [l0, l1, .int x, l3] st h Q ↔ mm_wp d 71 22 [l0, l1, .int x, l3] (.int x :: st) h Q := wp_iload_n rfl rfl
theorem s71_22 : mm_wp d 71 22 [l0, .ref a, l2, l3] st h Q ↔ mm_wp d 71 23 [l0, .ref a, l2, l3] (.ref a :: st) h Q := wp_aloadR_n rfl rfl
theorem s71_22o : mm_wp d 71 22 [l0, mm_o o, l2, l3] st h Q ↔ mm_wp d 71 23 [l0, mm_o o, l2, l3] (mm_o o :: st) h Q := wp_aload_n rfl o rfl
theorem s71_23 : mm_wp d 71 23 [.ref a, l1, l2, l3] st h Q ↔ mm_wp d 71 24 [.ref a, l1, l2, l3] (.ref a :: st) h Q := wp_aloadR_n rfl rfl
theorem s71_24 : mm_wp d 71 24 ls (.ref a :: st) h Q ↔ (mm_s h a).1 = 7 ∧ mm_wp d 71 27 ls (mm_o (mm_r h a 0) :: st) h Q := wp_getR rfl rfl
theorem s71_27 : mm_wp d 71 27 [l0, l1, l2, .int x] st h Q ↔ mm_wp d 71 28 [l0, l1, l2, .int x] (.int x :: st) h Q := wp_iload_n rfl rfl
theorem s71_28 : mm_wp d 71 28 ls (.int x :: .ref a :: st) h Q ↔ (23 ≤ (mm_s h a).1 ∧ (mm_s h a).1 ≤ 26 ∧ mm_in x (mm_s h a).2 = true) ∧ mm_wp d 71 29 ls (mm_o (mm_r h a x.toNatClampNeg) :: st) h Q := wp_aaload rfl
theorem s71_29 : mm_wp (d + 1) 71 29 ls [.ref b, .ref a, t0] h Q ↔ (mm_s h a).1 = 6 ∧ mm_wp d 72 0 [.ref a, .ref b, mm_j, mm_j] [] h (mm_bk (d + 1) 71 29 ls [t0] Q) := wp_virtual rfl rfl ⟨by decide, rfl⟩ ⟨Nat.le_of_ble_eq_true rfl, Nat.le_of_ble_eq_true rfl⟩ rfl rfl rfl rfl rfl rfl
theorem s71_32 : mm_wp d 71 32 ls (.int x2 :: .int x :: st) h Q ↔ mm_wp d 71 33 ls (.int (x + x2) :: st) h Q := wp_iadd rfl
theorem s71_33 : mm_wp d 71 33 [l0, l1, l2, l3] (.int x :: st) h Q ↔ mm_wp d 71 34 [l0, l1, .int x, l3] st h Q := wp_istore_n rfl rfl
theorem s71_34 : mm_wp d 71 34 [l0, l1, l2, .int x] st h Q ↔ mm_wp d 71 37 [l0, l1, l2, .int (x + (1 : Int32))] st h Q := wp_iinc rfl rfl rfl rfl
theorem s71_37 : mm_wp d 71 37 ls st h Q ↔ mm_wp d 71 13 ls st h Q := wp_goto rfl rfl
theorem s71_40 : mm_wp d 71 40 [l0, l1, .int x, l3] st h Q ↔ mm_wp d 71 41 [l0, l1, .int x, l3] (.int x :: st) h Q := wp_iload_n rfl rfl
theorem s71_41 : mm_wp d 71 41 [l0, .ref a, l2, l3] st h Q ↔ mm_wp d 71 42 [l0, .ref a, l2, l3] (.ref a :: st) h Q := wp_aloadR_n rfl rfl
theorem s71_41o : mm_wp d 71 41 [l0, mm_o o, l2, l3] st h Q ↔ mm_wp d 71 42 [l0, mm_o o, l2, l3] (mm_o o :: st) h Q := wp_aload_n rfl o rfl
theorem s71_42 : mm_wp d 71 42 ls (.ref a :: st) h Q ↔ (mm_s h a).1 = 6 ∧ mm_wp d 71 45 ls (.int (mm_i h a 9) :: st) h Q := wp_getI rfl rfl (by decide) (by decide)
theorem s71_45 : mm_wp d 71 45 [l0, .ref a, l2, l3] st h Q ↔ mm_wp d 71 46 [l0, .ref a, l2, l3] (.ref a :: st) h Q := wp_aloadR_n rfl rfl
theorem s71_45o : mm_wp d 71 45 [l0, mm_o o, l2, l3] st h Q ↔ mm_wp d 71 46 [l0, mm_o o, l2, l3] (mm_o o :: st) h Q := wp_aload_n rfl o rfl
theorem s71_46 : mm_wp d 71 46 ls (.ref a :: st) h Q ↔ (mm_s h a).1 = 6 ∧ mm_wp d 71 49 ls (.int (mm_i h a 11) :: st) h Q := wp_getI rfl rfl (by decide) (by decide)
theorem s71_49 : mm_wp d 71 49 ls (.int x2 :: .int x :: st) h Q ↔ mm_wp d 71 50 ls (.int (x * x2) :: st) h Q := wp_imul rfl
theorem s71_50 : mm_wp d 71 50 ls (.int x2 :: .int x :: st) h Q ↔ if x = x2 then mm_wp d 71 53 ls st h Q else mm_wp d 71 57 ls st h Q := wp_icmpne rfl rfl
theorem s71_53 : mm_wp d 71 53 ls st h Q ↔ mm_wp d 71 54 ls (.int (1 : Int32) :: st) h Q := wp_iconst rfl rfl
theorem s71_54 : mm_wp d 71 54 ls st h Q ↔ mm_wp d 71 58 ls st h Q := wp_goto rfl rfl
theorem s71_57 : mm_wp d 71 57 ls st h Q ↔ mm_wp d 71 58 ls (.int (0 : Int32) :: st) h Q := wp_iconst rfl rfl
theorem s71_58 : mm_wp d 71 58 ls (.int x :: st) h Q ↔ (x = 0 ∨ x = 1) ∧ Q (.inl (some (.int x))) h := wp_zret rfl rfl
/-! 72: LoadRoom$Placed.restsOn(LLoadRoom$Placed;)I -/
theorem s72_0 : mm_wp d 72 0 [.ref a, l1, l2, l3] st h Q ↔ mm_wp d 72 1 [.ref a, l1, l2, l3] (.ref a :: st) h Q := wp_aloadR_n rfl rfl
theorem s72_1 : mm_wp d 72 1 ls (.ref a :: st) h Q ↔ (mm_s h a).1 = 6 ∧ mm_wp d 72 4 ls (.int (mm_i h a 4) :: st) h Q := wp_getI rfl rfl (by decide) (by decide)
theorem s72_4 : mm_wp d 72 4 [l0, .ref a, l2, l3] st h Q ↔ mm_wp d 72 5 [l0, .ref a, l2, l3] (.ref a :: st) h Q := wp_aloadR_n rfl rfl
theorem s72_4o : mm_wp d 72 4 [l0, mm_o o, l2, l3] st h Q ↔ mm_wp d 72 5 [l0, mm_o o, l2, l3] (mm_o o :: st) h Q := wp_aload_n rfl o rfl
theorem s72_5 : mm_wp d 72 5 ls (.ref a :: st) h Q ↔ (mm_s h a).1 = 6 ∧ mm_wp d 72 8 ls (.int (mm_i h a 7) :: st) h Q := wp_getI rfl rfl (by decide) (by decide)
theorem s72_8 : mm_wp d 72 8 ls (.int x2 :: .int x :: st) h Q ↔ if x = x2 then mm_wp d 72 13 ls st h Q else mm_wp d 72 11 ls st h Q := wp_icmpeq rfl rfl
theorem s72_11 : mm_wp d 72 11 ls st h Q ↔ mm_wp d 72 12 ls (.int (0 : Int32) :: st) h Q := wp_iconst rfl rfl
theorem s72_12 : mm_wp d 72 12 ls (.int x :: st) h Q ↔ Q (.inl (some (.int x))) h := wp_iret rfl rfl
theorem s72_13 : mm_wp d 72 13 [.ref a, l1, l2, l3] st h Q ↔ mm_wp d 72 14 [.ref a, l1, l2, l3] (.ref a :: st) h Q := wp_aloadR_n rfl rfl
theorem s72_14 : mm_wp d 72 14 ls (.ref a :: st) h Q ↔ (mm_s h a).1 = 6 ∧ mm_wp d 72 17 ls (.int (mm_i h a 6) :: st) h Q := wp_getI rfl rfl (by decide) (by decide)
theorem s72_17 : mm_wp d 72 17 [l0, .ref a, l2, l3] st h Q ↔ mm_wp d 72 18 [l0, .ref a, l2, l3] (.ref a :: st) h Q := wp_aloadR_n rfl rfl
theorem s72_17o : mm_wp d 72 17 [l0, mm_o o, l2, l3] st h Q ↔ mm_wp d 72 18 [l0, mm_o o, l2, l3] (mm_o o :: st) h Q := wp_aload_n rfl o rfl
theorem s72_18 : mm_wp d 72 18 ls (.ref a :: st) h Q ↔ (mm_s h a).1 = 6 ∧ mm_wp d 72 21 ls (.int (mm_i h a 6) :: st) h Q := wp_getI rfl rfl (by decide) (by decide)
theorem s72_21 : mm_wp (d + 1) 72 21 ls [.int x2, .int x] h Q ↔ mm_wp d 3 0 [.int x, .int x2] [] h (mm_bk (d + 1) 72 21 ls [] Q) := wp_static rfl rfl ⟨by decide, rfl⟩ ⟨Nat.le_of_ble_eq_true rfl, Nat.le_of_ble_eq_true rfl⟩ rfl rfl rfl rfl
theorem s72_24 : mm_wp d 72 24 [.ref a, l1, l2, l3] st h Q ↔ mm_wp d 72 25 [.ref a, l1, l2, l3] (.ref a :: st) h Q := wp_aloadR_n rfl rfl
theorem s72_25 : mm_wp d 72 25 ls (.ref a :: st) h Q ↔ (mm_s h a).1 = 6 ∧ mm_wp d 72 28 ls (.int (mm_i h a 3) :: st) h Q := wp_getI rfl rfl (by decide) (by decide)
theorem s72_28 : mm_wp d 72 28 [l0, .ref a, l2, l3] st h Q ↔ mm_wp d 72 29 [l0, .ref a, l2, l3] (.ref a :: st) h Q := wp_aloadR_n rfl rfl
theorem s72_28o : mm_wp d 72 28 [l0, mm_o o, l2, l3] st h Q ↔ mm_wp d 72 29 [l0, mm_o o, l2, l3] (mm_o o :: st) h Q := wp_aload_n rfl o rfl
theorem s72_29 : mm_wp d 72 29 ls (.ref a :: st) h Q ↔ (mm_s h a).1 = 6 ∧ mm_wp d 72 32 ls (.int (mm_i h a 3) :: st) h Q := wp_getI rfl rfl (by decide) (by decide)
theorem s72_32 : mm_wp (d + 1) 72 32 ls [.int x2, .int x, t0] h Q ↔ mm_wp d 4 0 [.int x, .int x2] [] h (mm_bk (d + 1) 72 32 ls [t0] Q) := wp_static rfl rfl ⟨by decide, rfl⟩ ⟨Nat.le_of_ble_eq_true rfl, Nat.le_of_ble_eq_true rfl⟩ rfl rfl rfl rfl
theorem s72_35 : mm_wp d 72 35 ls (.int x2 :: .int x :: st) h Q ↔ mm_wp d 72 36 ls (.int (x - x2) :: st) h Q := wp_isub rfl
theorem s72_36 : mm_wp d 72 36 [l0, l1, l2, l3] (.int x :: st) h Q ↔ mm_wp d 72 37 [l0, l1, .int x, l3] st h Q := wp_istore_n rfl rfl
theorem s72_37 : mm_wp d 72 37 [.ref a, l1, l2, l3] st h Q ↔ mm_wp d 72 38 [.ref a, l1, l2, l3] (.ref a :: st) h Q := wp_aloadR_n rfl rfl
theorem s72_38 : mm_wp d 72 38 ls (.ref a :: st) h Q ↔ (mm_s h a).1 = 6 ∧ mm_wp d 72 41 ls (.int (mm_i h a 8) :: st) h Q := wp_getI rfl rfl (by decide) (by decide)
theorem s72_41 : mm_wp d 72 41 [l0, .ref a, l2, l3] st h Q ↔ mm_wp d 72 42 [l0, .ref a, l2, l3] (.ref a :: st) h Q := wp_aloadR_n rfl rfl
theorem s72_41o : mm_wp d 72 41 [l0, mm_o o, l2, l3] st h Q ↔ mm_wp d 72 42 [l0, mm_o o, l2, l3] (mm_o o :: st) h Q := wp_aload_n rfl o rfl
theorem s72_42 : mm_wp d 72 42 ls (.ref a :: st) h Q ↔ (mm_s h a).1 = 6 ∧ mm_wp d 72 45 ls (.int (mm_i h a 8) :: st) h Q := wp_getI rfl rfl (by decide) (by decide)
theorem s72_45 : mm_wp (d + 1) 72 45 ls [.int x2, .int x] h Q ↔ mm_wp d 3 0 [.int x, .int x2] [] h (mm_bk (d + 1) 72 45 ls [] Q) := wp_static rfl rfl ⟨by decide, rfl⟩ ⟨Nat.le_of_ble_eq_true rfl, Nat.le_of_ble_eq_true rfl⟩ rfl rfl rfl rfl
theorem s72_48 : mm_wp d 72 48 [.ref a, l1, l2, l3] st h Q ↔ mm_wp d 72 49 [.ref a, l1, l2, l3] (.ref a :: st) h Q := wp_aloadR_n rfl rfl
theorem s72_49 : mm_wp d 72 49 ls (.ref a :: st) h Q ↔ (mm_s h a).1 = 6 ∧ mm_wp d 72 52 ls (.int (mm_i h a 5) :: st) h Q := wp_getI rfl rfl (by decide) (by decide)
theorem s72_52 : mm_wp d 72 52 [l0, .ref a, l2, l3] st h Q ↔ mm_wp d 72 53 [l0, .ref a, l2, l3] (.ref a :: st) h Q := wp_aloadR_n rfl rfl
theorem s72_52o : mm_wp d 72 52 [l0, mm_o o, l2, l3] st h Q ↔ mm_wp d 72 53 [l0, mm_o o, l2, l3] (mm_o o :: st) h Q := wp_aload_n rfl o rfl
theorem s72_53 : mm_wp d 72 53 ls (.ref a :: st) h Q ↔ (mm_s h a).1 = 6 ∧ mm_wp d 72 56 ls (.int (mm_i h a 5) :: st) h Q := wp_getI rfl rfl (by decide) (by decide)
theorem s72_56 : mm_wp (d + 1) 72 56 ls [.int x2, .int x, t0] h Q ↔ mm_wp d 4 0 [.int x, .int x2] [] h (mm_bk (d + 1) 72 56 ls [t0] Q) := wp_static rfl rfl ⟨by decide, rfl⟩ ⟨Nat.le_of_ble_eq_true rfl, Nat.le_of_ble_eq_true rfl⟩ rfl rfl rfl rfl
theorem s72_59 : mm_wp d 72 59 ls (.int x2 :: .int x :: st) h Q ↔ mm_wp d 72 60 ls (.int (x - x2) :: st) h Q := wp_isub rfl
theorem s72_60 : mm_wp d 72 60 [l0, l1, l2, l3] (.int x :: st) h Q ↔ mm_wp d 72 61 [l0, l1, l2, .int x] st h Q := wp_istore_n rfl rfl
theorem s72_61 : mm_wp d 72 61 [l0, l1, .int x, l3] st h Q ↔ mm_wp d 72 62 [l0, l1, .int x, l3] (.int x :: st) h Q := wp_iload_n rfl rfl
theorem s72_62 : mm_wp d 72 62 ls (.int x :: st) h Q ↔ if x ≤ 0 then mm_wp d 72 75 ls st h Q else mm_wp d 72 65 ls st h Q := wp_ifle rfl rfl
theorem s72_65 : mm_wp d 72 65 [l0, l1, l2, .int x] st h Q ↔ mm_wp d 72 66 [l0, l1, l2, .int x] (.int x :: st) h Q := wp_iload_n rfl rfl
theorem s72_66 : mm_wp d 72 66 ls (.int x :: st) h Q ↔ if x ≤ 0 then mm_wp d 72 75 ls st h Q else mm_wp d 72 69 ls st h Q := wp_ifle rfl rfl
theorem s72_69 : mm_wp d 72 69 [l0, l1, .int x, l3] st h Q ↔ mm_wp d 72 70 [l0, l1, .int x, l3] (.int x :: st) h Q := wp_iload_n rfl rfl
theorem s72_70 : mm_wp d 72 70 [l0, l1, l2, .int x] st h Q ↔ mm_wp d 72 71 [l0, l1, l2, .int x] (.int x :: st) h Q := wp_iload_n rfl rfl
theorem s72_71 : mm_wp d 72 71 ls (.int x2 :: .int x :: st) h Q ↔ mm_wp d 72 72 ls (.int (x * x2) :: st) h Q := wp_imul rfl
theorem s72_72 : mm_wp d 72 72 ls st h Q ↔ mm_wp d 72 76 ls st h Q := wp_goto rfl rfl
theorem s72_75 : mm_wp d 72 75 ls st h Q ↔ mm_wp d 72 76 ls (.int (0 : Int32) :: st) h Q := wp_iconst rfl rfl
theorem s72_76 : mm_wp d 72 76 ls (.int x :: st) h Q ↔ Q (.inl (some (.int x))) h := wp_iret rfl rfl
/-! 73: LoadRoom$Row.hasRoom(LLoadRoom$Placed;)Z -/
theorem s73_0 : mm_wp d 73 0 ls st h Q ↔ mm_wp d 73 1 ls (.int (0 : Int32) :: st) h Q := wp_iconst rfl rfl
theorem s73_1 : mm_wp d 73 1 [l0, l1, l2] (.int x :: st) h Q ↔ mm_wp d 73 2 [l0, l1, .int x] st h Q := wp_istore_n rfl rfl
theorem s73_2 : mm_wp d 73 2 [l0, l1, .int x] st h Q ↔ mm_wp d 73 3 [l0, l1, .int x] (.int x :: st) h Q := wp_iload_n rfl rfl
theorem s73_3 : mm_wp d 73 3 [.ref a, l1, l2] st h Q ↔ mm_wp d 73 4 [.ref a, l1, l2] (.ref a :: st) h Q := wp_aloadR_n rfl rfl
theorem s73_4 : mm_wp d 73 4 ls (.ref a :: st) h Q ↔ (mm_s h a).1 = 7 ∧ mm_wp d 73 7 ls (.int (mm_i h a 1) :: st) h Q := wp_getI rfl rfl (by decide) (by decide)
theorem s73_7 : mm_wp d 73 7 ls (.int x2 :: .int x :: st) h Q ↔ if x2 ≤ x then mm_wp d 73 31 ls st h Q else mm_wp d 73 10 ls st h Q := wp_icmpge rfl rfl
theorem s73_10 : mm_wp d 73 10 [l0, .ref a, l2] st h Q ↔ mm_wp d 73 11 [l0, .ref a, l2] (.ref a :: st) h Q := wp_aloadR_n rfl rfl
theorem s73_10o : mm_wp d 73 10 [l0, mm_o o, l2] st h Q ↔ mm_wp d 73 11 [l0, mm_o o, l2] (mm_o o :: st) h Q := wp_aload_n rfl o rfl
theorem s73_11 : mm_wp d 73 11 [.ref a, l1, l2] st h Q ↔ mm_wp d 73 12 [.ref a, l1, l2] (.ref a :: st) h Q := wp_aloadR_n rfl rfl
theorem s73_12 : mm_wp d 73 12 ls (.ref a :: st) h Q ↔ (mm_s h a).1 = 7 ∧ mm_wp d 73 15 ls (mm_o (mm_r h a 0) :: st) h Q := wp_getR rfl rfl
theorem s73_15 : mm_wp d 73 15 [l0, l1, .int x] st h Q ↔ mm_wp d 73 16 [l0, l1, .int x] (.int x :: st) h Q := wp_iload_n rfl rfl
theorem s73_16 : mm_wp d 73 16 ls (.int x :: .ref a :: st) h Q ↔ (23 ≤ (mm_s h a).1 ∧ (mm_s h a).1 ≤ 26 ∧ mm_in x (mm_s h a).2 = true) ∧ mm_wp d 73 17 ls (mm_o (mm_r h a x.toNatClampNeg) :: st) h Q := wp_aaload rfl
theorem s73_17 : mm_wp (d + 1) 73 17 ls [.ref b, .ref a] h Q ↔ (mm_s h a).1 = 6 ∧ mm_wp d 74 0 [.ref a, .ref b] [] h (mm_bk (d + 1) 73 17 ls [] Q) := wp_virtual rfl rfl ⟨by decide, rfl⟩ ⟨Nat.le_of_ble_eq_true rfl, Nat.le_of_ble_eq_true rfl⟩ rfl rfl rfl rfl rfl rfl
theorem s73_20 : mm_wp d 73 20 ls (.int x :: st) h Q ↔ if x = 0 then mm_wp d 73 25 ls st h Q else mm_wp d 73 23 ls st h Q := wp_ifeq rfl rfl
theorem s73_23 : mm_wp d 73 23 ls st h Q ↔ mm_wp d 73 24 ls (.int (0 : Int32) :: st) h Q := wp_iconst rfl rfl
theorem s73_24 : mm_wp d 73 24 ls (.int x :: st) h Q ↔ (x = 0 ∨ x = 1) ∧ Q (.inl (some (.int x))) h := wp_zret rfl rfl
theorem s73_25 : mm_wp d 73 25 [l0, l1, .int x] st h Q ↔ mm_wp d 73 28 [l0, l1, .int (x + (1 : Int32))] st h Q := wp_iinc rfl rfl rfl rfl
theorem s73_28 : mm_wp d 73 28 ls st h Q ↔ mm_wp d 73 2 ls st h Q := wp_goto rfl rfl
theorem s73_31 : mm_wp d 73 31 ls st h Q ↔ mm_wp d 73 32 ls (.int (1 : Int32) :: st) h Q := wp_iconst rfl rfl
theorem s73_32 : mm_wp d 73 32 ls (.int x :: st) h Q ↔ (x = 0 ∨ x = 1) ∧ Q (.inl (some (.int x))) h := wp_zret rfl rfl
/-! 74: LoadRoom$Placed.sharesRoom(LLoadRoom$Placed;)Z -/
theorem s74_0 : mm_wp d 74 0 [.ref a, l1] st h Q ↔ mm_wp d 74 1 [.ref a, l1] (.ref a :: st) h Q := wp_aloadR_n rfl rfl
theorem s74_1 : mm_wp d 74 1 ls (.ref a :: st) h Q ↔ (mm_s h a).1 = 6 ∧ mm_wp d 74 4 ls (.int (mm_i h a 3) :: st) h Q := wp_getI rfl rfl (by decide) (by decide)
theorem s74_4 : mm_wp d 74 4 [l0, .ref a] st h Q ↔ mm_wp d 74 5 [l0, .ref a] (.ref a :: st) h Q := wp_aloadR_n rfl rfl
theorem s74_4o : mm_wp d 74 4 [l0, mm_o o] st h Q ↔ mm_wp d 74 5 [l0, mm_o o] (mm_o o :: st) h Q := wp_aload_n rfl o rfl
theorem s74_5 : mm_wp d 74 5 ls (.ref a :: st) h Q ↔ (mm_s h a).1 = 6 ∧ mm_wp d 74 8 ls (.int (mm_i h a 6) :: st) h Q := wp_getI rfl rfl (by decide) (by decide)
theorem s74_8 : mm_wp d 74 8 ls (.int x2 :: .int x :: st) h Q ↔ if x2 ≤ x then mm_wp d 74 70 ls st h Q else mm_wp d 74 11 ls st h Q := wp_icmpge rfl rfl
theorem s74_11 : mm_wp d 74 11 [l0, .ref a] st h Q ↔ mm_wp d 74 12 [l0, .ref a] (.ref a :: st) h Q := wp_aloadR_n rfl rfl
theorem s74_11o : mm_wp d 74 11 [l0, mm_o o] st h Q ↔ mm_wp d 74 12 [l0, mm_o o] (mm_o o :: st) h Q := wp_aload_n rfl o rfl
theorem s74_12 : mm_wp d 74 12 ls (.ref a :: st) h Q ↔ (mm_s h a).1 = 6 ∧ mm_wp d 74 15 ls (.int (mm_i h a 3) :: st) h Q := wp_getI rfl rfl (by decide) (by decide)
theorem s74_15 : mm_wp d 74 15 [.ref a, l1] st h Q ↔ mm_wp d 74 16 [.ref a, l1] (.ref a :: st) h Q := wp_aloadR_n rfl rfl
theorem s74_16 : mm_wp d 74 16 ls (.ref a :: st) h Q ↔ (mm_s h a).1 = 6 ∧ mm_wp d 74 19 ls (.int (mm_i h a 6) :: st) h Q := wp_getI rfl rfl (by decide) (by decide)
theorem s74_19 : mm_wp d 74 19 ls (.int x2 :: .int x :: st) h Q ↔ if x2 ≤ x then mm_wp d 74 70 ls st h Q else mm_wp d 74 22 ls st h Q := wp_icmpge rfl rfl
theorem s74_22 : mm_wp d 74 22 [.ref a, l1] st h Q ↔ mm_wp d 74 23 [.ref a, l1] (.ref a :: st) h Q := wp_aloadR_n rfl rfl
theorem s74_23 : mm_wp d 74 23 ls (.ref a :: st) h Q ↔ (mm_s h a).1 = 6 ∧ mm_wp d 74 26 ls (.int (mm_i h a 5) :: st) h Q := wp_getI rfl rfl (by decide) (by decide)
theorem s74_26 : mm_wp d 74 26 [l0, .ref a] st h Q ↔ mm_wp d 74 27 [l0, .ref a] (.ref a :: st) h Q := wp_aloadR_n rfl rfl
theorem s74_26o : mm_wp d 74 26 [l0, mm_o o] st h Q ↔ mm_wp d 74 27 [l0, mm_o o] (mm_o o :: st) h Q := wp_aload_n rfl o rfl
theorem s74_27 : mm_wp d 74 27 ls (.ref a :: st) h Q ↔ (mm_s h a).1 = 6 ∧ mm_wp d 74 30 ls (.int (mm_i h a 8) :: st) h Q := wp_getI rfl rfl (by decide) (by decide)
theorem s74_30 : mm_wp d 74 30 ls (.int x2 :: .int x :: st) h Q ↔ if x2 ≤ x then mm_wp d 74 70 ls st h Q else mm_wp d 74 33 ls st h Q := wp_icmpge rfl rfl
theorem s74_33 : mm_wp d 74 33 [l0, .ref a] st h Q ↔ mm_wp d 74 34 [l0, .ref a] (.ref a :: st) h Q := wp_aloadR_n rfl rfl
theorem s74_33o : mm_wp d 74 33 [l0, mm_o o] st h Q ↔ mm_wp d 74 34 [l0, mm_o o] (mm_o o :: st) h Q := wp_aload_n rfl o rfl
theorem s74_34 : mm_wp d 74 34 ls (.ref a :: st) h Q ↔ (mm_s h a).1 = 6 ∧ mm_wp d 74 37 ls (.int (mm_i h a 5) :: st) h Q := wp_getI rfl rfl (by decide) (by decide)
theorem s74_37 : mm_wp d 74 37 [.ref a, l1] st h Q ↔ mm_wp d 74 38 [.ref a, l1] (.ref a :: st) h Q := wp_aloadR_n rfl rfl
theorem s74_38 : mm_wp d 74 38 ls (.ref a :: st) h Q ↔ (mm_s h a).1 = 6 ∧ mm_wp d 74 41 ls (.int (mm_i h a 8) :: st) h Q := wp_getI rfl rfl (by decide) (by decide)
theorem s74_41 : mm_wp d 74 41 ls (.int x2 :: .int x :: st) h Q ↔ if x2 ≤ x then mm_wp d 74 70 ls st h Q else mm_wp d 74 44 ls st h Q := wp_icmpge rfl rfl
theorem s74_44 : mm_wp d 74 44 [.ref a, l1] st h Q ↔ mm_wp d 74 45 [.ref a, l1] (.ref a :: st) h Q := wp_aloadR_n rfl rfl
theorem s74_45 : mm_wp d 74 45 ls (.ref a :: st) h Q ↔ (mm_s h a).1 = 6 ∧ mm_wp d 74 48 ls (.int (mm_i h a 4) :: st) h Q := wp_getI rfl rfl (by decide) (by decide)
theorem s74_48 : mm_wp d 74 48 [l0, .ref a] st h Q ↔ mm_wp d 74 49 [l0, .ref a] (.ref a :: st) h Q := wp_aloadR_n rfl rfl
theorem s74_48o : mm_wp d 74 48 [l0, mm_o o] st h Q ↔ mm_wp d 74 49 [l0, mm_o o] (mm_o o :: st) h Q := wp_aload_n rfl o rfl
theorem s74_49 : mm_wp d 74 49 ls (.ref a :: st) h Q ↔ (mm_s h a).1 = 6 ∧ mm_wp d 74 52 ls (.int (mm_i h a 7) :: st) h Q := wp_getI rfl rfl (by decide) (by decide)
theorem s74_52 : mm_wp d 74 52 ls (.int x2 :: .int x :: st) h Q ↔ if x2 ≤ x then mm_wp d 74 70 ls st h Q else mm_wp d 74 55 ls st h Q := wp_icmpge rfl rfl
theorem s74_55 : mm_wp d 74 55 [l0, .ref a] st h Q ↔ mm_wp d 74 56 [l0, .ref a] (.ref a :: st) h Q := wp_aloadR_n rfl rfl
theorem s74_55o : mm_wp d 74 55 [l0, mm_o o] st h Q ↔ mm_wp d 74 56 [l0, mm_o o] (mm_o o :: st) h Q := wp_aload_n rfl o rfl
theorem s74_56 : mm_wp d 74 56 ls (.ref a :: st) h Q ↔ (mm_s h a).1 = 6 ∧ mm_wp d 74 59 ls (.int (mm_i h a 4) :: st) h Q := wp_getI rfl rfl (by decide) (by decide)
theorem s74_59 : mm_wp d 74 59 [.ref a, l1] st h Q ↔ mm_wp d 74 60 [.ref a, l1] (.ref a :: st) h Q := wp_aloadR_n rfl rfl
theorem s74_60 : mm_wp d 74 60 ls (.ref a :: st) h Q ↔ (mm_s h a).1 = 6 ∧ mm_wp d 74 63 ls (.int (mm_i h a 7) :: st) h Q := wp_getI rfl rfl (by decide) (by decide)
theorem s74_63 : mm_wp d 74 63 ls (.int x2 :: .int x :: st) h Q ↔ if x2 ≤ x then mm_wp d 74 70 ls st h Q else mm_wp d 74 66 ls st h Q := wp_icmpge rfl rfl
theorem s74_66 : mm_wp d 74 66 ls st h Q ↔ mm_wp d 74 67 ls (.int (1 : Int32) :: st) h Q := wp_iconst rfl rfl
theorem s74_67 : mm_wp d 74 67 ls st h Q ↔ mm_wp d 74 71 ls st h Q := wp_goto rfl rfl
theorem s74_70 : mm_wp d 74 70 ls st h Q ↔ mm_wp d 74 71 ls (.int (0 : Int32) :: st) h Q := wp_iconst rfl rfl
theorem s74_71 : mm_wp d 74 71 ls (.int x :: st) h Q ↔ (x = 0 ∨ x = 1) ∧ Q (.inl (some (.int x))) h := wp_zret rfl rfl
/-! 75: LoadRoom$Row.carries(LLoadRoom$Placed;)Z -/
theorem s75_0 : mm_wp d 75 0 ls st h Q ↔ mm_wp d 75 1 ls (.int (0 : Int32) :: st) h Q := wp_iconst rfl rfl
theorem s75_1 : mm_wp d 75 1 [l0, l1, l2, l3] (.int x :: st) h Q ↔ mm_wp d 75 2 [l0, l1, .int x, l3] st h Q := wp_istore_n rfl rfl
theorem s75_2 : mm_wp d 75 2 [l0, l1, .int x, l3] st h Q ↔ mm_wp d 75 3 [l0, l1, .int x, l3] (.int x :: st) h Q := wp_iload_n rfl rfl
theorem s75_3 : mm_wp d 75 3 [.ref a, l1, l2, l3] st h Q ↔ mm_wp d 75 4 [.ref a, l1, l2, l3] (.ref a :: st) h Q := wp_aloadR_n rfl rfl
theorem s75_4 : mm_wp d 75 4 ls (.ref a :: st) h Q ↔ (mm_s h a).1 = 7 ∧ mm_wp d 75 7 ls (.int (mm_i h a 1) :: st) h Q := wp_getI rfl rfl (by decide) (by decide)
theorem s75_7 : mm_wp d 75 7 ls (.int x2 :: .int x :: st) h Q ↔ if x2 ≤ x then mm_wp d 75 49 ls st h Q else mm_wp d 75 10 ls st h Q := wp_icmpge rfl rfl
theorem s75_10 : mm_wp d 75 10 [.ref a, l1, l2, l3] st h Q ↔ mm_wp d 75 11 [.ref a, l1, l2, l3] (.ref a :: st) h Q := wp_aloadR_n rfl rfl
theorem s75_11 : mm_wp d 75 11 ls (.ref a :: st) h Q ↔ (mm_s h a).1 = 7 ∧ mm_wp d 75 14 ls (mm_o (mm_r h a 0) :: st) h Q := wp_getR rfl rfl
theorem s75_14 : mm_wp d 75 14 [l0, l1, .int x, l3] st h Q ↔ mm_wp d 75 15 [l0, l1, .int x, l3] (.int x :: st) h Q := wp_iload_n rfl rfl
theorem s75_15 : mm_wp d 75 15 ls (.int x :: .ref a :: st) h Q ↔ (23 ≤ (mm_s h a).1 ∧ (mm_s h a).1 ≤ 26 ∧ mm_in x (mm_s h a).2 = true) ∧ mm_wp d 75 16 ls (mm_o (mm_r h a x.toNatClampNeg) :: st) h Q := wp_aaload rfl
theorem s75_16 : mm_wp d 75 16 [l0, l1, l2, l3] (.ref a :: st) h Q ↔ mm_wp d 75 17 [l0, l1, l2, .ref a] st h Q := wp_astoreR_n rfl rfl
theorem s75_16o : mm_wp d 75 16 [l0, l1, l2, l3] (mm_o o :: st) h Q ↔ mm_wp d 75 17 [l0, l1, l2, mm_o o] st h Q := wp_astore_n rfl o rfl
theorem s75_17 : mm_wp d 75 17 [l0, l1, l2, .ref a] st h Q ↔ mm_wp d 75 18 [l0, l1, l2, .ref a] (.ref a :: st) h Q := wp_aloadR_n rfl rfl
theorem s75_17o : mm_wp d 75 17 [l0, l1, l2, mm_o o] st h Q ↔ mm_wp d 75 18 [l0, l1, l2, mm_o o] (mm_o o :: st) h Q := wp_aload_n rfl o rfl
theorem s75_18 : mm_wp d 75 18 ls (.ref a :: st) h Q ↔ (mm_s h a).1 = 6 ∧ mm_wp d 75 21 ls (.int (mm_i h a 15) :: st) h Q := wp_getI rfl rfl (by decide) (by decide)
theorem s75_21 : mm_wp d 75 21 [l0, .ref a, l2, l3] st h Q ↔ mm_wp d 75 22 [l0, .ref a, l2, l3] (.ref a :: st) h Q := wp_aloadR_n rfl rfl
theorem s75_21o : mm_wp d 75 21 [l0, mm_o o, l2, l3] st h Q ↔ mm_wp d 75 22 [l0, mm_o o, l2, l3] (mm_o o :: st) h Q := wp_aload_n rfl o rfl
theorem s75_22 : mm_wp d 75 22 ls (.ref a :: st) h Q ↔ (mm_s h a).1 = 6 ∧ mm_wp d 75 25 ls (.int (mm_i h a 12) :: st) h Q := wp_getI rfl rfl (by decide) (by decide)
theorem s75_25 : mm_wp d 75 25 ls (.int x2 :: .int x :: st) h Q ↔ mm_wp d 75 26 ls (.int (x + x2) :: st) h Q := wp_iadd rfl
theorem s75_26 : mm_wp d 75 26 [l0, l1, l2, .ref a] st h Q ↔ mm_wp d 75 27 [l0, l1, l2, .ref a] (.ref a :: st) h Q := wp_aloadR_n rfl rfl
theorem s75_26o : mm_wp d 75 26 [l0, l1, l2, mm_o o] st h Q ↔ mm_wp d 75 27 [l0, l1, l2, mm_o o] (mm_o o :: st) h Q := wp_aload_n rfl o rfl
theorem s75_27 : mm_wp d 75 27 ls (.ref a :: st) h Q ↔ (mm_s h a).1 = 6 ∧ mm_wp d 75 30 ls (.int (mm_i h a 14) :: st) h Q := wp_getI rfl rfl (by decide) (by decide)
theorem s75_30 : mm_wp d 75 30 ls (.int x2 :: .int x :: st) h Q ↔ if x ≤ x2 then mm_wp d 75 43 ls st h Q else mm_wp d 75 33 ls st h Q := wp_icmple rfl rfl
theorem s75_33 : mm_wp d 75 33 [l0, .ref a, l2, l3] st h Q ↔ mm_wp d 75 34 [l0, .ref a, l2, l3] (.ref a :: st) h Q := wp_aloadR_n rfl rfl
theorem s75_33o : mm_wp d 75 33 [l0, mm_o o, l2, l3] st h Q ↔ mm_wp d 75 34 [l0, mm_o o, l2, l3] (mm_o o :: st) h Q := wp_aload_n rfl o rfl
theorem s75_34 : mm_wp d 75 34 [l0, l1, l2, .ref a] st h Q ↔ mm_wp d 75 35 [l0, l1, l2, .ref a] (.ref a :: st) h Q := wp_aloadR_n rfl rfl
theorem s75_34o : mm_wp d 75 34 [l0, l1, l2, mm_o o] st h Q ↔ mm_wp d 75 35 [l0, l1, l2, mm_o o] (mm_o o :: st) h Q := wp_aload_n rfl o rfl
theorem s75_35 : mm_wp (d + 1) 75 35 ls [.ref b, .ref a] h Q ↔ (mm_s h a).1 = 6 ∧ mm_wp d 76 0 [.ref a, .ref b] [] h (mm_bk (d + 1) 75 35 ls [] Q) := wp_virtual rfl rfl ⟨by decide, rfl⟩ ⟨Nat.le_of_ble_eq_true rfl, Nat.le_of_ble_eq_true rfl⟩ rfl rfl rfl rfl rfl rfl
theorem s75_38 : mm_wp d 75 38 ls (.int x :: st) h Q ↔ if x = 0 then mm_wp d 75 43 ls st h Q else mm_wp d 75 41 ls st h Q := wp_ifeq rfl rfl
theorem s75_41 : mm_wp d 75 41 ls st h Q ↔ mm_wp d 75 42 ls (.int (0 : Int32) :: st) h Q := wp_iconst rfl rfl
theorem s75_42 : mm_wp d 75 42 ls (.int x :: st) h Q ↔ (x = 0 ∨ x = 1) ∧ Q (.inl (some (.int x))) h := wp_zret rfl rfl
theorem s75_43 : mm_wp d 75 43 [l0, l1, .int x, l3] st h Q ↔ mm_wp d 75 46 [l0, l1, .int (x + (1 : Int32)), l3] st h Q := wp_iinc rfl rfl rfl rfl
theorem s75_46 : mm_wp d 75 46 ls st h Q ↔ mm_wp d 75 2 ls st h Q := wp_goto rfl rfl
theorem s75_49 : mm_wp d 75 49 ls st h Q ↔ mm_wp d 75 50 ls (.int (1 : Int32) :: st) h Q := wp_iconst rfl rfl
theorem s75_50 : mm_wp d 75 50 ls (.int x :: st) h Q ↔ (x = 0 ∨ x = 1) ∧ Q (.inl (some (.int x))) h := wp_zret rfl rfl
/-! 76: LoadRoom$Placed.isOver(LLoadRoom$Placed;)Z -/
theorem s76_0 : mm_wp d 76 0 [.ref a, l1] st h Q ↔ mm_wp d 76 1 [.ref a, l1] (.ref a :: st) h Q := wp_aloadR_n rfl rfl
theorem s76_1 : mm_wp d 76 1 ls (.ref a :: st) h Q ↔ (mm_s h a).1 = 6 ∧ mm_wp d 76 4 ls (.int (mm_i h a 4) :: st) h Q := wp_getI rfl rfl (by decide) (by decide)
theorem s76_4 : mm_wp d 76 4 [l0, .ref a] st h Q ↔ mm_wp d 76 5 [l0, .ref a] (.ref a :: st) h Q := wp_aloadR_n rfl rfl
theorem s76_4o : mm_wp d 76 4 [l0, mm_o o] st h Q ↔ mm_wp d 76 5 [l0, mm_o o] (mm_o o :: st) h Q := wp_aload_n rfl o rfl
theorem s76_5 : mm_wp d 76 5 ls (.ref a :: st) h Q ↔ (mm_s h a).1 = 6 ∧ mm_wp d 76 8 ls (.int (mm_i h a 7) :: st) h Q := wp_getI rfl rfl (by decide) (by decide)
theorem s76_8 : mm_wp d 76 8 ls (.int x2 :: .int x :: st) h Q ↔ if x < x2 then mm_wp d 76 59 ls st h Q else mm_wp d 76 11 ls st h Q := wp_icmplt rfl rfl
theorem s76_11 : mm_wp d 76 11 [.ref a, l1] st h Q ↔ mm_wp d 76 12 [.ref a, l1] (.ref a :: st) h Q := wp_aloadR_n rfl rfl
theorem s76_12 : mm_wp d 76 12 ls (.ref a :: st) h Q ↔ (mm_s h a).1 = 6 ∧ mm_wp d 76 15 ls (.int (mm_i h a 3) :: st) h Q := wp_getI rfl rfl (by decide) (by decide)
theorem s76_15 : mm_wp d 76 15 [l0, .ref a] st h Q ↔ mm_wp d 76 16 [l0, .ref a] (.ref a :: st) h Q := wp_aloadR_n rfl rfl
theorem s76_15o : mm_wp d 76 15 [l0, mm_o o] st h Q ↔ mm_wp d 76 16 [l0, mm_o o] (mm_o o :: st) h Q := wp_aload_n rfl o rfl
theorem s76_16 : mm_wp d 76 16 ls (.ref a :: st) h Q ↔ (mm_s h a).1 = 6 ∧ mm_wp d 76 19 ls (.int (mm_i h a 6) :: st) h Q := wp_getI rfl rfl (by decide) (by decide)
theorem s76_19 : mm_wp d 76 19 ls (.int x2 :: .int x :: st) h Q ↔ if x2 ≤ x then mm_wp d 76 59 ls st h Q else mm_wp d 76 22 ls st h Q := wp_icmpge rfl rfl
theorem s76_22 : mm_wp d 76 22 [l0, .ref a] st h Q ↔ mm_wp d 76 23 [l0, .ref a] (.ref a :: st) h Q := wp_aloadR_n rfl rfl
theorem s76_22o : mm_wp d 76 22 [l0, mm_o o] st h Q ↔ mm_wp d 76 23 [l0, mm_o o] (mm_o o :: st) h Q := wp_aload_n rfl o rfl
theorem s76_23 : mm_wp d 76 23 ls (.ref a :: st) h Q ↔ (mm_s h a).1 = 6 ∧ mm_wp d 76 26 ls (.int (mm_i h a 3) :: st) h Q := wp_getI rfl rfl (by decide) (by decide)
theorem s76_26 : mm_wp d 76 26 [.ref a, l1] st h Q ↔ mm_wp d 76 27 [.ref a, l1] (.ref a :: st) h Q := wp_aloadR_n rfl rfl
theorem s76_27 : mm_wp d 76 27 ls (.ref a :: st) h Q ↔ (mm_s h a).1 = 6 ∧ mm_wp d 76 30 ls (.int (mm_i h a 6) :: st) h Q := wp_getI rfl rfl (by decide) (by decide)
theorem s76_30 : mm_wp d 76 30 ls (.int x2 :: .int x :: st) h Q ↔ if x2 ≤ x then mm_wp d 76 59 ls st h Q else mm_wp d 76 33 ls st h Q := wp_icmpge rfl rfl
theorem s76_33 : mm_wp d 76 33 [.ref a, l1] st h Q ↔ mm_wp d 76 34 [.ref a, l1] (.ref a :: st) h Q := wp_aloadR_n rfl rfl
theorem s76_34 : mm_wp d 76 34 ls (.ref a :: st) h Q ↔ (mm_s h a).1 = 6 ∧ mm_wp d 76 37 ls (.int (mm_i h a 5) :: st) h Q := wp_getI rfl rfl (by decide) (by decide)
theorem s76_37 : mm_wp d 76 37 [l0, .ref a] st h Q ↔ mm_wp d 76 38 [l0, .ref a] (.ref a :: st) h Q := wp_aloadR_n rfl rfl
theorem s76_37o : mm_wp d 76 37 [l0, mm_o o] st h Q ↔ mm_wp d 76 38 [l0, mm_o o] (mm_o o :: st) h Q := wp_aload_n rfl o rfl
theorem s76_38 : mm_wp d 76 38 ls (.ref a :: st) h Q ↔ (mm_s h a).1 = 6 ∧ mm_wp d 76 41 ls (.int (mm_i h a 8) :: st) h Q := wp_getI rfl rfl (by decide) (by decide)
theorem s76_41 : mm_wp d 76 41 ls (.int x2 :: .int x :: st) h Q ↔ if x2 ≤ x then mm_wp d 76 59 ls st h Q else mm_wp d 76 44 ls st h Q := wp_icmpge rfl rfl
theorem s76_44 : mm_wp d 76 44 [l0, .ref a] st h Q ↔ mm_wp d 76 45 [l0, .ref a] (.ref a :: st) h Q := wp_aloadR_n rfl rfl
theorem s76_44o : mm_wp d 76 44 [l0, mm_o o] st h Q ↔ mm_wp d 76 45 [l0, mm_o o] (mm_o o :: st) h Q := wp_aload_n rfl o rfl
theorem s76_45 : mm_wp d 76 45 ls (.ref a :: st) h Q ↔ (mm_s h a).1 = 6 ∧ mm_wp d 76 48 ls (.int (mm_i h a 5) :: st) h Q := wp_getI rfl rfl (by decide) (by decide)
theorem s76_48 : mm_wp d 76 48 [.ref a, l1] st h Q ↔ mm_wp d 76 49 [.ref a, l1] (.ref a :: st) h Q := wp_aloadR_n rfl rfl
theorem s76_49 : mm_wp d 76 49 ls (.ref a :: st) h Q ↔ (mm_s h a).1 = 6 ∧ mm_wp d 76 52 ls (.int (mm_i h a 8) :: st) h Q := wp_getI rfl rfl (by decide) (by decide)
theorem s76_52 : mm_wp d 76 52 ls (.int x2 :: .int x :: st) h Q ↔ if x2 ≤ x then mm_wp d 76 59 ls st h Q else mm_wp d 76 55 ls st h Q := wp_icmpge rfl rfl
theorem s76_55 : mm_wp d 76 55 ls st h Q ↔ mm_wp d 76 56 ls (.int (1 : Int32) :: st) h Q := wp_iconst rfl rfl
theorem s76_56 : mm_wp d 76 56 ls st h Q ↔ mm_wp d 76 60 ls st h Q := wp_goto rfl rfl
theorem s76_59 : mm_wp d 76 59 ls st h Q ↔ mm_wp d 76 60 ls (.int (0 : Int32) :: st) h Q := wp_iconst rfl rfl
theorem s76_60 : mm_wp d 76 60 ls (.int x :: st) h Q ↔ (x = 0 ∨ x = 1) ∧ Q (.inl (some (.int x))) h := wp_zret rfl rfl
/-! 77: LoadRoom$Row.letsOut(LLoadRoom$Placed;)Z -/
theorem s77_0 : mm_wp d 77 0 ls st h Q ↔ mm_wp d 77 1 ls (.int (0 : Int32) :: st) h Q := wp_iconst rfl rfl
theorem s77_1 : mm_wp d 77 1 [l0, l1, l2] (.int x :: st) h Q ↔ mm_wp d 77 2 [l0, l1, .int x] st h Q := wp_istore_n rfl rfl
theorem s77_2 : mm_wp d 77 2 [l0, l1, .int x] st h Q ↔ mm_wp d 77 3 [l0, l1, .int x] (.int x :: st) h Q := wp_iload_n rfl rfl
theorem s77_3 : mm_wp d 77 3 [.ref a, l1, l2] st h Q ↔ mm_wp d 77 4 [.ref a, l1, l2] (.ref a :: st) h Q := wp_aloadR_n rfl rfl
theorem s77_4 : mm_wp d 77 4 ls (.ref a :: st) h Q ↔ (mm_s h a).1 = 7 ∧ mm_wp d 77 7 ls (.int (mm_i h a 1) :: st) h Q := wp_getI rfl rfl (by decide) (by decide)
theorem s77_7 : mm_wp d 77 7 ls (.int x2 :: .int x :: st) h Q ↔ if x2 ≤ x then mm_wp d 77 44 ls st h Q else mm_wp d 77 10 ls st h Q := wp_icmpge rfl rfl
theorem s77_10 : mm_wp d 77 10 [l0, .ref a, l2] st h Q ↔ mm_wp d 77 11 [l0, .ref a, l2] (.ref a :: st) h Q := wp_aloadR_n rfl rfl
theorem s77_10o : mm_wp d 77 10 [l0, mm_o o, l2] st h Q ↔ mm_wp d 77 11 [l0, mm_o o, l2] (mm_o o :: st) h Q := wp_aload_n rfl o rfl
theorem s77_11 : mm_wp d 77 11 [.ref a, l1, l2] st h Q ↔ mm_wp d 77 12 [.ref a, l1, l2] (.ref a :: st) h Q := wp_aloadR_n rfl rfl
theorem s77_12 : mm_wp d 77 12 ls (.ref a :: st) h Q ↔ (mm_s h a).1 = 7 ∧ mm_wp d 77 15 ls (mm_o (mm_r h a 0) :: st) h Q := wp_getR rfl rfl
theorem s77_15 : mm_wp d 77 15 [l0, l1, .int x] st h Q ↔ mm_wp d 77 16 [l0, l1, .int x] (.int x :: st) h Q := wp_iload_n rfl rfl
theorem s77_16 : mm_wp d 77 16 ls (.int x :: .ref a :: st) h Q ↔ (23 ≤ (mm_s h a).1 ∧ (mm_s h a).1 ≤ 26 ∧ mm_in x (mm_s h a).2 = true) ∧ mm_wp d 77 17 ls (mm_o (mm_r h a x.toNatClampNeg) :: st) h Q := wp_aaload rfl
theorem s77_17 : mm_wp (d + 1) 77 17 ls [.ref b, .ref a] h Q ↔ (mm_s h a).1 = 6 ∧ mm_wp d 78 0 [.ref a, .ref b] [] h (mm_bk (d + 1) 77 17 ls [] Q) := wp_virtual rfl rfl ⟨by decide, rfl⟩ ⟨Nat.le_of_ble_eq_true rfl, Nat.le_of_ble_eq_true rfl⟩ rfl rfl rfl rfl rfl rfl
theorem s77_20 : mm_wp d 77 20 ls (.int x :: st) h Q ↔ if x = 0 then mm_wp d 77 23 ls st h Q else mm_wp d 77 36 ls st h Q := wp_ifne rfl rfl
theorem s77_23 : mm_wp d 77 23 [.ref a, l1, l2] st h Q ↔ mm_wp d 77 24 [.ref a, l1, l2] (.ref a :: st) h Q := wp_aloadR_n rfl rfl
theorem s77_24 : mm_wp d 77 24 ls (.ref a :: st) h Q ↔ (mm_s h a).1 = 7 ∧ mm_wp d 77 27 ls (mm_o (mm_r h a 0) :: st) h Q := wp_getR rfl rfl
theorem s77_27 : mm_wp d 77 27 [l0, l1, .int x] st h Q ↔ mm_wp d 77 28 [l0, l1, .int x] (.int x :: st) h Q := wp_iload_n rfl rfl
theorem s77_28 : mm_wp d 77 28 ls (.int x :: .ref a :: st) h Q ↔ (23 ≤ (mm_s h a).1 ∧ (mm_s h a).1 ≤ 26 ∧ mm_in x (mm_s h a).2 = true) ∧ mm_wp d 77 29 ls (mm_o (mm_r h a x.toNatClampNeg) :: st) h Q := wp_aaload rfl
theorem s77_29 : mm_wp d 77 29 [l0, .ref a, l2] st h Q ↔ mm_wp d 77 30 [l0, .ref a, l2] (.ref a :: st) h Q := wp_aloadR_n rfl rfl
theorem s77_29o : mm_wp d 77 29 [l0, mm_o o, l2] st h Q ↔ mm_wp d 77 30 [l0, mm_o o, l2] (mm_o o :: st) h Q := wp_aload_n rfl o rfl
theorem s77_30 : mm_wp (d + 1) 77 30 ls [.ref b, .ref a] h Q ↔ (mm_s h a).1 = 6 ∧ mm_wp d 78 0 [.ref a, .ref b] [] h (mm_bk (d + 1) 77 30 ls [] Q) := wp_virtual rfl rfl ⟨by decide, rfl⟩ ⟨Nat.le_of_ble_eq_true rfl, Nat.le_of_ble_eq_true rfl⟩ rfl rfl rfl rfl rfl rfl
theorem s77_33 : mm_wp d 77 33 ls (.int x :: st) h Q ↔ if x = 0 then mm_wp d 77 38 ls st h Q else mm_wp d 77 36 ls st h Q := wp_ifeq rfl rfl
theorem s77_36 : mm_wp d 77 36 ls st h Q ↔ mm_wp d 77 37 ls (.int (0 : Int32) :: st) h Q := wp_iconst rfl rfl
theorem s77_37 : mm_wp d 77 37 ls (.int x :: st) h Q ↔ (x = 0 ∨ x = 1) ∧ Q (.inl (some (.int x))) h := wp_zret rfl rfl
theorem s77_38 : mm_wp d 77 38 [l0, l1, .int x] st h Q ↔ mm_wp d 77 41 [l0, l1, .int (x + (1 : Int32))] st h Q := wp_iinc rfl rfl rfl rfl
theorem s77_41 : mm_wp d 77 41 ls st h Q ↔ mm_wp d 77 2 ls st h Q := wp_goto rfl rfl
theorem s77_44 : mm_wp d 77 44 ls st h Q ↔ mm_wp d 77 45 ls (.int (1 : Int32) :: st) h Q := wp_iconst rfl rfl
theorem s77_45 : mm_wp d 77 45 ls (.int x :: st) h Q ↔ (x = 0 ∨ x = 1) ∧ Q (.inl (some (.int x))) h := wp_zret rfl rfl
/-! 78: LoadRoom$Placed.shutsIn(LLoadRoom$Placed;)Z -/
theorem s78_0 : mm_wp d 78 0 [.ref a, l1] st h Q ↔ mm_wp d 78 1 [.ref a, l1] (.ref a :: st) h Q := wp_aloadR_n rfl rfl
theorem s78_1 : mm_wp d 78 1 ls (.ref a :: st) h Q ↔ (mm_s h a).1 = 6 ∧ mm_wp d 78 4 ls (.int (mm_i h a 13) :: st) h Q := wp_getI rfl rfl (by decide) (by decide)
theorem s78_4 : mm_wp d 78 4 [l0, .ref a] st h Q ↔ mm_wp d 78 5 [l0, .ref a] (.ref a :: st) h Q := wp_aloadR_n rfl rfl
theorem s78_4o : mm_wp d 78 4 [l0, mm_o o] st h Q ↔ mm_wp d 78 5 [l0, mm_o o] (mm_o o :: st) h Q := wp_aload_n rfl o rfl
theorem s78_5 : mm_wp d 78 5 ls (.ref a :: st) h Q ↔ (mm_s h a).1 = 6 ∧ mm_wp d 78 8 ls (.int (mm_i h a 13) :: st) h Q := wp_getI rfl rfl (by decide) (by decide)
theorem s78_8 : mm_wp d 78 8 ls (.int x2 :: .int x :: st) h Q ↔ if x ≤ x2 then mm_wp d 78 70 ls st h Q else mm_wp d 78 11 ls st h Q := wp_icmple rfl rfl
theorem s78_11 : mm_wp d 78 11 [.ref a, l1] st h Q ↔ mm_wp d 78 12 [.ref a, l1] (.ref a :: st) h Q := wp_aloadR_n rfl rfl
theorem s78_12 : mm_wp d 78 12 ls (.ref a :: st) h Q ↔ (mm_s h a).1 = 6 ∧ mm_wp d 78 15 ls (.int (mm_i h a 5) :: st) h Q := wp_getI rfl rfl (by decide) (by decide)
theorem s78_15 : mm_wp d 78 15 [l0, .ref a] st h Q ↔ mm_wp d 78 16 [l0, .ref a] (.ref a :: st) h Q := wp_aloadR_n rfl rfl
theorem s78_15o : mm_wp d 78 15 [l0, mm_o o] st h Q ↔ mm_wp d 78 16 [l0, mm_o o] (mm_o o :: st) h Q := wp_aload_n rfl o rfl
theorem s78_16 : mm_wp d 78 16 ls (.ref a :: st) h Q ↔ (mm_s h a).1 = 6 ∧ mm_wp d 78 19 ls (.int (mm_i h a 8) :: st) h Q := wp_getI rfl rfl (by decide) (by decide)
theorem s78_19 : mm_wp d 78 19 ls (.int x2 :: .int x :: st) h Q ↔ if x < x2 then mm_wp d 78 70 ls st h Q else mm_wp d 78 22 ls st h Q := wp_icmplt rfl rfl
theorem s78_22 : mm_wp d 78 22 [.ref a, l1] st h Q ↔ mm_wp d 78 23 [.ref a, l1] (.ref a :: st) h Q := wp_aloadR_n rfl rfl
theorem s78_23 : mm_wp d 78 23 ls (.ref a :: st) h Q ↔ (mm_s h a).1 = 6 ∧ mm_wp d 78 26 ls (.int (mm_i h a 3) :: st) h Q := wp_getI rfl rfl (by decide) (by decide)
theorem s78_26 : mm_wp d 78 26 [l0, .ref a] st h Q ↔ mm_wp d 78 27 [l0, .ref a] (.ref a :: st) h Q := wp_aloadR_n rfl rfl
theorem s78_26o : mm_wp d 78 26 [l0, mm_o o] st h Q ↔ mm_wp d 78 27 [l0, mm_o o] (mm_o o :: st) h Q := wp_aload_n rfl o rfl
theorem s78_27 : mm_wp d 78 27 ls (.ref a :: st) h Q ↔ (mm_s h a).1 = 6 ∧ mm_wp d 78 30 ls (.int (mm_i h a 6) :: st) h Q := wp_getI rfl rfl (by decide) (by decide)
theorem s78_30 : mm_wp d 78 30 ls (.int x2 :: .int x :: st) h Q ↔ if x2 ≤ x then mm_wp d 78 70 ls st h Q else mm_wp d 78 33 ls st h Q := wp_icmpge rfl rfl
theorem s78_33 : mm_wp d 78 33 [l0, .ref a] st h Q ↔ mm_wp d 78 34 [l0, .ref a] (.ref a :: st) h Q := wp_aloadR_n rfl rfl
theorem s78_33o : mm_wp d 78 33 [l0, mm_o o] st h Q ↔ mm_wp d 78 34 [l0, mm_o o] (mm_o o :: st) h Q := wp_aload_n rfl o rfl
theorem s78_34 : mm_wp d 78 34 ls (.ref a :: st) h Q ↔ (mm_s h a).1 = 6 ∧ mm_wp d 78 37 ls (.int (mm_i h a 3) :: st) h Q := wp_getI rfl rfl (by decide) (by decide)
theorem s78_37 : mm_wp d 78 37 [.ref a, l1] st h Q ↔ mm_wp d 78 38 [.ref a, l1] (.ref a :: st) h Q := wp_aloadR_n rfl rfl
theorem s78_38 : mm_wp d 78 38 ls (.ref a :: st) h Q ↔ (mm_s h a).1 = 6 ∧ mm_wp d 78 41 ls (.int (mm_i h a 6) :: st) h Q := wp_getI rfl rfl (by decide) (by decide)
theorem s78_41 : mm_wp d 78 41 ls (.int x2 :: .int x :: st) h Q ↔ if x2 ≤ x then mm_wp d 78 70 ls st h Q else mm_wp d 78 44 ls st h Q := wp_icmpge rfl rfl
theorem s78_44 : mm_wp d 78 44 [.ref a, l1] st h Q ↔ mm_wp d 78 45 [.ref a, l1] (.ref a :: st) h Q := wp_aloadR_n rfl rfl
theorem s78_45 : mm_wp d 78 45 ls (.ref a :: st) h Q ↔ (mm_s h a).1 = 6 ∧ mm_wp d 78 48 ls (.int (mm_i h a 4) :: st) h Q := wp_getI rfl rfl (by decide) (by decide)
theorem s78_48 : mm_wp d 78 48 [l0, .ref a] st h Q ↔ mm_wp d 78 49 [l0, .ref a] (.ref a :: st) h Q := wp_aloadR_n rfl rfl
theorem s78_48o : mm_wp d 78 48 [l0, mm_o o] st h Q ↔ mm_wp d 78 49 [l0, mm_o o] (mm_o o :: st) h Q := wp_aload_n rfl o rfl
theorem s78_49 : mm_wp d 78 49 ls (.ref a :: st) h Q ↔ (mm_s h a).1 = 6 ∧ mm_wp d 78 52 ls (.int (mm_i h a 7) :: st) h Q := wp_getI rfl rfl (by decide) (by decide)
theorem s78_52 : mm_wp d 78 52 ls (.int x2 :: .int x :: st) h Q ↔ if x2 ≤ x then mm_wp d 78 70 ls st h Q else mm_wp d 78 55 ls st h Q := wp_icmpge rfl rfl
theorem s78_55 : mm_wp d 78 55 [l0, .ref a] st h Q ↔ mm_wp d 78 56 [l0, .ref a] (.ref a :: st) h Q := wp_aloadR_n rfl rfl
theorem s78_55o : mm_wp d 78 55 [l0, mm_o o] st h Q ↔ mm_wp d 78 56 [l0, mm_o o] (mm_o o :: st) h Q := wp_aload_n rfl o rfl
theorem s78_56 : mm_wp d 78 56 ls (.ref a :: st) h Q ↔ (mm_s h a).1 = 6 ∧ mm_wp d 78 59 ls (.int (mm_i h a 4) :: st) h Q := wp_getI rfl rfl (by decide) (by decide)
theorem s78_59 : mm_wp d 78 59 [.ref a, l1] st h Q ↔ mm_wp d 78 60 [.ref a, l1] (.ref a :: st) h Q := wp_aloadR_n rfl rfl
theorem s78_60 : mm_wp d 78 60 ls (.ref a :: st) h Q ↔ (mm_s h a).1 = 6 ∧ mm_wp d 78 63 ls (.int (mm_i h a 7) :: st) h Q := wp_getI rfl rfl (by decide) (by decide)
theorem s78_63 : mm_wp d 78 63 ls (.int x2 :: .int x :: st) h Q ↔ if x2 ≤ x then mm_wp d 78 70 ls st h Q else mm_wp d 78 66 ls st h Q := wp_icmpge rfl rfl
theorem s78_66 : mm_wp d 78 66 ls st h Q ↔ mm_wp d 78 67 ls (.int (1 : Int32) :: st) h Q := wp_iconst rfl rfl
theorem s78_67 : mm_wp d 78 67 ls st h Q ↔ mm_wp d 78 71 ls st h Q := wp_goto rfl rfl
theorem s78_70 : mm_wp d 78 70 ls st h Q ↔ mm_wp d 78 71 ls (.int (0 : Int32) :: st) h Q := wp_iconst rfl rfl
theorem s78_71 : mm_wp d 78 71 ls (.int x :: st) h Q ↔ (x = 0 ∨ x = 1) ∧ Q (.inl (some (.int x))) h := wp_zret rfl rfl
/-! 79: LoadRoom$Search.meet(LLoadRoom$Placed;)V -/
theorem s79_0 : mm_wp d 79 0 [.ref a, l1] st h Q ↔ mm_wp d 79 1 [.ref a, l1] (.ref a :: st) h Q := wp_aloadR_n rfl rfl
theorem s79_1 : mm_wp d 79 1 ls (.ref a :: st) h Q ↔ (mm_s h a).1 = 8 ∧ mm_wp d 79 4 ls (.int (mm_i h a 9) :: st) h Q := wp_getI rfl rfl (by decide) (by decide)
theorem s79_4 : mm_wp d 79 4 [.ref a, l1] st h Q ↔ mm_wp d 79 5 [.ref a, l1] (.ref a :: st) h Q := wp_aloadR_n rfl rfl
theorem s79_5 : mm_wp d 79 5 ls (.ref a :: st) h Q ↔ (mm_s h a).1 = 8 ∧ mm_wp d 79 8 ls (.int (mm_i h a 8) :: st) h Q := wp_getI rfl rfl (by decide) (by decide)
theorem s79_8 : mm_wp d 79 8 ls (.int x2 :: .int x :: st) h Q ↔ if x < x2 then mm_wp d 79 17 ls st h Q else mm_wp d 79 11 ls st h Q := wp_icmplt rfl rfl
theorem s79_11 : mm_wp d 79 11 [.ref a, l1] st h Q ↔ mm_wp d 79 12 [.ref a, l1] (.ref a :: st) h Q := wp_aloadR_n rfl rfl
theorem s79_12 : mm_wp d 79 12 ls st h Q ↔ mm_wp d 79 13 ls (.int (1 : Int32) :: st) h Q := wp_iconst rfl rfl
theorem s79_13 : mm_wp d 79 13 ls (.int x :: .ref a :: st) h Q ↔ (mm_s h a).1 = 8 ∧ (x = 0 ∨ x = 1) ∧ mm_wp d 79 16 ls st (mm_pi h a 10 x) Q := wp_putZ rfl rfl
theorem s79_16 : mm_wp d 79 16 ls st h Q ↔ Q (.inl none) h := wp_vret rfl rfl
theorem s79_17 : mm_wp d 79 17 [.ref a, l1] st h Q ↔ mm_wp d 79 18 [.ref a, l1] (.ref a :: st) h Q := wp_aloadR_n rfl rfl
theorem s79_18 : mm_wp d 79 18 ls (.ref a :: st) h Q ↔ mm_wp d 79 19 ls (.ref a :: .ref a :: st) h Q := wp_dupR rfl
theorem s79_19 : mm_wp d 79 19 ls (.ref a :: st) h Q ↔ (mm_s h a).1 = 8 ∧ mm_wp d 79 22 ls (.int (mm_i h a 9) :: st) h Q := wp_getI rfl rfl (by decide) (by decide)
theorem s79_22 : mm_wp d 79 22 ls st h Q ↔ mm_wp d 79 23 ls (.int (1 : Int32) :: st) h Q := wp_iconst rfl rfl
theorem s79_23 : mm_wp d 79 23 ls (.int x2 :: .int x :: st) h Q ↔ mm_wp d 79 24 ls (.int (x + x2) :: st) h Q := wp_iadd rfl
theorem s79_24 : mm_wp d 79 24 ls (.int x :: .ref a :: st) h Q ↔ (mm_s h a).1 = 8 ∧ mm_wp d 79 27 ls st (mm_pi h a 9 x) Q := wp_putI rfl rfl
theorem s79_27 : mm_wp d 79 27 [.ref a, l1] st h Q ↔ mm_wp d 79 28 [.ref a, l1] (.ref a :: st) h Q := wp_aloadR_n rfl rfl
theorem s79_28 : mm_wp d 79 28 ls (.ref a :: st) h Q ↔ (mm_s h a).1 = 8 ∧ mm_wp d 79 31 ls (mm_o (mm_r h a 2) :: st) h Q := wp_getR rfl rfl
theorem s79_31 : mm_wp (d + 1) 79 31 ls [.ref a] h Q ↔ (mm_s h a).1 = 7 ∧ mm_wp d 80 0 [.ref a] [] h (mm_bk (d + 1) 79 31 ls [] Q) := wp_virtual rfl rfl ⟨by decide, rfl⟩ ⟨Nat.le_of_ble_eq_true rfl, Nat.le_of_ble_eq_true rfl⟩ rfl rfl rfl rfl rfl rfl
theorem s79_34 : mm_wp d 79 34 [.ref a, l1] st h Q ↔ mm_wp d 79 35 [.ref a, l1] (.ref a :: st) h Q := wp_aloadR_n rfl rfl
theorem s79_35 : mm_wp d 79 35 ls (.ref a :: st) h Q ↔ (mm_s h a).1 = 8 ∧ mm_wp d 79 38 ls (mm_o (mm_r h a 4) :: st) h Q := wp_getR rfl rfl
theorem s79_38 : mm_wp d 79 38 [l0, .ref a] st h Q ↔ mm_wp d 79 39 [l0, .ref a] (.ref a :: st) h Q := wp_aloadR_n rfl rfl
theorem s79_38o : mm_wp d 79 38 [l0, mm_o o] st h Q ↔ mm_wp d 79 39 [l0, mm_o o] (mm_o o :: st) h Q := wp_aload_n rfl o rfl
theorem s79_39 : mm_wp d 79 39 ls (.ref a :: st) h Q ↔ (mm_s h a).1 = 6 ∧ mm_wp d 79 42 ls (.int (mm_i h a 0) :: st) h Q := wp_getI rfl rfl (by decide) (by decide)
theorem s79_42 : mm_wp d 79 42 [l0, .ref a] st h Q ↔ mm_wp d 79 43 [l0, .ref a] (.ref a :: st) h Q := wp_aloadR_n rfl rfl
theorem s79_42o : mm_wp d 79 42 [l0, mm_o o] st h Q ↔ mm_wp d 79 43 [l0, mm_o o] (mm_o o :: st) h Q := wp_aload_n rfl o rfl
theorem s79_43 : mm_wp d 79 43 ls (.ref a :: st) h Q ↔ (mm_s h a).1 = 6 ∧ mm_wp d 79 46 ls (.int (mm_i h a 6) :: st) h Q := wp_getI rfl rfl (by decide) (by decide)
theorem s79_46 : mm_wp (d + 1) 79 46 ls [.int x3, .int x2, .ref a] h Q ↔ (mm_s h a).1 = 3 ∧ mm_wp d 82 0 [.ref a, .int x2, .int x3, mm_j, mm_j, mm_j, mm_j, mm_j, mm_j] [] h (mm_bk (d + 1) 79 46 ls [] Q) := wp_virtual rfl rfl ⟨by decide, rfl⟩ ⟨Nat.le_of_ble_eq_true rfl, Nat.le_of_ble_eq_true rfl⟩ rfl rfl rfl rfl rfl rfl
theorem s79_49 : mm_wp d 79 49 [.ref a, l1] st h Q ↔ mm_wp d 79 50 [.ref a, l1] (.ref a :: st) h Q := wp_aloadR_n rfl rfl
theorem s79_50 : mm_wp d 79 50 ls (.ref a :: st) h Q ↔ (mm_s h a).1 = 8 ∧ mm_wp d 79 53 ls (mm_o (mm_r h a 5) :: st) h Q := wp_getR rfl rfl
theorem s79_53 : mm_wp d 79 53 [l0, .ref a] st h Q ↔ mm_wp d 79 54 [l0, .ref a] (.ref a :: st) h Q := wp_aloadR_n rfl rfl
theorem s79_53o : mm_wp d 79 53 [l0, mm_o o] st h Q ↔ mm_wp d 79 54 [l0, mm_o o] (mm_o o :: st) h Q := wp_aload_n rfl o rfl
theorem s79_54 : mm_wp d 79 54 ls (.ref a :: st) h Q ↔ (mm_s h a).1 = 6 ∧ mm_wp d 79 57 ls (.int (mm_i h a 0) :: st) h Q := wp_getI rfl rfl (by decide) (by decide)
theorem s79_57 : mm_wp d 79 57 [l0, .ref a] st h Q ↔ mm_wp d 79 58 [l0, .ref a] (.ref a :: st) h Q := wp_aloadR_n rfl rfl
theorem s79_57o : mm_wp d 79 57 [l0, mm_o o] st h Q ↔ mm_wp d 79 58 [l0, mm_o o] (mm_o o :: st) h Q := wp_aload_n rfl o rfl
theorem s79_58 : mm_wp d 79 58 ls (.ref a :: st) h Q ↔ (mm_s h a).1 = 6 ∧ mm_wp d 79 61 ls (.int (mm_i h a 7) :: st) h Q := wp_getI rfl rfl (by decide) (by decide)
theorem s79_61 : mm_wp (d + 1) 79 61 ls [.int x3, .int x2, .ref a] h Q ↔ (mm_s h a).1 = 3 ∧ mm_wp d 82 0 [.ref a, .int x2, .int x3, mm_j, mm_j, mm_j, mm_j, mm_j, mm_j] [] h (mm_bk (d + 1) 79 61 ls [] Q) := wp_virtual rfl rfl ⟨by decide, rfl⟩ ⟨Nat.le_of_ble_eq_true rfl, Nat.le_of_ble_eq_true rfl⟩ rfl rfl rfl rfl rfl rfl
theorem s79_64 : mm_wp d 79 64 [.ref a, l1] st h Q ↔ mm_wp d 79 65 [.ref a, l1] (.ref a :: st) h Q := wp_aloadR_n rfl rfl
theorem s79_65 : mm_wp d 79 65 ls (.ref a :: st) h Q ↔ (mm_s h a).1 = 8 ∧ mm_wp d 79 68 ls (mm_o (mm_r h a 6) :: st) h Q := wp_getR rfl rfl
theorem s79_68 : mm_wp d 79 68 [l0, .ref a] st h Q ↔ mm_wp d 79 69 [l0, .ref a] (.ref a :: st) h Q := wp_aloadR_n rfl rfl
theorem s79_68o : mm_wp d 79 68 [l0, mm_o o] st h Q ↔ mm_wp d 79 69 [l0, mm_o o] (mm_o o :: st) h Q := wp_aload_n rfl o rfl
theorem s79_69 : mm_wp d 79 69 ls (.ref a :: st) h Q ↔ (mm_s h a).1 = 6 ∧ mm_wp d 79 72 ls (.int (mm_i h a 0) :: st) h Q := wp_getI rfl rfl (by decide) (by decide)
theorem s79_72 : mm_wp d 79 72 [l0, .ref a] st h Q ↔ mm_wp d 79 73 [l0, .ref a] (.ref a :: st) h Q := wp_aloadR_n rfl rfl
theorem s79_72o : mm_wp d 79 72 [l0, mm_o o] st h Q ↔ mm_wp d 79 73 [l0, mm_o o] (mm_o o :: st) h Q := wp_aload_n rfl o rfl
theorem s79_73 : mm_wp d 79 73 ls (.ref a :: st) h Q ↔ (mm_s h a).1 = 6 ∧ mm_wp d 79 76 ls (.int (mm_i h a 8) :: st) h Q := wp_getI rfl rfl (by decide) (by decide)
theorem s79_76 : mm_wp (d + 1) 79 76 ls [.int x3, .int x2, .ref a] h Q ↔ (mm_s h a).1 = 3 ∧ mm_wp d 82 0 [.ref a, .int x2, .int x3, mm_j, mm_j, mm_j, mm_j, mm_j, mm_j] [] h (mm_bk (d + 1) 79 76 ls [] Q) := wp_virtual rfl rfl ⟨by decide, rfl⟩ ⟨Nat.le_of_ble_eq_true rfl, Nat.le_of_ble_eq_true rfl⟩ rfl rfl rfl rfl rfl rfl
theorem s79_79 : mm_wp d 79 79 [.ref a, l1] st h Q ↔ mm_wp d 79 80 [.ref a, l1] (.ref a :: st) h Q := wp_aloadR_n rfl rfl
theorem s79_80 : mm_wp d 79 80 ls (.ref a :: st) h Q ↔ (mm_s h a).1 = 8 ∧ mm_wp d 79 83 ls (mm_o (mm_r h a 2) :: st) h Q := wp_getR rfl rfl
theorem s79_83 : mm_wp d 79 83 [.ref a, l1] st h Q ↔ mm_wp d 79 84 [.ref a, l1] (.ref a :: st) h Q := wp_aloadR_n rfl rfl
theorem s79_84 : mm_wp d 79 84 ls (.ref a :: st) h Q ↔ (mm_s h a).1 = 8 ∧ mm_wp d 79 87 ls (mm_o (mm_r h a 3) :: st) h Q := wp_getR rfl rfl
theorem s79_87 : mm_wp (d + 1) 79 87 ls [.ref b, .ref a] h Q ↔ (mm_s h a).1 = 7 ∧ mm_wp d 83 0 [.ref a, .ref b] [] h (mm_bk (d + 1) 79 87 ls [] Q) := wp_virtual rfl rfl ⟨by decide, rfl⟩ ⟨Nat.le_of_ble_eq_true rfl, Nat.le_of_ble_eq_true rfl⟩ rfl rfl rfl rfl rfl rfl
theorem s79_90 : mm_wp d 79 90 ls (.int x :: st) h Q ↔ if x = 0 then mm_wp d 79 104 ls st h Q else mm_wp d 79 93 ls st h Q := wp_ifeq rfl rfl
theorem s79_93 : mm_wp d 79 93 [.ref a, l1] st h Q ↔ mm_wp d 79 94 [.ref a, l1] (.ref a :: st) h Q := wp_aloadR_n rfl rfl
theorem s79_94 : mm_wp d 79 94 ls (.ref a :: st) h Q ↔ (mm_s h a).1 = 8 ∧ mm_wp d 79 97 ls (mm_o (mm_r h a 3) :: st) h Q := wp_getR rfl rfl
theorem s79_97 : mm_wp d 79 97 [.ref a, l1] st h Q ↔ mm_wp d 79 98 [.ref a, l1] (.ref a :: st) h Q := wp_aloadR_n rfl rfl
theorem s79_98 : mm_wp d 79 98 ls (.ref a :: st) h Q ↔ (mm_s h a).1 = 8 ∧ mm_wp d 79 101 ls (mm_o (mm_r h a 2) :: st) h Q := wp_getR rfl rfl
theorem s79_101 : mm_wp (d + 1) 79 101 ls [.ref b, .ref a] h Q ↔ (mm_s h a).1 = 7 ∧ mm_wp d 84 0 [.ref a, .ref b, mm_j] [] h (mm_bk (d + 1) 79 101 ls [] Q) := wp_virtual rfl rfl ⟨by decide, rfl⟩ ⟨Nat.le_of_ble_eq_true rfl, Nat.le_of_ble_eq_true rfl⟩ rfl rfl rfl rfl rfl rfl
theorem s79_104 : mm_wp d 79 104 [.ref a, l1] st h Q ↔ mm_wp d 79 105 [.ref a, l1] (.ref a :: st) h Q := wp_aloadR_n rfl rfl
theorem s79_105 : mm_wp d 79 105 [l0, .ref a] st h Q ↔ mm_wp d 79 106 [l0, .ref a] (.ref a :: st) h Q := wp_aloadR_n rfl rfl
theorem s79_105o : mm_wp d 79 105 [l0, mm_o o] st h Q ↔ mm_wp d 79 106 [l0, mm_o o] (mm_o o :: st) h Q := wp_aload_n rfl o rfl
theorem s79_106 : mm_wp d 79 106 ls (.ref a :: st) h Q ↔ (mm_s h a).1 = 6 ∧ mm_wp d 79 109 ls (.int (mm_i h a 0) :: st) h Q := wp_getI rfl rfl (by decide) (by decide)
theorem s79_109 : mm_wp d 79 109 ls st h Q ↔ mm_wp d 79 110 ls (.int (1 : Int32) :: st) h Q := wp_iconst rfl rfl
theorem s79_110 : mm_wp d 79 110 ls (.int x2 :: .int x :: st) h Q ↔ mm_wp d 79 111 ls (.int (x + x2) :: st) h Q := wp_iadd rfl
theorem s79_111 : mm_wp (d + 1) 79 111 ls [.int x2, .ref a] h Q ↔ (mm_s h a).1 = 8 ∧ mm_wp d 52 0 [.ref a, .int x2, mm_j, mm_j, mm_j, mm_j, mm_j] [] h (mm_bk (d + 1) 79 111 ls [] Q) := wp_virtual rfl rfl ⟨by decide, rfl⟩ ⟨Nat.le_of_ble_eq_true rfl, Nat.le_of_ble_eq_true rfl⟩ rfl rfl rfl rfl rfl rfl
theorem s79_114 : mm_wp d 79 114 [.ref a, l1] st h Q ↔ mm_wp d 79 115 [.ref a, l1] (.ref a :: st) h Q := wp_aloadR_n rfl rfl
theorem s79_115 : mm_wp d 79 115 ls (.ref a :: st) h Q ↔ (mm_s h a).1 = 8 ∧ mm_wp d 79 118 ls (mm_o (mm_r h a 2) :: st) h Q := wp_getR rfl rfl
theorem s79_118 : mm_wp (d + 1) 79 118 ls [.ref a] h Q ↔ (mm_s h a).1 = 7 ∧ mm_wp d 86 0 [.ref a] [] h (mm_bk (d + 1) 79 118 ls [] Q) := wp_virtual rfl rfl ⟨by decide, rfl⟩ ⟨Nat.le_of_ble_eq_true rfl, Nat.le_of_ble_eq_true rfl⟩ rfl rfl rfl rfl rfl rfl
theorem s79_121 : mm_wp d 79 121 ls st h Q ↔ Q (.inl none) h := wp_vret rfl rfl
/-! 80: LoadRoom$Row.lengthen()V -/
theorem s80_0 : mm_wp d 80 0 [.ref a] st h Q ↔ mm_wp d 80 1 [.ref a] (.ref a :: st) h Q := wp_aloadR_n rfl rfl
theorem s80_1 : mm_wp d 80 1 ls (.ref a :: st) h Q ↔ (mm_s h a).1 = 7 ∧ mm_wp d 80 4 ls (.int (mm_i h a 1) :: st) h Q := wp_getI rfl rfl (by decide) (by decide)
theorem s80_4 : mm_wp d 80 4 ls st h Q ↔ mm_wp d 80 6 ls (.int (8 : Int32) :: st) h Q := wp_bipush rfl rfl
theorem s80_6 : mm_wp d 80 6 ls (.int x2 :: .int x :: st) h Q ↔ if x2 ≤ x then mm_wp d 80 33 ls st h Q else mm_wp d 80 9 ls st h Q := wp_icmpge rfl rfl
theorem s80_9 : mm_wp d 80 9 [.ref a] st h Q ↔ mm_wp d 80 10 [.ref a] (.ref a :: st) h Q := wp_aloadR_n rfl rfl
theorem s80_10 : mm_wp d 80 10 [.ref a] st h Q ↔ mm_wp d 80 11 [.ref a] (.ref a :: st) h Q := wp_aloadR_n rfl rfl
theorem s80_11 : mm_wp d 80 11 ls (.ref a :: st) h Q ↔ (mm_s h a).1 = 7 ∧ mm_wp d 80 14 ls (mm_o (mm_r h a 0) :: st) h Q := wp_getR rfl rfl
theorem s80_14 : mm_wp d 80 14 [.ref a] st h Q ↔ mm_wp d 80 15 [.ref a] (.ref a :: st) h Q := wp_aloadR_n rfl rfl
theorem s80_15 : mm_wp d 80 15 ls (.ref a :: st) h Q ↔ (mm_s h a).1 = 7 ∧ mm_wp d 80 18 ls (.int (mm_i h a 1) :: st) h Q := wp_getI rfl rfl (by decide) (by decide)
theorem s80_18 : mm_wp d 80 18 ls (.int x :: .ref a :: st) h Q ↔ (23 ≤ (mm_s h a).1 ∧ (mm_s h a).1 ≤ 26 ∧ mm_in x (mm_s h a).2 = true) ∧ mm_wp d 80 19 ls (mm_o (mm_r h a x.toNatClampNeg) :: st) h Q := wp_aaload rfl
theorem s80_19 : mm_wp d 80 19 ls st h Q ↔ mm_wp d 80 20 ls (.int (1 : Int32) :: st) h Q := wp_iconst rfl rfl
theorem s80_20 : mm_wp (d + 1) 80 20 ls [.int x3, .ref b, .ref a] h Q ↔ (mm_s h a).1 = 7 ∧ mm_wp d 81 0 [.ref a, .ref b, .int x3, mm_j] [] h (mm_bk (d + 1) 80 20 ls [] Q) := wp_virtual rfl rfl ⟨by decide, rfl⟩ ⟨Nat.le_of_ble_eq_true rfl, Nat.le_of_ble_eq_true rfl⟩ rfl rfl rfl rfl rfl rfl
theorem s80_23 : mm_wp d 80 23 [.ref a] st h Q ↔ mm_wp d 80 24 [.ref a] (.ref a :: st) h Q := wp_aloadR_n rfl rfl
theorem s80_24 : mm_wp d 80 24 ls (.ref a :: st) h Q ↔ mm_wp d 80 25 ls (.ref a :: .ref a :: st) h Q := wp_dupR rfl
theorem s80_25 : mm_wp d 80 25 ls (.ref a :: st) h Q ↔ (mm_s h a).1 = 7 ∧ mm_wp d 80 28 ls (.int (mm_i h a 1) :: st) h Q := wp_getI rfl rfl (by decide) (by decide)
theorem s80_28 : mm_wp d 80 28 ls st h Q ↔ mm_wp d 80 29 ls (.int (1 : Int32) :: st) h Q := wp_iconst rfl rfl
theorem s80_29 : mm_wp d 80 29 ls (.int x2 :: .int x :: st) h Q ↔ mm_wp d 80 30 ls (.int (x + x2) :: st) h Q := wp_iadd rfl
theorem s80_30 : mm_wp d 80 30 ls (.int x :: .ref a :: st) h Q ↔ (mm_s h a).1 = 7 ∧ mm_wp d 80 33 ls st (mm_pi h a 1 x) Q := wp_putI rfl rfl
theorem s80_33 : mm_wp d 80 33 ls st h Q ↔ Q (.inl none) h := wp_vret rfl rfl
/-! 81: LoadRoom$Row.reckon(LLoadRoom$Placed;I)V -/
theorem s81_0 : mm_wp d 81 0 [.ref a, l1, l2, l3] st h Q ↔ mm_wp d 81 1 [.ref a, l1, l2, l3] (.ref a :: st) h Q := wp_aloadR_n rfl rfl
theorem s81_1 : mm_wp d 81 1 ls (.ref a :: st) h Q ↔ mm_wp d 81 2 ls (.ref a :: .ref a :: st) h Q := wp_dupR rfl
theorem s81_2 : mm_wp d 81 2 ls (.ref a :: st) h Q ↔ (mm_s h a).1 = 7 ∧ mm_wp d 81 5 ls (.int (mm_i h a 2) :: st) h Q := wp_getI rfl rfl (by decide) (by decide)
theorem s81_5 : mm_wp d 81 5 [l0, l1, .int x, l3] st h Q ↔ mm_wp d 81 6 [l0, l1, .int x, l3] (.int x :: st) h Q := wp_iload_n rfl rfl
theorem s81_6 : mm_wp d 81 6 [l0, .ref a, l2, l3] st h Q ↔ mm_wp d 81 7 [l0, .ref a, l2, l3] (.ref a :: st) h Q := wp_aloadR_n rfl rfl
theorem s81_6o : mm_wp d 81 6 [l0, mm_o o, l2, l3] st h Q ↔ mm_wp d 81 7 [l0, mm_o o, l2, l3] (mm_o o :: st) h Q := wp_aload_n rfl o rfl
theorem s81_7 : mm_wp d 81 7 ls (.ref a :: st) h Q ↔ (mm_s h a).1 = 6 ∧ mm_wp d 81 10 ls (.int (mm_i h a 9) :: st) h Q := wp_getI rfl rfl (by decide) (by decide)
theorem s81_10 : mm_wp d 81 10 ls (.int x2 :: .int x :: st) h Q ↔ mm_wp d 81 11 ls (.int (x * x2) :: st) h Q := wp_imul rfl
theorem s81_11 : mm_wp d 81 11 [l0, .ref a, l2, l3] st h Q ↔ mm_wp d 81 12 [l0, .ref a, l2, l3] (.ref a :: st) h Q := wp_aloadR_n rfl rfl
theorem s81_11o : mm_wp d 81 11 [l0, mm_o o, l2, l3] st h Q ↔ mm_wp d 81 12 [l0, mm_o o, l2, l3] (mm_o o :: st) h Q := wp_aload_n rfl o rfl
theorem s81_12 : mm_wp d 81 12 ls (.ref a :: st) h Q ↔ (mm_s h a).1 = 6 ∧ mm_wp d 81 15 ls (.int (mm_i h a 10) :: st) h Q := wp_getI rfl rfl (by decide) (by decide)
theorem s81_15 : mm_wp d 81 15 ls (.int x2 :: .int x :: st) h Q ↔ mm_wp d 81 16 ls (.int (x * x2) :: st) h Q := wp_imul rfl
theorem s81_16 : mm_wp d 81 16 [l0, .ref a, l2, l3] st h Q ↔ mm_wp d 81 17 [l0, .ref a, l2, l3] (.ref a :: st) h Q := wp_aloadR_n rfl rfl
theorem s81_16o : mm_wp d 81 16 [l0, mm_o o, l2, l3] st h Q ↔ mm_wp d 81 17 [l0, mm_o o, l2, l3] (mm_o o :: st) h Q := wp_aload_n rfl o rfl
theorem s81_17 : mm_wp d 81 17 ls (.ref a :: st) h Q ↔ (mm_s h a).1 = 6 ∧ mm_wp d 81 20 ls (.int (mm_i h a 11) :: st) h Q := wp_getI rfl rfl (by decide) (by decide)
theorem s81_20 : mm_wp d 81 20 ls (.int x2 :: .int x :: st) h Q ↔ mm_wp d 81 21 ls (.int (x * x2) :: st) h Q := wp_imul rfl
theorem s81_21 : mm_wp d 81 21 ls (.int x2 :: .int x :: st) h Q ↔ mm_wp d 81 22 ls (.int (x + x2) :: st) h Q := wp_iadd rfl
theorem s81_22 : mm_wp d 81 22 ls (.int x :: .ref a :: st) h Q ↔ (mm_s h a).1 = 7 ∧ mm_wp d 81 25 ls st (mm_pi h a 2 x) Q := wp_putI rfl rfl
theorem s81_25 : mm_wp d 81 25 [.ref a, l1, l2, l3] st h Q ↔ mm_wp d 81 26 [.ref a, l1, l2, l3] (.ref a :: st) h Q := wp_aloadR_n rfl rfl
theorem s81_26 : mm_wp d 81 26 ls (.ref a :: st) h Q ↔ mm_wp d 81 27 ls (.ref a :: .ref a :: st) h Q := wp_dupR rfl
theorem s81_27 : mm_wp d 81 27 ls (.ref a :: st) h Q ↔ (mm_s h a).1 = 7 ∧ mm_wp d 81 30 ls (.long (mm_l h a 3) :: st) h Q := wp_getL rfl rfl
theorem s81_30 : mm_wp d 81 30 [l0, l1, .int x, l3] st h Q ↔ mm_wp d 81 31 [l0, l1, .int x, l3] (.int x :: st) h Q := wp_iload_n rfl rfl
theorem s81_31 : mm_wp d 81 31 [l0, .ref a, l2, l3] st h Q ↔ mm_wp d 81 32 [l0, .ref a, l2, l3] (.ref a :: st) h Q := wp_aloadR_n rfl rfl
theorem s81_31o : mm_wp d 81 31 [l0, mm_o o, l2, l3] st h Q ↔ mm_wp d 81 32 [l0, mm_o o, l2, l3] (mm_o o :: st) h Q := wp_aload_n rfl o rfl
theorem s81_32 : mm_wp d 81 32 ls (.ref a :: st) h Q ↔ (mm_s h a).1 = 6 ∧ mm_wp d 81 35 ls (.int (mm_i h a 12) :: st) h Q := wp_getI rfl rfl (by decide) (by decide)
theorem s81_35 : mm_wp d 81 35 ls (.int x2 :: .int x :: st) h Q ↔ mm_wp d 81 36 ls (.int (x * x2) :: st) h Q := wp_imul rfl
theorem s81_36 : mm_wp d 81 36 ls st h Q ↔ mm_wp d 81 37 ls (.int (2 : Int32) :: st) h Q := wp_iconst rfl rfl
theorem s81_37 : mm_wp d 81 37 [l0, .ref a, l2, l3] st h Q ↔ mm_wp d 81 38 [l0, .ref a, l2, l3] (.ref a :: st) h Q := wp_aloadR_n rfl rfl
theorem s81_37o : mm_wp d 81 37 [l0, mm_o o, l2, l3] st h Q ↔ mm_wp d 81 38 [l0, mm_o o, l2, l3] (mm_o o :: st) h Q := wp_aload_n rfl o rfl
theorem s81_38 : mm_wp d 81 38 ls (.ref a :: st) h Q ↔ (mm_s h a).1 = 6 ∧ mm_wp d 81 41 ls (.int (mm_i h a 4) :: st) h Q := wp_getI rfl rfl (by decide) (by decide)
theorem s81_41 : mm_wp d 81 41 ls (.int x2 :: .int x :: st) h Q ↔ mm_wp d 81 42 ls (.int (x * x2) :: st) h Q := wp_imul rfl
theorem s81_42 : mm_wp d 81 42 [l0, .ref a, l2, l3] st h Q ↔ mm_wp d 81 43 [l0, .ref a, l2, l3] (.ref a :: st) h Q := wp_aloadR_n rfl rfl
theorem s81_42o : mm_wp d 81 42 [l0, mm_o o, l2, l3] st h Q ↔ mm_wp d 81 43 [l0, mm_o o, l2, l3] (mm_o o :: st) h Q := wp_aload_n rfl o rfl
theorem s81_43 : mm_wp d 81 43 ls (.ref a :: st) h Q ↔ (mm_s h a).1 = 6 ∧ mm_wp d 81 46 ls (.int (mm_i h a 10) :: st) h Q := wp_getI rfl rfl (by decide) (by decide)
theorem s81_46 : mm_wp d 81 46 ls (.int x2 :: .int x :: st) h Q ↔ mm_wp d 81 47 ls (.int (x + x2) :: st) h Q := wp_iadd rfl
theorem s81_47 : mm_wp d 81 47 ls (.int x2 :: .int x :: st) h Q ↔ mm_wp d 81 48 ls (.int (x * x2) :: st) h Q := wp_imul rfl
theorem s81_48 : mm_wp d 81 48 ls (.int x :: st) h Q ↔ mm_wp d 81 49 ls (.long x.toInt64 :: st) h Q := wp_i2l rfl
theorem s81_49 : mm_wp d 81 49 ls (.long w2 :: .long w :: st) h Q ↔ mm_wp d 81 50 ls (.long (w + w2) :: st) h Q := wp_ladd rfl
theorem s81_50 : mm_wp d 81 50 ls (.long w :: .ref a :: st) h Q ↔ (mm_s h a).1 = 7 ∧ mm_wp d 81 53 ls st (mm_pl h a 3 w) Q := wp_putL rfl rfl
theorem s81_53 : mm_wp d 81 53 ls st h Q ↔ mm_wp d 81 54 ls (.int (0 : Int32) :: st) h Q := wp_iconst rfl rfl
theorem s81_54 : mm_wp d 81 54 [l0, l1, l2, l3] (.int x :: st) h Q ↔ mm_wp d 81 55 [l0, l1, l2, .int x] st h Q := wp_istore_n rfl rfl
theorem s81_55 : mm_wp d 81 55 [l0, l1, l2, .int x] st h Q ↔ mm_wp d 81 56 [l0, l1, l2, .int x] (.int x :: st) h Q := wp_iload_n rfl rfl
theorem s81_56 : mm_wp d 81 56 [.ref a, l1, l2, l3] st h Q ↔ mm_wp d 81 57 [.ref a, l1, l2, l3] (.ref a :: st) h Q := wp_aloadR_n rfl rfl
theorem s81_57 : mm_wp d 81 57 ls (.ref a :: st) h Q ↔ (mm_s h a).1 = 7 ∧ mm_wp d 81 60 ls (.int (mm_i h a 1) :: st) h Q := wp_getI rfl rfl (by decide) (by decide)
theorem s81_60 : mm_wp d 81 60 ls (.int x2 :: .int x :: st) h Q ↔ if x2 ≤ x then mm_wp d 81 102 ls st h Q else mm_wp d 81 63 ls st h Q := wp_icmpge rfl rfl
theorem s81_63 : mm_wp d 81 63 [l0, .ref a, l2, l3] st h Q ↔ mm_wp d 81 64 [l0, .ref a, l2, l3] (.ref a :: st) h Q := wp_aloadR_n rfl rfl
theorem s81_63o : mm_wp d 81 63 [l0, mm_o o, l2, l3] st h Q ↔ mm_wp d 81 64 [l0, mm_o o, l2, l3] (mm_o o :: st) h Q := wp_aload_n rfl o rfl
theorem s81_64 : mm_wp d 81 64 [.ref a, l1, l2, l3] st h Q ↔ mm_wp d 81 65 [.ref a, l1, l2, l3] (.ref a :: st) h Q := wp_aloadR_n rfl rfl
theorem s81_65 : mm_wp d 81 65 ls (.ref a :: st) h Q ↔ (mm_s h a).1 = 7 ∧ mm_wp d 81 68 ls (mm_o (mm_r h a 0) :: st) h Q := wp_getR rfl rfl
theorem s81_68 : mm_wp d 81 68 [l0, l1, l2, .int x] st h Q ↔ mm_wp d 81 69 [l0, l1, l2, .int x] (.int x :: st) h Q := wp_iload_n rfl rfl
theorem s81_69 : mm_wp d 81 69 ls (.int x :: .ref a :: st) h Q ↔ (23 ≤ (mm_s h a).1 ∧ (mm_s h a).1 ≤ 26 ∧ mm_in x (mm_s h a).2 = true) ∧ mm_wp d 81 70 ls (mm_o (mm_r h a x.toNatClampNeg) :: st) h Q := wp_aaload rfl
theorem s81_70 : mm_wp (d + 1) 81 70 ls [.ref b, .ref a] h Q ↔ (mm_s h a).1 = 6 ∧ mm_wp d 76 0 [.ref a, .ref b] [] h (mm_bk (d + 1) 81 70 ls [] Q) := wp_virtual rfl rfl ⟨by decide, rfl⟩ ⟨Nat.le_of_ble_eq_true rfl, Nat.le_of_ble_eq_true rfl⟩ rfl rfl rfl rfl rfl rfl
theorem s81_73 : mm_wp d 81 73 ls (.int x :: st) h Q ↔ if x = 0 then mm_wp d 81 96 ls st h Q else mm_wp d 81 76 ls st h Q := wp_ifeq rfl rfl
theorem s81_76 : mm_wp d 81 76 [.ref a, l1, l2, l3] st h Q ↔ mm_wp d 81 77 [.ref a, l1, l2, l3] (.ref a :: st) h Q := wp_aloadR_n rfl rfl
theorem s81_77 : mm_wp d 81 77 ls (.ref a :: st) h Q ↔ (mm_s h a).1 = 7 ∧ mm_wp d 81 80 ls (mm_o (mm_r h a 0) :: st) h Q := wp_getR rfl rfl
theorem s81_80 : mm_wp d 81 80 [l0, l1, l2, .int x] st h Q ↔ mm_wp d 81 81 [l0, l1, l2, .int x] (.int x :: st) h Q := wp_iload_n rfl rfl
theorem s81_81 : mm_wp d 81 81 ls (.int x :: .ref a :: st) h Q ↔ (23 ≤ (mm_s h a).1 ∧ (mm_s h a).1 ≤ 26 ∧ mm_in x (mm_s h a).2 = true) ∧ mm_wp d 81 82 ls (mm_o (mm_r h a x.toNatClampNeg) :: st) h Q := wp_aaload rfl
theorem s81_82 : mm_wp d 81 82 ls (.ref a :: st) h Q ↔ mm_wp d 81 83 ls (.ref a :: .ref a :: st) h Q := wp_dupR rfl
theorem s81_83 : mm_wp d 81 83 ls (.ref a :: st) h Q ↔ (mm_s h a).1 = 6 ∧ mm_wp d 81 86 ls (.int (mm_i h a 15) :: st) h Q := wp_getI rfl rfl (by decide) (by decide)
theorem s81_86 : mm_wp d 81 86 [l0, l1, .int x, l3] st h Q ↔ mm_wp d 81 87 [l0, l1, .int x, l3] (.int x :: st) h Q := wp_iload_n rfl rfl
theorem s81_87 : mm_wp d 81 87 [l0, .ref a, l2, l3] st h Q ↔ mm_wp d 81 88 [l0, .ref a, l2, l3] (.ref a :: st) h Q := wp_aloadR_n rfl rfl
theorem s81_87o : mm_wp d 81 87 [l0, mm_o o, l2, l3] st h Q ↔ mm_wp d 81 88 [l0, mm_o o, l2, l3] (mm_o o :: st) h Q := wp_aload_n rfl o rfl
theorem s81_88 : mm_wp d 81 88 ls (.ref a :: st) h Q ↔ (mm_s h a).1 = 6 ∧ mm_wp d 81 91 ls (.int (mm_i h a 12) :: st) h Q := wp_getI rfl rfl (by decide) (by decide)
theorem s81_91 : mm_wp d 81 91 ls (.int x2 :: .int x :: st) h Q ↔ mm_wp d 81 92 ls (.int (x * x2) :: st) h Q := wp_imul rfl
theorem s81_92 : mm_wp d 81 92 ls (.int x2 :: .int x :: st) h Q ↔ mm_wp d 81 93 ls (.int (x + x2) :: st) h Q := wp_iadd rfl
theorem s81_93 : mm_wp d 81 93 ls (.int x :: .ref a :: st) h Q ↔ (mm_s h a).1 = 6 ∧ mm_wp d 81 96 ls st (mm_pi h a 15 x) Q := wp_putI rfl rfl
theorem s81_96 : mm_wp d 81 96 [l0, l1, l2, .int x] st h Q ↔ mm_wp d 81 99 [l0, l1, l2, .int (x + (1 : Int32))] st h Q := wp_iinc rfl rfl rfl rfl
theorem s81_99 : mm_wp d 81 99 ls st h Q ↔ mm_wp d 81 55 ls st h Q := wp_goto rfl rfl
theorem s81_102 : mm_wp d 81 102 ls st h Q ↔ Q (.inl none) h := wp_vret rfl rfl
/-! 82: LoadRoom$Ends.grow(II)V -/
theorem s82_0 : mm_wp d 82 0 [l0, .int x, l2, l3, l4, l5, l6, l7, l8] st h Q ↔ mm_wp d 82 1 [l0, .int x, l2, l3, l4, l5, l6, l7, l8] (.int x :: st) h Q := wp_iload_n rfl rfl
theorem s82_1 : mm_wp d 82 1 ls (.int x :: st) h Q ↔ if x < 0 then mm_wp d 82 10 ls st h Q else mm_wp d 82 4 ls st h Q := wp_iflt rfl rfl
theorem s82_4 : mm_wp d 82 4 [l0, .int x, l2, l3, l4, l5, l6, l7, l8] st h Q ↔ mm_wp d 82 5 [l0, .int x, l2, l3, l4, l5, l6, l7, l8] (.int x :: st) h Q := wp_iload_n rfl rfl
theorem s82_5 : mm_wp d 82 5 ls st h Q ↔ mm_wp d 82 7 ls (.int (7 : Int32) :: st) h Q := wp_bipush rfl rfl
theorem s82_7 : mm_wp d 82 7 ls (.int x2 :: .int x :: st) h Q ↔ if x < x2 then mm_wp d 82 11 ls st h Q else mm_wp d 82 10 ls st h Q := wp_icmplt rfl rfl
theorem s82_10 : mm_wp d 82 10 ls st h Q ↔ Q (.inl none) h := wp_vret rfl rfl
theorem s82_11 : mm_wp d 82 11 [.ref a, l1, l2, l3, l4, l5, l6, l7, l8] st h Q ↔ mm_wp d 82 12 [.ref a, l1, l2, l3, l4, l5, l6, l7, l8] (.ref a :: st) h Q := wp_aloadR_n rfl rfl
theorem s82_12 : mm_wp d 82 12 ls (.ref a :: st) h Q ↔ (mm_s h a).1 = 3 ∧ mm_wp d 82 15 ls (mm_o (mm_r h a 0) :: st) h Q := wp_getR rfl rfl
theorem s82_15 : mm_wp d 82 15 [l0, .int x, l2, l3, l4, l5, l6, l7, l8] st h Q ↔ mm_wp d 82 16 [l0, .int x, l2, l3, l4, l5, l6, l7, l8] (.int x :: st) h Q := wp_iload_n rfl rfl
theorem s82_16 : mm_wp d 82 16 ls (.int x :: .ref a :: st) h Q ↔ (23 ≤ (mm_s h a).1 ∧ (mm_s h a).1 ≤ 26 ∧ mm_in x (mm_s h a).2 = true) ∧ mm_wp d 82 17 ls (mm_o (mm_r h a x.toNatClampNeg) :: st) h Q := wp_aaload rfl
theorem s82_17 : mm_wp d 82 17 [l0, l1, l2, l3, l4, l5, l6, l7, l8] (.ref a :: st) h Q ↔ mm_wp d 82 18 [l0, l1, l2, .ref a, l4, l5, l6, l7, l8] st h Q := wp_astoreR_n rfl rfl
theorem s82_17o : mm_wp d 82 17 [l0, l1, l2, l3, l4, l5, l6, l7, l8] (mm_o o :: st) h Q ↔ mm_wp d 82 18 [l0, l1, l2, mm_o o, l4, l5, l6, l7, l8] st h Q := wp_astore_n rfl o rfl
theorem s82_18 : mm_wp d 82 18 [.ref a, l1, l2, l3, l4, l5, l6, l7, l8] st h Q ↔ mm_wp d 82 19 [.ref a, l1, l2, l3, l4, l5, l6, l7, l8] (.ref a :: st) h Q := wp_aloadR_n rfl rfl
theorem s82_19 : mm_wp d 82 19 ls (.ref a :: st) h Q ↔ (mm_s h a).1 = 3 ∧ mm_wp d 82 22 ls (mm_o (mm_r h a 0) :: st) h Q := wp_getR rfl rfl
theorem s82_22 : mm_wp d 82 22 [l0, .int x, l2, l3, l4, l5, l6, l7, l8] st h Q ↔ mm_wp d 82 23 [l0, .int x, l2, l3, l4, l5, l6, l7, l8] (.int x :: st) h Q := wp_iload_n rfl rfl
theorem s82_23 : mm_wp d 82 23 ls st h Q ↔ mm_wp d 82 24 ls (.int (1 : Int32) :: st) h Q := wp_iconst rfl rfl
theorem s82_24 : mm_wp d 82 24 ls (.int x2 :: .int x :: st) h Q ↔ mm_wp d 82 25 ls (.int (x + x2) :: st) h Q := wp_iadd rfl
theorem s82_25 : mm_wp d 82 25 ls (.int x :: .ref a :: st) h Q ↔ (23 ≤ (mm_s h a).1 ∧ (mm_s h a).1 ≤ 26 ∧ mm_in x (mm_s h a).2 = true) ∧ mm_wp d 82 26 ls (mm_o (mm_r h a x.toNatClampNeg) :: st) h Q := wp_aaload rfl
theorem s82_26 : mm_wp d 82 26 [l0, l1, l2, l3, l4, l5, l6, l7, l8] (.ref a :: st) h Q ↔ mm_wp d 82 28 [l0, l1, l2, l3, .ref a, l5, l6, l7, l8] st h Q := wp_astoreR rfl rfl
theorem s82_26o : mm_wp d 82 26 [l0, l1, l2, l3, l4, l5, l6, l7, l8] (mm_o o :: st) h Q ↔ mm_wp d 82 28 [l0, l1, l2, l3, mm_o o, l5, l6, l7, l8] st h Q := wp_astore rfl o rfl
theorem s82_28 : mm_wp d 82 28 [.ref a, l1, l2, l3, l4, l5, l6, l7, l8] st h Q ↔ mm_wp d 82 29 [.ref a, l1, l2, l3, l4, l5, l6, l7, l8] (.ref a :: st) h Q := wp_aloadR_n rfl rfl
theorem s82_29 : mm_wp d 82 29 ls (.ref a :: st) h Q ↔ (mm_s h a).1 = 3 ∧ mm_wp d 82 32 ls (mm_o (mm_r h a 1) :: st) h Q := wp_getR rfl rfl
theorem s82_32 : mm_wp d 82 32 [l0, .int x, l2, l3, l4, l5, l6, l7, l8] st h Q ↔ mm_wp d 82 33 [l0, .int x, l2, l3, l4, l5, l6, l7, l8] (.int x :: st) h Q := wp_iload_n rfl rfl
theorem s82_33 : mm_wp d 82 33 ls (.int x :: .ref a :: st) h Q ↔ ((mm_s h a).1 = 20 ∧ mm_in x (mm_s h a).2 = true) ∧ mm_wp d 82 34 ls (.int (mm_i h a x.toNatClampNeg) :: st) h Q := wp_iaload rfl
theorem s82_34 : mm_wp d 82 34 ls st h Q ↔ mm_wp d 82 36 ls (.int (7 : Int32) :: st) h Q := wp_bipush rfl rfl
theorem s82_36 : mm_wp (d + 1) 82 36 ls [.int x2, .int x] h Q ↔ mm_wp d 3 0 [.int x, .int x2] [] h (mm_bk (d + 1) 82 36 ls [] Q) := wp_static rfl rfl ⟨by decide, rfl⟩ ⟨Nat.le_of_ble_eq_true rfl, Nat.le_of_ble_eq_true rfl⟩ rfl rfl rfl rfl
theorem s82_39 : mm_wp d 82 39 [l0, l1, l2, l3, l4, l5, l6, l7, l8] (.int x :: st) h Q ↔ mm_wp d 82 41 [l0, l1, l2, l3, l4, .int x, l6, l7, l8] st h Q := wp_istore rfl rfl
theorem s82_41 : mm_wp d 82 41 ls st h Q ↔ mm_wp d 82 42 ls (.int (0 : Int32) :: st) h Q := wp_iconst rfl rfl
theorem s82_42 : mm_wp d 82 42 [l0, l1, l2, l3, l4, l5, l6, l7, l8] (.int x :: st) h Q ↔ mm_wp d 82 44 [l0, l1, l2, l3, l4, l5, .int x, l7, l8] st h Q := wp_istore rfl rfl
theorem s82_44 : mm_wp d 82 44 [l0, l1, l2, l3, l4, l5, .int x, l7, l8] st h Q ↔ mm_wp d 82 46 [l0, l1, l2, l3, l4, l5, .int x, l7, l8] (.int x :: st) h Q := wp_iload rfl rfl
theorem s82_46 : mm_wp d 82 46 [l0, l1, l2, l3, l4, .int x, l6, l7, l8] st h Q ↔ mm_wp d 82 48 [l0, l1, l2, l3, l4, .int x, l6, l7, l8] (.int x :: st) h Q := wp_iload rfl rfl
theorem s82_48 : mm_wp d 82 48 ls (.int x2 :: .int x :: st) h Q ↔ if x2 ≤ x then mm_wp d 82 74 ls st h Q else mm_wp d 82 51 ls st h Q := wp_icmpge rfl rfl
theorem s82_51 : mm_wp d 82 51 [l0, l1, l2, .ref a, l4, l5, l6, l7, l8] st h Q ↔ mm_wp d 82 52 [l0, l1, l2, .ref a, l4, l5, l6, l7, l8] (.ref a :: st) h Q := wp_aloadR_n rfl rfl
theorem s82_51o : mm_wp d 82 51 [l0, l1, l2, mm_o o, l4, l5, l6, l7, l8] st h Q ↔ mm_wp d 82 52 [l0, l1, l2, mm_o o, l4, l5, l6, l7, l8] (mm_o o :: st) h Q := wp_aload_n rfl o rfl
theorem s82_52 : mm_wp d 82 52 [l0, l1, l2, l3, l4, l5, .int x, l7, l8] st h Q ↔ mm_wp d 82 54 [l0, l1, l2, l3, l4, l5, .int x, l7, l8] (.int x :: st) h Q := wp_iload rfl rfl
theorem s82_54 : mm_wp d 82 54 ls (.int x :: .ref a :: st) h Q ↔ ((mm_s h a).1 = 20 ∧ mm_in x (mm_s h a).2 = true) ∧ mm_wp d 82 55 ls (.int (mm_i h a x.toNatClampNeg) :: st) h Q := wp_iaload rfl
theorem s82_55 : mm_wp d 82 55 [l0, l1, .int x, l3, l4, l5, l6, l7, l8] st h Q ↔ mm_wp d 82 56 [l0, l1, .int x, l3, l4, l5, l6, l7, l8] (.int x :: st) h Q := wp_iload_n rfl rfl
theorem s82_56 : mm_wp d 82 56 ls (.int x2 :: .int x :: st) h Q ↔ if x2 ≤ x then mm_wp d 82 74 ls st h Q else mm_wp d 82 59 ls st h Q := wp_icmpge rfl rfl
theorem s82_59 : mm_wp d 82 59 [l0, l1, l2, l3, .ref a, l5, l6, l7, l8] st h Q ↔ mm_wp d 82 61 [l0, l1, l2, l3, .ref a, l5, l6, l7, l8] (.ref a :: st) h Q := wp_aloadR rfl rfl
theorem s82_59o : mm_wp d 82 59 [l0, l1, l2, l3, mm_o o, l5, l6, l7, l8] st h Q ↔ mm_wp d 82 61 [l0, l1, l2, l3, mm_o o, l5, l6, l7, l8] (mm_o o :: st) h Q := wp_aload rfl o rfl
theorem s82_61 : mm_wp d 82 61 [l0, l1, l2, l3, l4, l5, .int x, l7, l8] st h Q ↔ mm_wp d 82 63 [l0, l1, l2, l3, l4, l5, .int x, l7, l8] (.int x :: st) h Q := wp_iload rfl rfl
theorem s82_63 : mm_wp d 82 63 [l0, l1, l2, .ref a, l4, l5, l6, l7, l8] st h Q ↔ mm_wp d 82 64 [l0, l1, l2, .ref a, l4, l5, l6, l7, l8] (.ref a :: st) h Q := wp_aloadR_n rfl rfl
theorem s82_63o : mm_wp d 82 63 [l0, l1, l2, mm_o o, l4, l5, l6, l7, l8] st h Q ↔ mm_wp d 82 64 [l0, l1, l2, mm_o o, l4, l5, l6, l7, l8] (mm_o o :: st) h Q := wp_aload_n rfl o rfl
theorem s82_64 : mm_wp d 82 64 [l0, l1, l2, l3, l4, l5, .int x, l7, l8] st h Q ↔ mm_wp d 82 66 [l0, l1, l2, l3, l4, l5, .int x, l7, l8] (.int x :: st) h Q := wp_iload rfl rfl
theorem s82_66 : mm_wp d 82 66 ls (.int x :: .ref a :: st) h Q ↔ ((mm_s h a).1 = 20 ∧ mm_in x (mm_s h a).2 = true) ∧ mm_wp d 82 67 ls (.int (mm_i h a x.toNatClampNeg) :: st) h Q := wp_iaload rfl
theorem s82_67 : mm_wp d 82 67 ls (.int x2 :: .int x :: .ref a :: st) h Q ↔ ((mm_s h a).1 = 20 ∧ ¬ a = 0 ∧ mm_in x (mm_s h a).2 = true) ∧ mm_wp d 82 68 ls st (mm_pi h a x.toNatClampNeg x2) Q := wp_iastore rfl
theorem s82_68 : mm_wp d 82 68 [l0, l1, l2, l3, l4, l5, .int x, l7, l8] st h Q ↔ mm_wp d 82 71 [l0, l1, l2, l3, l4, l5, .int (x + (1 : Int32)), l7, l8] st h Q := wp_iinc rfl rfl rfl rfl
theorem s82_71 : mm_wp d 82 71 ls st h Q ↔ mm_wp d 82 44 ls st h Q := wp_goto rfl rfl
theorem s82_74 : mm_wp d 82 74 [l0, l1, l2, l3, l4, l5, .int x, l7, l8] st h Q ↔ mm_wp d 82 76 [l0, l1, l2, l3, l4, l5, .int x, l7, l8] (.int x :: st) h Q := wp_iload rfl rfl
theorem s82_76 : mm_wp d 82 76 [l0, l1, l2, l3, l4, .int x, l6, l7, l8] st h Q ↔ mm_wp d 82 78 [l0, l1, l2, l3, l4, .int x, l6, l7, l8] (.int x :: st) h Q := wp_iload rfl rfl
theorem s82_78 : mm_wp d 82 78 ls (.int x2 :: .int x :: st) h Q ↔ if x2 ≤ x then mm_wp d 82 93 ls st h Q else mm_wp d 82 81 ls st h Q := wp_icmpge rfl rfl
theorem s82_81 : mm_wp d 82 81 [l0, l1, l2, .ref a, l4, l5, l6, l7, l8] st h Q ↔ mm_wp d 82 82 [l0, l1, l2, .ref a, l4, l5, l6, l7, l8] (.ref a :: st) h Q := wp_aloadR_n rfl rfl
theorem s82_81o : mm_wp d 82 81 [l0, l1, l2, mm_o o, l4, l5, l6, l7, l8] st h Q ↔ mm_wp d 82 82 [l0, l1, l2, mm_o o, l4, l5, l6, l7, l8] (mm_o o :: st) h Q := wp_aload_n rfl o rfl
theorem s82_82 : mm_wp d 82 82 [l0, l1, l2, l3, l4, l5, .int x, l7, l8] st h Q ↔ mm_wp d 82 84 [l0, l1, l2, l3, l4, l5, .int x, l7, l8] (.int x :: st) h Q := wp_iload rfl rfl
theorem s82_84 : mm_wp d 82 84 ls (.int x :: .ref a :: st) h Q ↔ ((mm_s h a).1 = 20 ∧ mm_in x (mm_s h a).2 = true) ∧ mm_wp d 82 85 ls (.int (mm_i h a x.toNatClampNeg) :: st) h Q := wp_iaload rfl
theorem s82_85 : mm_wp d 82 85 [l0, l1, .int x, l3, l4, l5, l6, l7, l8] st h Q ↔ mm_wp d 82 86 [l0, l1, .int x, l3, l4, l5, l6, l7, l8] (.int x :: st) h Q := wp_iload_n rfl rfl
theorem s82_86 : mm_wp d 82 86 ls (.int x2 :: .int x :: st) h Q ↔ if x = x2 then mm_wp d 82 89 ls st h Q else mm_wp d 82 93 ls st h Q := wp_icmpne rfl rfl
theorem s82_89 : mm_wp d 82 89 ls st h Q ↔ mm_wp d 82 90 ls (.int (0 : Int32) :: st) h Q := wp_iconst rfl rfl
theorem s82_90 : mm_wp d 82 90 ls st h Q ↔ mm_wp d 82 94 ls st h Q := wp_goto rfl rfl
theorem s82_93 : mm_wp d 82 93 ls st h Q ↔ mm_wp d 82 94 ls (.int (1 : Int32) :: st) h Q := wp_iconst rfl rfl
theorem s82_94 : mm_wp d 82 94 [l0, l1, l2, l3, l4, l5, l6, l7, l8] (.int x :: st) h Q ↔ mm_wp d 82 96 [l0, l1, l2, l3, l4, l5, l6, .int x, l8] st h Q := wp_istore rfl rfl
theorem s82_96 : mm_wp d 82 96 [l0, l1, l2, l3, .ref a, l5, l6, l7, l8] st h Q ↔ mm_wp d 82 98 [l0, l1, l2, l3, .ref a, l5, l6, l7, l8] (.ref a :: st) h Q := wp_aloadR rfl rfl
theorem s82_96o : mm_wp d 82 96 [l0, l1, l2, l3, mm_o o, l5, l6, l7, l8] st h Q ↔ mm_wp d 82 98 [l0, l1, l2, l3, mm_o o, l5, l6, l7, l8] (mm_o o :: st) h Q := wp_aload rfl o rfl
theorem s82_98 : mm_wp d 82 98 [l0, l1, l2, l3, l4, l5, .int x, l7, l8] st h Q ↔ mm_wp d 82 100 [l0, l1, l2, l3, l4, l5, .int x, l7, l8] (.int x :: st) h Q := wp_iload rfl rfl
theorem s82_100 : mm_wp d 82 100 [l0, l1, .int x, l3, l4, l5, l6, l7, l8] st h Q ↔ mm_wp d 82 101 [l0, l1, .int x, l3, l4, l5, l6, l7, l8] (.int x :: st) h Q := wp_iload_n rfl rfl
theorem s82_101 : mm_wp d 82 101 ls (.int x2 :: .int x :: .ref a :: st) h Q ↔ ((mm_s h a).1 = 20 ∧ ¬ a = 0 ∧ mm_in x (mm_s h a).2 = true) ∧ mm_wp d 82 102 ls st (mm_pi h a x.toNatClampNeg x2) Q := wp_iastore rfl
theorem s82_102 : mm_wp d 82 102 [l0, l1, l2, l3, l4, l5, .int x, l7, l8] st h Q ↔ mm_wp d 82 104 [l0, l1, l2, l3, l4, l5, .int x, l7, l8] (.int x :: st) h Q := wp_iload rfl rfl
theorem s82_104 : mm_wp d 82 104 [l0, l1, l2, l3, l4, l5, l6, l7, l8] (.int x :: st) h Q ↔ mm_wp d 82 106 [l0, l1, l2, l3, l4, l5, l6, l7, .int x] st h Q := wp_istore rfl rfl
theorem s82_106 : mm_wp d 82 106 [l0, l1, l2, l3, l4, l5, l6, l7, .int x] st h Q ↔ mm_wp d 82 108 [l0, l1, l2, l3, l4, l5, l6, l7, .int x] (.int x :: st) h Q := wp_iload rfl rfl
theorem s82_108 : mm_wp d 82 108 [l0, l1, l2, l3, l4, .int x, l6, l7, l8] st h Q ↔ mm_wp d 82 110 [l0, l1, l2, l3, l4, .int x, l6, l7, l8] (.int x :: st) h Q := wp_iload rfl rfl
theorem s82_110 : mm_wp d 82 110 ls (.int x2 :: .int x :: st) h Q ↔ if x2 ≤ x then mm_wp d 82 131 ls st h Q else mm_wp d 82 113 ls st h Q := wp_icmpge rfl rfl
theorem s82_113 : mm_wp d 82 113 [l0, l1, l2, l3, .ref a, l5, l6, l7, l8] st h Q ↔ mm_wp d 82 115 [l0, l1, l2, l3, .ref a, l5, l6, l7, l8] (.ref a :: st) h Q := wp_aloadR rfl rfl
theorem s82_113o : mm_wp d 82 113 [l0, l1, l2, l3, mm_o o, l5, l6, l7, l8] st h Q ↔ mm_wp d 82 115 [l0, l1, l2, l3, mm_o o, l5, l6, l7, l8] (mm_o o :: st) h Q := wp_aload rfl o rfl
theorem s82_115 : mm_wp d 82 115 [l0, l1, l2, l3, l4, l5, l6, l7, .int x] st h Q ↔ mm_wp d 82 117 [l0, l1, l2, l3, l4, l5, l6, l7, .int x] (.int x :: st) h Q := wp_iload rfl rfl
theorem s82_117 : mm_wp d 82 117 [l0, l1, l2, l3, l4, l5, l6, .int x, l8] st h Q ↔ mm_wp d 82 119 [l0, l1, l2, l3, l4, l5, l6, .int x, l8] (.int x :: st) h Q := wp_iload rfl rfl
theorem s82_119 : mm_wp d 82 119 ls (.int x2 :: .int x :: st) h Q ↔ mm_wp d 82 120 ls (.int (x + x2) :: st) h Q := wp_iadd rfl
theorem s82_120 : mm_wp d 82 120 [l0, l1, l2, .ref a, l4, l5, l6, l7, l8] st h Q ↔ mm_wp d 82 121 [l0, l1, l2, .ref a, l4, l5, l6, l7, l8] (.ref a :: st) h Q := wp_aloadR_n rfl rfl
theorem s82_120o : mm_wp d 82 120 [l0, l1, l2, mm_o o, l4, l5, l6, l7, l8] st h Q ↔ mm_wp d 82 121 [l0, l1, l2, mm_o o, l4, l5, l6, l7, l8] (mm_o o :: st) h Q := wp_aload_n rfl o rfl
theorem s82_121 : mm_wp d 82 121 [l0, l1, l2, l3, l4, l5, l6, l7, .int x] st h Q ↔ mm_wp d 82 123 [l0, l1, l2, l3, l4, l5, l6, l7, .int x] (.int x :: st) h Q := wp_iload rfl rfl
theorem s82_123 : mm_wp d 82 123 ls (.int x :: .ref a :: st) h Q ↔ ((mm_s h a).1 = 20 ∧ mm_in x (mm_s h a).2 = true) ∧ mm_wp d 82 124 ls (.int (mm_i h a x.toNatClampNeg) :: st) h Q := wp_iaload rfl
theorem s82_124 : mm_wp d 82 124 ls (.int x2 :: .int x :: .ref a :: st) h Q ↔ ((mm_s h a).1 = 20 ∧ ¬ a = 0 ∧ mm_in x (mm_s h a).2 = true) ∧ mm_wp d 82 125 ls st (mm_pi h a x.toNatClampNeg x2) Q := wp_iastore rfl
theorem s82_125 : mm_wp d 82 125 [l0, l1, l2, l3, l4, l5, l6, l7, .int x] st h Q ↔ mm_wp d 82 128 [l0, l1, l2, l3, l4, l5, l6, l7, .int (x + (1 : Int32))] st h Q := wp_iinc rfl rfl rfl rfl
theorem s82_128 : mm_wp d 82 128 ls st h Q ↔ mm_wp d 82 106 ls st h Q := wp_goto rfl rfl
theorem s82_131 : mm_wp d 82 131 [.ref a, l1, l2, l3, l4, l5, l6, l7, l8] st h Q ↔ mm_wp d 82 132 [.ref a, l1, l2, l3, l4, l5, l6, l7, l8] (.ref a :: st) h Q := wp_aloadR_n rfl rfl
theorem s82_132 : mm_wp d 82 132 ls (.ref a :: st) h Q ↔ (mm_s h a).1 = 3 ∧ mm_wp d 82 135 ls (mm_o (mm_r h a 1) :: st) h Q := wp_getR rfl rfl
theorem s82_135 : mm_wp d 82 135 [l0, .int x, l2, l3, l4, l5, l6, l7, l8] st h Q ↔ mm_wp d 82 136 [l0, .int x, l2, l3, l4, l5, l6, l7, l8] (.int x :: st) h Q := wp_iload_n rfl rfl
theorem s82_136 : mm_wp d 82 136 ls st h Q ↔ mm_wp d 82 137 ls (.int (1 : Int32) :: st) h Q := wp_iconst rfl rfl
theorem s82_137 : mm_wp d 82 137 ls (.int x2 :: .int x :: st) h Q ↔ mm_wp d 82 138 ls (.int (x + x2) :: st) h Q := wp_iadd rfl
theorem s82_138 : mm_wp d 82 138 [l0, l1, l2, l3, l4, .int x, l6, l7, l8] st h Q ↔ mm_wp d 82 140 [l0, l1, l2, l3, l4, .int x, l6, l7, l8] (.int x :: st) h Q := wp_iload rfl rfl
theorem s82_140 : mm_wp d 82 140 [l0, l1, l2, l3, l4, l5, l6, .int x, l8] st h Q ↔ mm_wp d 82 142 [l0, l1, l2, l3, l4, l5, l6, .int x, l8] (.int x :: st) h Q := wp_iload rfl rfl
theorem s82_142 : mm_wp d 82 142 ls (.int x2 :: .int x :: st) h Q ↔ mm_wp d 82 143 ls (.int (x + x2) :: st) h Q := wp_iadd rfl
theorem s82_143 : mm_wp d 82 143 ls (.int x2 :: .int x :: .ref a :: st) h Q ↔ ((mm_s h a).1 = 20 ∧ ¬ a = 0 ∧ mm_in x (mm_s h a).2 = true) ∧ mm_wp d 82 144 ls st (mm_pi h a x.toNatClampNeg x2) Q := wp_iastore rfl
theorem s82_144 : mm_wp d 82 144 ls st h Q ↔ Q (.inl none) h := wp_vret rfl rfl
end
