/-! rows of the program, by rows.py -/
section
variable {d : Nat} {ls st : List Value} {h : mm_H} {Q : mm_Q} {o : Option Nat} {a b c : Nat} {x y x1 x2 x3 x4 x5 x6 : Int32} {w w2 w3 w4 : Int64} {q : UInt32} {l0 l1 l2 l3 l4 l5 l6 l7 l8 l9 l10 l11 l12 l13 l14 l15 l16 t0 t1 t2 t3 t4 t5 : Value}
/-! 112: LoadRoomModel.within(III)Z -/
theorem s112_0 : mm_wp d 112 0 [.int x, l1, l2] st h Q ↔ mm_wp d 112 1 [.int x, l1, l2] (.int x :: st) h Q := wp_iload_n rfl rfl
theorem s112_1 : mm_wp d 112 1 [l0, .int x, l2] st h Q ↔ mm_wp d 112 2 [l0, .int x, l2] (.int x :: st) h Q := wp_iload_n rfl rfl
theorem s112_2 : mm_wp d 112 2 ls (.int x2 :: .int x :: st) h Q ↔ if x < x2 then mm_wp d 112 14 ls st h Q else mm_wp d 112 5 ls st h Q := wp_icmplt rfl rfl
theorem s112_5 : mm_wp d 112 5 [.int x, l1, l2] st h Q ↔ mm_wp d 112 6 [.int x, l1, l2] (.int x :: st) h Q := wp_iload_n rfl rfl
theorem s112_6 : mm_wp d 112 6 [l0, l1, .int x] st h Q ↔ mm_wp d 112 7 [l0, l1, .int x] (.int x :: st) h Q := wp_iload_n rfl rfl
theorem s112_7 : mm_wp d 112 7 ls (.int x2 :: .int x :: st) h Q ↔ if x2 < x then mm_wp d 112 14 ls st h Q else mm_wp d 112 10 ls st h Q := wp_icmpgt rfl rfl
theorem s112_10 : mm_wp d 112 10 ls st h Q ↔ mm_wp d 112 11 ls (.int (1 : Int32) :: st) h Q := wp_iconst rfl rfl
theorem s112_11 : mm_wp d 112 11 ls st h Q ↔ mm_wp d 112 15 ls st h Q := wp_goto rfl rfl
theorem s112_14 : mm_wp d 112 14 ls st h Q ↔ mm_wp d 112 15 ls (.int (0 : Int32) :: st) h Q := wp_iconst rfl rfl
theorem s112_15 : mm_wp d 112 15 ls (.int x :: st) h Q ↔ (x = 0 ∨ x = 1) ∧ Q (.inl (some (.int x))) h := wp_zret rfl rfl
/-! 113: LoadRoomModel.unpack()V -/
theorem s113_0 : mm_wp d 113 0 [.ref a] st h Q ↔ mm_wp d 113 1 [.ref a] (.ref a :: st) h Q := wp_aloadR_n rfl rfl
theorem s113_1 : mm_wp d 113 1 ls st h Q ↔ mm_wp d 113 2 ls (.int (0 : Int32) :: st) h Q := wp_iconst rfl rfl
theorem s113_2 : mm_wp d 113 2 ls (.int x :: .ref a :: st) h Q ↔ (mm_s h a).1 = 10 ∧ (x = 0 ∨ x = 1) ∧ mm_wp d 113 5 ls st (mm_pi h a 20 x) Q := wp_putZ rfl rfl
theorem s113_5 : mm_wp d 113 5 [.ref a] st h Q ↔ mm_wp d 113 6 [.ref a] (.ref a :: st) h Q := wp_aloadR_n rfl rfl
theorem s113_6 : mm_wp d 113 6 ls st h Q ↔ mm_wp d 113 7 ls (.int (0 : Int32) :: st) h Q := wp_iconst rfl rfl
theorem s113_7 : mm_wp d 113 7 ls (.int x :: .ref a :: st) h Q ↔ (mm_s h a).1 = 10 ∧ mm_wp d 113 10 ls st (mm_pi h a 23 x) Q := wp_putI rfl rfl
theorem s113_10 : mm_wp d 113 10 [.ref a] st h Q ↔ mm_wp d 113 11 [.ref a] (.ref a :: st) h Q := wp_aloadR_n rfl rfl
theorem s113_11 : mm_wp d 113 11 ls st h Q ↔ mm_wp d 113 12 ls (.long (0 : Int64) :: st) h Q := wp_lconst rfl rfl
theorem s113_12 : mm_wp d 113 12 ls (.long w :: .ref a :: st) h Q ↔ (mm_s h a).1 = 10 ∧ mm_wp d 113 15 ls st (mm_pl h a 24 w) Q := wp_putL rfl rfl
theorem s113_15 : mm_wp d 113 15 [.ref a] st h Q ↔ mm_wp d 113 16 [.ref a] (.ref a :: st) h Q := wp_aloadR_n rfl rfl
theorem s113_16 : mm_wp d 113 16 ls st h Q ↔ mm_wp d 113 17 ls (.long (0 : Int64) :: st) h Q := wp_lconst rfl rfl
theorem s113_17 : mm_wp d 113 17 ls (.long w :: .ref a :: st) h Q ↔ (mm_s h a).1 = 10 ∧ mm_wp d 113 20 ls st (mm_pl h a 25 w) Q := wp_putL rfl rfl
theorem s113_20 : mm_wp d 113 20 ls st h Q ↔ Q (.inl none) h := wp_vret rfl rfl
/-! 114: LoadRoomModel.turn(II)I -/
theorem s114_0 : mm_wp d 114 0 [.ref a, l1, l2, l3] st h Q ↔ mm_wp d 114 1 [.ref a, l1, l2, l3] (.ref a :: st) h Q := wp_aloadR_n rfl rfl
theorem s114_1 : mm_wp d 114 1 [.ref a, l1, l2, l3] st h Q ↔ mm_wp d 114 2 [.ref a, l1, l2, l3] (.ref a :: st) h Q := wp_aloadR_n rfl rfl
theorem s114_2 : mm_wp d 114 2 [l0, .int x, l2, l3] st h Q ↔ mm_wp d 114 3 [l0, .int x, l2, l3] (.int x :: st) h Q := wp_iload_n rfl rfl
theorem s114_3 : mm_wp (d + 1) 114 3 ls [.int x2, .ref a, t0] h Q ↔ (mm_s h a).1 = 10 ∧ mm_wp d 115 0 [.ref a, .int x2] [] h (mm_bk (d + 1) 114 3 ls [t0] Q) := wp_virtual rfl rfl ⟨by decide, rfl⟩ ⟨Nat.le_of_ble_eq_true rfl, Nat.le_of_ble_eq_true rfl⟩ rfl rfl rfl rfl rfl rfl
theorem s114_6 : mm_wp d 114 6 ls (.int x :: st) h Q ↔ if x = 0 then mm_wp d 114 9 ls st h Q else mm_wp d 114 13 ls st h Q := wp_ifne rfl rfl
theorem s114_9 : mm_wp d 114 9 ls st h Q ↔ mm_wp d 114 10 ls (.int (1 : Int32) :: st) h Q := wp_iconst rfl rfl
theorem s114_10 : mm_wp d 114 10 ls st h Q ↔ mm_wp d 114 27 ls st h Q := wp_goto rfl rfl
theorem s114_13 : mm_wp d 114 13 [l0, l1, .int x, l3] st h Q ↔ mm_wp d 114 14 [l0, l1, .int x, l3] (.int x :: st) h Q := wp_iload_n rfl rfl
theorem s114_14 : mm_wp d 114 14 ls st h Q ↔ mm_wp d 114 15 ls (.int (0 : Int32) :: st) h Q := wp_iconst rfl rfl
theorem s114_15 : mm_wp d 114 15 ls st h Q ↔ mm_wp d 114 16 ls (.int (3 : Int32) :: st) h Q := wp_iconst rfl rfl
theorem s114_16 : mm_wp (d + 1) 114 16 ls [.int x3, .int x2, .int x, t0] h Q ↔ mm_wp d 112 0 [.int x, .int x2, .int x3] [] h (mm_bk (d + 1) 114 16 ls [t0] Q) := wp_static rfl rfl ⟨by decide, rfl⟩ ⟨Nat.le_of_ble_eq_true rfl, Nat.le_of_ble_eq_true rfl⟩ rfl rfl rfl rfl
theorem s114_19 : mm_wp d 114 19 ls (.int x :: st) h Q ↔ if x = 0 then mm_wp d 114 26 ls st h Q else mm_wp d 114 22 ls st h Q := wp_ifeq rfl rfl
theorem s114_22 : mm_wp d 114 22 ls st h Q ↔ mm_wp d 114 23 ls (.int (0 : Int32) :: st) h Q := wp_iconst rfl rfl
theorem s114_23 : mm_wp d 114 23 ls st h Q ↔ mm_wp d 114 27 ls st h Q := wp_goto rfl rfl
theorem s114_26 : mm_wp d 114 26 ls st h Q ↔ mm_wp d 114 27 ls (.int (2 : Int32) :: st) h Q := wp_iconst rfl rfl
theorem s114_27 : mm_wp d 114 27 ls (.int x :: .ref a :: st) h Q ↔ (mm_s h a).1 = 10 ∧ mm_wp d 114 30 ls st (mm_pi h a 0 x) Q := wp_putI rfl rfl
theorem s114_30 : mm_wp d 114 30 [.ref a, l1, l2, l3] st h Q ↔ mm_wp d 114 31 [.ref a, l1, l2, l3] (.ref a :: st) h Q := wp_aloadR_n rfl rfl
theorem s114_31 : mm_wp d 114 31 ls (.ref a :: st) h Q ↔ (mm_s h a).1 = 10 ∧ mm_wp d 114 34 ls (.int (mm_i h a 0) :: st) h Q := wp_getI rfl rfl (by decide) (by decide)
theorem s114_34 : mm_wp d 114 34 ls (.int x :: st) h Q ↔ if x ≤ 0 then mm_wp d 114 39 ls st h Q else mm_wp d 114 37 ls st h Q := wp_ifle rfl rfl
theorem s114_37 : mm_wp d 114 37 ls st h Q ↔ mm_wp d 114 38 ls (.int (0 : Int32) :: st) h Q := wp_iconst rfl rfl
theorem s114_38 : mm_wp d 114 38 ls (.int x :: st) h Q ↔ Q (.inl (some (.int x))) h := wp_iret rfl rfl
theorem s114_39 : mm_wp d 114 39 [.ref a, l1, l2, l3] st h Q ↔ mm_wp d 114 40 [.ref a, l1, l2, l3] (.ref a :: st) h Q := wp_aloadR_n rfl rfl
theorem s114_40 : mm_wp d 114 40 ls (.ref a :: st) h Q ↔ (mm_s h a).1 = 10 ∧ mm_wp d 114 43 ls (mm_o (mm_r h a 5) :: st) h Q := wp_getR rfl rfl
theorem s114_43 : mm_wp d 114 43 [l0, .int x, l2, l3] st h Q ↔ mm_wp d 114 44 [l0, .int x, l2, l3] (.int x :: st) h Q := wp_iload_n rfl rfl
theorem s114_44 : mm_wp d 114 44 ls (.int x :: .ref a :: st) h Q ↔ ((mm_s h a).1 = 20 ∧ mm_in x (mm_s h a).2 = true) ∧ mm_wp d 114 45 ls (.int (mm_i h a x.toNatClampNeg) :: st) h Q := wp_iaload rfl
theorem s114_45 : mm_wp d 114 45 [l0, l1, l2, l3] (.int x :: st) h Q ↔ mm_wp d 114 46 [l0, l1, l2, .int x] st h Q := wp_istore_n rfl rfl
theorem s114_46 : mm_wp d 114 46 [.ref a, l1, l2, l3] st h Q ↔ mm_wp d 114 47 [.ref a, l1, l2, l3] (.ref a :: st) h Q := wp_aloadR_n rfl rfl
theorem s114_47 : mm_wp d 114 47 ls (.ref a :: st) h Q ↔ (mm_s h a).1 = 10 ∧ mm_wp d 114 50 ls (mm_o (mm_r h a 5) :: st) h Q := wp_getR rfl rfl
theorem s114_50 : mm_wp d 114 50 [l0, .int x, l2, l3] st h Q ↔ mm_wp d 114 51 [l0, .int x, l2, l3] (.int x :: st) h Q := wp_iload_n rfl rfl
theorem s114_51 : mm_wp d 114 51 [l0, l1, .int x, l3] st h Q ↔ mm_wp d 114 52 [l0, l1, .int x, l3] (.int x :: st) h Q := wp_iload_n rfl rfl
theorem s114_52 : mm_wp d 114 52 ls (.int x2 :: .int x :: .ref a :: st) h Q ↔ ((mm_s h a).1 = 20 ∧ ¬ a = 0 ∧ mm_in x (mm_s h a).2 = true) ∧ mm_wp d 114 53 ls st (mm_pi h a x.toNatClampNeg x2) Q := wp_iastore rfl
theorem s114_53 : mm_wp d 114 53 [.ref a, l1, l2, l3] st h Q ↔ mm_wp d 114 54 [.ref a, l1, l2, l3] (.ref a :: st) h Q := wp_aloadR_n rfl rfl
theorem s114_54 : mm_wp (d + 1) 114 54 ls [.ref a] h Q ↔ (mm_s h a).1 = 10 ∧ mm_wp d 113 0 [.ref a] [] h (mm_bk (d + 1) 114 54 ls [] Q) := wp_virtual rfl rfl ⟨by decide, rfl⟩ ⟨Nat.le_of_ble_eq_true rfl, Nat.le_of_ble_eq_true rfl⟩ rfl rfl rfl rfl rfl rfl
theorem s114_57 : mm_wp d 114 57 [l0, l1, l2, .int x] st h Q ↔ mm_wp d 114 58 [l0, l1, l2, .int x] (.int x :: st) h Q := wp_iload_n rfl rfl
theorem s114_58 : mm_wp d 114 58 ls (.int x :: st) h Q ↔ Q (.inl (some (.int x))) h := wp_iret rfl rfl
/-! 115: LoadRoomModel.isPiece(I)Z -/
theorem s115_0 : mm_wp d 115 0 [l0, .int x] st h Q ↔ mm_wp d 115 1 [l0, .int x] (.int x :: st) h Q := wp_iload_n rfl rfl
theorem s115_1 : mm_wp d 115 1 ls st h Q ↔ mm_wp d 115 2 ls (.int (0 : Int32) :: st) h Q := wp_iconst rfl rfl
theorem s115_2 : mm_wp d 115 2 [.ref a, l1] st h Q ↔ mm_wp d 115 3 [.ref a, l1] (.ref a :: st) h Q := wp_aloadR_n rfl rfl
theorem s115_3 : mm_wp d 115 3 ls (.ref a :: st) h Q ↔ (mm_s h a).1 = 10 ∧ mm_wp d 115 6 ls (.int (mm_i h a 2) :: st) h Q := wp_getI rfl rfl (by decide) (by decide)
theorem s115_6 : mm_wp d 115 6 ls st h Q ↔ mm_wp d 115 7 ls (.int (1 : Int32) :: st) h Q := wp_iconst rfl rfl
theorem s115_7 : mm_wp d 115 7 ls (.int x2 :: .int x :: st) h Q ↔ mm_wp d 115 8 ls (.int (x - x2) :: st) h Q := wp_isub rfl
theorem s115_8 : mm_wp (d + 1) 115 8 ls [.int x3, .int x2, .int x] h Q ↔ mm_wp d 112 0 [.int x, .int x2, .int x3] [] h (mm_bk (d + 1) 115 8 ls [] Q) := wp_static rfl rfl ⟨by decide, rfl⟩ ⟨Nat.le_of_ble_eq_true rfl, Nat.le_of_ble_eq_true rfl⟩ rfl rfl rfl rfl
theorem s115_11 : mm_wp d 115 11 ls (.int x :: st) h Q ↔ (x = 0 ∨ x = 1) ∧ Q (.inl (some (.int x))) h := wp_zret rfl rfl
/-! 116: LoadRoomModel.order(II)I -/
theorem s116_0 : mm_wp d 116 0 [.ref a, l1, l2, l3] st h Q ↔ mm_wp d 116 1 [.ref a, l1, l2, l3] (.ref a :: st) h Q := wp_aloadR_n rfl rfl
theorem s116_1 : mm_wp d 116 1 [.ref a, l1, l2, l3] st h Q ↔ mm_wp d 116 2 [.ref a, l1, l2, l3] (.ref a :: st) h Q := wp_aloadR_n rfl rfl
theorem s116_2 : mm_wp d 116 2 [l0, .int x, l2, l3] st h Q ↔ mm_wp d 116 3 [l0, .int x, l2, l3] (.int x :: st) h Q := wp_iload_n rfl rfl
theorem s116_3 : mm_wp (d + 1) 116 3 ls [.int x2, .ref a, t0] h Q ↔ (mm_s h a).1 = 10 ∧ mm_wp d 115 0 [.ref a, .int x2] [] h (mm_bk (d + 1) 116 3 ls [t0] Q) := wp_virtual rfl rfl ⟨by decide, rfl⟩ ⟨Nat.le_of_ble_eq_true rfl, Nat.le_of_ble_eq_true rfl⟩ rfl rfl rfl rfl rfl rfl
theorem s116_6 : mm_wp d 116 6 ls (.int x :: st) h Q ↔ if x = 0 then mm_wp d 116 9 ls st h Q else mm_wp d 116 13 ls st h Q := wp_ifne rfl rfl
theorem s116_9 : mm_wp d 116 9 ls st h Q ↔ mm_wp d 116 10 ls (.int (1 : Int32) :: st) h Q := wp_iconst rfl rfl
theorem s116_10 : mm_wp d 116 10 ls st h Q ↔ mm_wp d 116 28 ls st h Q := wp_goto rfl rfl
theorem s116_13 : mm_wp d 116 13 [l0, l1, .int x, l3] st h Q ↔ mm_wp d 116 14 [l0, l1, .int x, l3] (.int x :: st) h Q := wp_iload_n rfl rfl
theorem s116_14 : mm_wp d 116 14 ls st h Q ↔ mm_wp d 116 15 ls (.int (0 : Int32) :: st) h Q := wp_iconst rfl rfl
theorem s116_15 : mm_wp d 116 15 ls st h Q ↔ mm_wp d 116 17 ls (.int (9 : Int32) :: st) h Q := wp_bipush rfl rfl
theorem s116_17 : mm_wp (d + 1) 116 17 ls [.int x3, .int x2, .int x, t0] h Q ↔ mm_wp d 112 0 [.int x, .int x2, .int x3] [] h (mm_bk (d + 1) 116 17 ls [t0] Q) := wp_static rfl rfl ⟨by decide, rfl⟩ ⟨Nat.le_of_ble_eq_true rfl, Nat.le_of_ble_eq_true rfl⟩ rfl rfl rfl rfl
theorem s116_20 : mm_wp d 116 20 ls (.int x :: st) h Q ↔ if x = 0 then mm_wp d 116 27 ls st h Q else mm_wp d 116 23 ls st h Q := wp_ifeq rfl rfl
theorem s116_23 : mm_wp d 116 23 ls st h Q ↔ mm_wp d 116 24 ls (.int (0 : Int32) :: st) h Q := wp_iconst rfl rfl
theorem s116_24 : mm_wp d 116 24 ls st h Q ↔ mm_wp d 116 28 ls st h Q := wp_goto rfl rfl
theorem s116_27 : mm_wp d 116 27 ls st h Q ↔ mm_wp d 116 28 ls (.int (2 : Int32) :: st) h Q := wp_iconst rfl rfl
theorem s116_28 : mm_wp d 116 28 ls (.int x :: .ref a :: st) h Q ↔ (mm_s h a).1 = 10 ∧ mm_wp d 116 31 ls st (mm_pi h a 0 x) Q := wp_putI rfl rfl
theorem s116_31 : mm_wp d 116 31 [.ref a, l1, l2, l3] st h Q ↔ mm_wp d 116 32 [.ref a, l1, l2, l3] (.ref a :: st) h Q := wp_aloadR_n rfl rfl
theorem s116_32 : mm_wp d 116 32 ls (.ref a :: st) h Q ↔ (mm_s h a).1 = 10 ∧ mm_wp d 116 35 ls (.int (mm_i h a 0) :: st) h Q := wp_getI rfl rfl (by decide) (by decide)
theorem s116_35 : mm_wp d 116 35 ls (.int x :: st) h Q ↔ if x ≤ 0 then mm_wp d 116 40 ls st h Q else mm_wp d 116 38 ls st h Q := wp_ifle rfl rfl
theorem s116_38 : mm_wp d 116 38 ls st h Q ↔ mm_wp d 116 39 ls (.int (0 : Int32) :: st) h Q := wp_iconst rfl rfl
theorem s116_39 : mm_wp d 116 39 ls (.int x :: st) h Q ↔ Q (.inl (some (.int x))) h := wp_iret rfl rfl
theorem s116_40 : mm_wp d 116 40 [.ref a, l1, l2, l3] st h Q ↔ mm_wp d 116 41 [.ref a, l1, l2, l3] (.ref a :: st) h Q := wp_aloadR_n rfl rfl
theorem s116_41 : mm_wp d 116 41 ls (.ref a :: st) h Q ↔ (mm_s h a).1 = 10 ∧ mm_wp d 116 44 ls (mm_o (mm_r h a 6) :: st) h Q := wp_getR rfl rfl
theorem s116_44 : mm_wp d 116 44 [l0, .int x, l2, l3] st h Q ↔ mm_wp d 116 45 [l0, .int x, l2, l3] (.int x :: st) h Q := wp_iload_n rfl rfl
theorem s116_45 : mm_wp d 116 45 ls (.int x :: .ref a :: st) h Q ↔ ((mm_s h a).1 = 20 ∧ mm_in x (mm_s h a).2 = true) ∧ mm_wp d 116 46 ls (.int (mm_i h a x.toNatClampNeg) :: st) h Q := wp_iaload rfl
theorem s116_46 : mm_wp d 116 46 [l0, l1, l2, l3] (.int x :: st) h Q ↔ mm_wp d 116 47 [l0, l1, l2, .int x] st h Q := wp_istore_n rfl rfl
theorem s116_47 : mm_wp d 116 47 [.ref a, l1, l2, l3] st h Q ↔ mm_wp d 116 48 [.ref a, l1, l2, l3] (.ref a :: st) h Q := wp_aloadR_n rfl rfl
theorem s116_48 : mm_wp d 116 48 ls (.ref a :: st) h Q ↔ (mm_s h a).1 = 10 ∧ mm_wp d 116 51 ls (mm_o (mm_r h a 6) :: st) h Q := wp_getR rfl rfl
theorem s116_51 : mm_wp d 116 51 [l0, .int x, l2, l3] st h Q ↔ mm_wp d 116 52 [l0, .int x, l2, l3] (.int x :: st) h Q := wp_iload_n rfl rfl
theorem s116_52 : mm_wp d 116 52 [l0, l1, .int x, l3] st h Q ↔ mm_wp d 116 53 [l0, l1, .int x, l3] (.int x :: st) h Q := wp_iload_n rfl rfl
theorem s116_53 : mm_wp d 116 53 ls (.int x2 :: .int x :: .ref a :: st) h Q ↔ ((mm_s h a).1 = 20 ∧ ¬ a = 0 ∧ mm_in x (mm_s h a).2 = true) ∧ mm_wp d 116 54 ls st (mm_pi h a x.toNatClampNeg x2) Q := wp_iastore rfl
theorem s116_54 : mm_wp d 116 54 [.ref a, l1, l2, l3] st h Q ↔ mm_wp d 116 55 [.ref a, l1, l2, l3] (.ref a :: st) h Q := wp_aloadR_n rfl rfl
theorem s116_55 : mm_wp (d + 1) 116 55 ls [.ref a] h Q ↔ (mm_s h a).1 = 10 ∧ mm_wp d 113 0 [.ref a] [] h (mm_bk (d + 1) 116 55 ls [] Q) := wp_virtual rfl rfl ⟨by decide, rfl⟩ ⟨Nat.le_of_ble_eq_true rfl, Nat.le_of_ble_eq_true rfl⟩ rfl rfl rfl rfl rfl rfl
theorem s116_58 : mm_wp d 116 58 [l0, l1, l2, .int x] st h Q ↔ mm_wp d 116 59 [l0, l1, l2, .int x] (.int x :: st) h Q := wp_iload_n rfl rfl
theorem s116_59 : mm_wp d 116 59 ls (.int x :: st) h Q ↔ Q (.inl (some (.int x))) h := wp_iret rfl rfl
/-! 117: LoadRoomModel.limit(II)I -/
theorem s117_0 : mm_wp d 117 0 [.ref a, l1, l2, l3] st h Q ↔ mm_wp d 117 1 [.ref a, l1, l2, l3] (.ref a :: st) h Q := wp_aloadR_n rfl rfl
theorem s117_1 : mm_wp d 117 1 [.ref a, l1, l2, l3] st h Q ↔ mm_wp d 117 2 [.ref a, l1, l2, l3] (.ref a :: st) h Q := wp_aloadR_n rfl rfl
theorem s117_2 : mm_wp d 117 2 [l0, .int x, l2, l3] st h Q ↔ mm_wp d 117 3 [l0, .int x, l2, l3] (.int x :: st) h Q := wp_iload_n rfl rfl
theorem s117_3 : mm_wp (d + 1) 117 3 ls [.int x2, .ref a, t0] h Q ↔ (mm_s h a).1 = 10 ∧ mm_wp d 115 0 [.ref a, .int x2] [] h (mm_bk (d + 1) 117 3 ls [t0] Q) := wp_virtual rfl rfl ⟨by decide, rfl⟩ ⟨Nat.le_of_ble_eq_true rfl, Nat.le_of_ble_eq_true rfl⟩ rfl rfl rfl rfl rfl rfl
theorem s117_6 : mm_wp d 117 6 ls (.int x :: st) h Q ↔ if x = 0 then mm_wp d 117 9 ls st h Q else mm_wp d 117 13 ls st h Q := wp_ifne rfl rfl
theorem s117_9 : mm_wp d 117 9 ls st h Q ↔ mm_wp d 117 10 ls (.int (1 : Int32) :: st) h Q := wp_iconst rfl rfl
theorem s117_10 : mm_wp d 117 10 ls st h Q ↔ mm_wp d 117 28 ls st h Q := wp_goto rfl rfl
theorem s117_13 : mm_wp d 117 13 [l0, l1, .int x, l3] st h Q ↔ mm_wp d 117 14 [l0, l1, .int x, l3] (.int x :: st) h Q := wp_iload_n rfl rfl
theorem s117_14 : mm_wp d 117 14 ls st h Q ↔ mm_wp d 117 15 ls (.int (0 : Int32) :: st) h Q := wp_iconst rfl rfl
theorem s117_15 : mm_wp d 117 15 ls st h Q ↔ mm_wp d 117 17 ls (.int (100000 : Int32) :: st) h Q := wp_ldcI rfl rfl
theorem s117_17 : mm_wp (d + 1) 117 17 ls [.int x3, .int x2, .int x, t0] h Q ↔ mm_wp d 112 0 [.int x, .int x2, .int x3] [] h (mm_bk (d + 1) 117 17 ls [t0] Q) := wp_static rfl rfl ⟨by decide, rfl⟩ ⟨Nat.le_of_ble_eq_true rfl, Nat.le_of_ble_eq_true rfl⟩ rfl rfl rfl rfl
theorem s117_20 : mm_wp d 117 20 ls (.int x :: st) h Q ↔ if x = 0 then mm_wp d 117 27 ls st h Q else mm_wp d 117 23 ls st h Q := wp_ifeq rfl rfl
theorem s117_23 : mm_wp d 117 23 ls st h Q ↔ mm_wp d 117 24 ls (.int (0 : Int32) :: st) h Q := wp_iconst rfl rfl
theorem s117_24 : mm_wp d 117 24 ls st h Q ↔ mm_wp d 117 28 ls st h Q := wp_goto rfl rfl
theorem s117_27 : mm_wp d 117 27 ls st h Q ↔ mm_wp d 117 28 ls (.int (2 : Int32) :: st) h Q := wp_iconst rfl rfl
theorem s117_28 : mm_wp d 117 28 ls (.int x :: .ref a :: st) h Q ↔ (mm_s h a).1 = 10 ∧ mm_wp d 117 31 ls st (mm_pi h a 0 x) Q := wp_putI rfl rfl
theorem s117_31 : mm_wp d 117 31 [.ref a, l1, l2, l3] st h Q ↔ mm_wp d 117 32 [.ref a, l1, l2, l3] (.ref a :: st) h Q := wp_aloadR_n rfl rfl
theorem s117_32 : mm_wp d 117 32 ls (.ref a :: st) h Q ↔ (mm_s h a).1 = 10 ∧ mm_wp d 117 35 ls (.int (mm_i h a 0) :: st) h Q := wp_getI rfl rfl (by decide) (by decide)
theorem s117_35 : mm_wp d 117 35 ls (.int x :: st) h Q ↔ if x ≤ 0 then mm_wp d 117 40 ls st h Q else mm_wp d 117 38 ls st h Q := wp_ifle rfl rfl
theorem s117_38 : mm_wp d 117 38 ls st h Q ↔ mm_wp d 117 39 ls (.int (0 : Int32) :: st) h Q := wp_iconst rfl rfl
theorem s117_39 : mm_wp d 117 39 ls (.int x :: st) h Q ↔ Q (.inl (some (.int x))) h := wp_iret rfl rfl
theorem s117_40 : mm_wp d 117 40 [.ref a, l1, l2, l3] st h Q ↔ mm_wp d 117 41 [.ref a, l1, l2, l3] (.ref a :: st) h Q := wp_aloadR_n rfl rfl
theorem s117_41 : mm_wp d 117 41 ls (.ref a :: st) h Q ↔ (mm_s h a).1 = 10 ∧ mm_wp d 117 44 ls (mm_o (mm_r h a 7) :: st) h Q := wp_getR rfl rfl
theorem s117_44 : mm_wp d 117 44 [l0, .int x, l2, l3] st h Q ↔ mm_wp d 117 45 [l0, .int x, l2, l3] (.int x :: st) h Q := wp_iload_n rfl rfl
theorem s117_45 : mm_wp d 117 45 ls (.int x :: .ref a :: st) h Q ↔ ((mm_s h a).1 = 20 ∧ mm_in x (mm_s h a).2 = true) ∧ mm_wp d 117 46 ls (.int (mm_i h a x.toNatClampNeg) :: st) h Q := wp_iaload rfl
theorem s117_46 : mm_wp d 117 46 [l0, l1, l2, l3] (.int x :: st) h Q ↔ mm_wp d 117 47 [l0, l1, l2, .int x] st h Q := wp_istore_n rfl rfl
theorem s117_47 : mm_wp d 117 47 [.ref a, l1, l2, l3] st h Q ↔ mm_wp d 117 48 [.ref a, l1, l2, l3] (.ref a :: st) h Q := wp_aloadR_n rfl rfl
theorem s117_48 : mm_wp d 117 48 ls (.ref a :: st) h Q ↔ (mm_s h a).1 = 10 ∧ mm_wp d 117 51 ls (mm_o (mm_r h a 7) :: st) h Q := wp_getR rfl rfl
theorem s117_51 : mm_wp d 117 51 [l0, .int x, l2, l3] st h Q ↔ mm_wp d 117 52 [l0, .int x, l2, l3] (.int x :: st) h Q := wp_iload_n rfl rfl
theorem s117_52 : mm_wp d 117 52 [l0, l1, .int x, l3] st h Q ↔ mm_wp d 117 53 [l0, l1, .int x, l3] (.int x :: st) h Q := wp_iload_n rfl rfl
theorem s117_53 : mm_wp d 117 53 ls (.int x2 :: .int x :: .ref a :: st) h Q ↔ ((mm_s h a).1 = 20 ∧ ¬ a = 0 ∧ mm_in x (mm_s h a).2 = true) ∧ mm_wp d 117 54 ls st (mm_pi h a x.toNatClampNeg x2) Q := wp_iastore rfl
theorem s117_54 : mm_wp d 117 54 [.ref a, l1, l2, l3] st h Q ↔ mm_wp d 117 55 [.ref a, l1, l2, l3] (.ref a :: st) h Q := wp_aloadR_n rfl rfl
theorem s117_55 : mm_wp (d + 1) 117 55 ls [.ref a] h Q ↔ (mm_s h a).1 = 10 ∧ mm_wp d 113 0 [.ref a] [] h (mm_bk (d + 1) 117 55 ls [] Q) := wp_virtual rfl rfl ⟨by decide, rfl⟩ ⟨Nat.le_of_ble_eq_true rfl, Nat.le_of_ble_eq_true rfl⟩ rfl rfl rfl rfl rfl rfl
theorem s117_58 : mm_wp d 117 58 [l0, l1, l2, .int x] st h Q ↔ mm_wp d 117 59 [l0, l1, l2, .int x] (.int x :: st) h Q := wp_iload_n rfl rfl
theorem s117_59 : mm_wp d 117 59 ls (.int x :: st) h Q ↔ Q (.inl (some (.int x))) h := wp_iret rfl rfl
/-! 118: LoadRoomModel.fits(I)I -/
theorem s118_0 : mm_wp d 118 0 [.ref a, l1] st h Q ↔ mm_wp d 118 1 [.ref a, l1] (.ref a :: st) h Q := wp_aloadR_n rfl rfl
theorem s118_1 : mm_wp d 118 1 [.ref a, l1] st h Q ↔ mm_wp d 118 2 [.ref a, l1] (.ref a :: st) h Q := wp_aloadR_n rfl rfl
theorem s118_2 : mm_wp d 118 2 [l0, .int x] st h Q ↔ mm_wp d 118 3 [l0, .int x] (.int x :: st) h Q := wp_iload_n rfl rfl
theorem s118_3 : mm_wp (d + 1) 118 3 ls [.int x2, .ref a, t0] h Q ↔ (mm_s h a).1 = 10 ∧ mm_wp d 115 0 [.ref a, .int x2] [] h (mm_bk (d + 1) 118 3 ls [t0] Q) := wp_virtual rfl rfl ⟨by decide, rfl⟩ ⟨Nat.le_of_ble_eq_true rfl, Nat.le_of_ble_eq_true rfl⟩ rfl rfl rfl rfl rfl rfl
theorem s118_6 : mm_wp d 118 6 ls (.int x :: st) h Q ↔ if x = 0 then mm_wp d 118 13 ls st h Q else mm_wp d 118 9 ls st h Q := wp_ifeq rfl rfl
theorem s118_9 : mm_wp d 118 9 ls st h Q ↔ mm_wp d 118 10 ls (.int (0 : Int32) :: st) h Q := wp_iconst rfl rfl
theorem s118_10 : mm_wp d 118 10 ls st h Q ↔ mm_wp d 118 14 ls st h Q := wp_goto rfl rfl
theorem s118_13 : mm_wp d 118 13 ls st h Q ↔ mm_wp d 118 14 ls (.int (1 : Int32) :: st) h Q := wp_iconst rfl rfl
theorem s118_14 : mm_wp d 118 14 ls (.int x :: .ref a :: st) h Q ↔ (mm_s h a).1 = 10 ∧ mm_wp d 118 17 ls st (mm_pi h a 0 x) Q := wp_putI rfl rfl
theorem s118_17 : mm_wp d 118 17 [.ref a, l1] st h Q ↔ mm_wp d 118 18 [.ref a, l1] (.ref a :: st) h Q := wp_aloadR_n rfl rfl
theorem s118_18 : mm_wp d 118 18 ls (.ref a :: st) h Q ↔ (mm_s h a).1 = 10 ∧ mm_wp d 118 21 ls (.int (mm_i h a 0) :: st) h Q := wp_getI rfl rfl (by decide) (by decide)
theorem s118_21 : mm_wp d 118 21 ls (.int x :: st) h Q ↔ if x ≤ 0 then mm_wp d 118 28 ls st h Q else mm_wp d 118 24 ls st h Q := wp_ifle rfl rfl
theorem s118_24 : mm_wp d 118 24 ls st h Q ↔ mm_wp d 118 25 ls (.int (0 : Int32) :: st) h Q := wp_iconst rfl rfl
theorem s118_25 : mm_wp d 118 25 ls st h Q ↔ mm_wp d 118 33 ls st h Q := wp_goto rfl rfl
theorem s118_28 : mm_wp d 118 28 [.ref a, l1] st h Q ↔ mm_wp d 118 29 [.ref a, l1] (.ref a :: st) h Q := wp_aloadR_n rfl rfl
theorem s118_29 : mm_wp d 118 29 [l0, .int x] st h Q ↔ mm_wp d 118 30 [l0, .int x] (.int x :: st) h Q := wp_iload_n rfl rfl
theorem s118_30 : mm_wp (d + 1) 118 30 ls [.int x2, .ref a] h Q ↔ (mm_s h a).1 = 10 ∧ mm_wp d 119 0 [.ref a, .int x2, mm_j, mm_j] [] h (mm_bk (d + 1) 118 30 ls [] Q) := wp_virtual rfl rfl ⟨by decide, rfl⟩ ⟨Nat.le_of_ble_eq_true rfl, Nat.le_of_ble_eq_true rfl⟩ rfl rfl rfl rfl rfl rfl
theorem s118_33 : mm_wp d 118 33 ls (.int x :: st) h Q ↔ Q (.inl (some (.int x))) h := wp_iret rfl rfl
/-! 119: LoadRoomModel.fitting(I)I -/
theorem s119_0 : mm_wp d 119 0 ls st h Q ↔ mm_wp d 119 1 ls (.int (0 : Int32) :: st) h Q := wp_iconst rfl rfl
theorem s119_1 : mm_wp d 119 1 [l0, l1, l2, l3] (.int x :: st) h Q ↔ mm_wp d 119 2 [l0, l1, .int x, l3] st h Q := wp_istore_n rfl rfl
theorem s119_2 : mm_wp d 119 2 ls st h Q ↔ mm_wp d 119 3 ls (.int (0 : Int32) :: st) h Q := wp_iconst rfl rfl
theorem s119_3 : mm_wp d 119 3 [l0, l1, l2, l3] (.int x :: st) h Q ↔ mm_wp d 119 4 [l0, l1, l2, .int x] st h Q := wp_istore_n rfl rfl
theorem s119_4 : mm_wp d 119 4 [l0, l1, l2, .int x] st h Q ↔ mm_wp d 119 5 [l0, l1, l2, .int x] (.int x :: st) h Q := wp_iload_n rfl rfl
theorem s119_5 : mm_wp d 119 5 ls st h Q ↔ mm_wp d 119 7 ls (.int (6 : Int32) :: st) h Q := wp_bipush rfl rfl
theorem s119_7 : mm_wp d 119 7 ls (.int x2 :: .int x :: st) h Q ↔ if x2 ≤ x then mm_wp d 119 33 ls st h Q else mm_wp d 119 10 ls st h Q := wp_icmpge rfl rfl
theorem s119_10 : mm_wp d 119 10 [l0, l1, .int x, l3] st h Q ↔ mm_wp d 119 11 [l0, l1, .int x, l3] (.int x :: st) h Q := wp_iload_n rfl rfl
theorem s119_11 : mm_wp d 119 11 [.ref a, l1, l2, l3] st h Q ↔ mm_wp d 119 12 [.ref a, l1, l2, l3] (.ref a :: st) h Q := wp_aloadR_n rfl rfl
theorem s119_12 : mm_wp d 119 12 [l0, .int x, l2, l3] st h Q ↔ mm_wp d 119 13 [l0, .int x, l2, l3] (.int x :: st) h Q := wp_iload_n rfl rfl
theorem s119_13 : mm_wp d 119 13 [l0, l1, l2, .int x] st h Q ↔ mm_wp d 119 14 [l0, l1, l2, .int x] (.int x :: st) h Q := wp_iload_n rfl rfl
theorem s119_14 : mm_wp (d + 1) 119 14 ls [.int x3, .int x2, .ref a, t0] h Q ↔ (mm_s h a).1 = 10 ∧ mm_wp d 120 0 [.ref a, .int x2, .int x3, mm_j, mm_j] [] h (mm_bk (d + 1) 119 14 ls [t0] Q) := wp_virtual rfl rfl ⟨by decide, rfl⟩ ⟨Nat.le_of_ble_eq_true rfl, Nat.le_of_ble_eq_true rfl⟩ rfl rfl rfl rfl rfl rfl
theorem s119_17 : mm_wp d 119 17 ls (.int x :: st) h Q ↔ if x = 0 then mm_wp d 119 24 ls st h Q else mm_wp d 119 20 ls st h Q := wp_ifeq rfl rfl
theorem s119_20 : mm_wp d 119 20 ls st h Q ↔ mm_wp d 119 21 ls (.int (1 : Int32) :: st) h Q := wp_iconst rfl rfl
theorem s119_21 : mm_wp d 119 21 ls st h Q ↔ mm_wp d 119 25 ls st h Q := wp_goto rfl rfl
theorem s119_24 : mm_wp d 119 24 ls st h Q ↔ mm_wp d 119 25 ls (.int (0 : Int32) :: st) h Q := wp_iconst rfl rfl
theorem s119_25 : mm_wp d 119 25 ls (.int x2 :: .int x :: st) h Q ↔ mm_wp d 119 26 ls (.int (x + x2) :: st) h Q := wp_iadd rfl
theorem s119_26 : mm_wp d 119 26 [l0, l1, l2, l3] (.int x :: st) h Q ↔ mm_wp d 119 27 [l0, l1, .int x, l3] st h Q := wp_istore_n rfl rfl
theorem s119_27 : mm_wp d 119 27 [l0, l1, l2, .int x] st h Q ↔ mm_wp d 119 30 [l0, l1, l2, .int (x + (1 : Int32))] st h Q := wp_iinc rfl rfl rfl rfl
theorem s119_30 : mm_wp d 119 30 ls st h Q ↔ mm_wp d 119 4 ls st h Q := wp_goto rfl rfl
theorem s119_33 : mm_wp d 119 33 [l0, l1, .int x, l3] st h Q ↔ mm_wp d 119 34 [l0, l1, .int x, l3] (.int x :: st) h Q := wp_iload_n rfl rfl
theorem s119_34 : mm_wp d 119 34 ls (.int x :: st) h Q ↔ Q (.inl (some (.int x))) h := wp_iret rfl rfl
/-! 120: LoadRoomModel.turnFits(II)Z -/
theorem s120_0 : mm_wp d 120 0 [.ref a, l1, l2, l3, l4] st h Q ↔ mm_wp d 120 1 [.ref a, l1, l2, l3, l4] (.ref a :: st) h Q := wp_aloadR_n rfl rfl
theorem s120_1 : mm_wp d 120 1 [l0, .int x, l2, l3, l4] st h Q ↔ mm_wp d 120 2 [l0, .int x, l2, l3, l4] (.int x :: st) h Q := wp_iload_n rfl rfl
theorem s120_2 : mm_wp d 120 2 [l0, l1, .int x, l3, l4] st h Q ↔ mm_wp d 120 3 [l0, l1, .int x, l3, l4] (.int x :: st) h Q := wp_iload_n rfl rfl
theorem s120_3 : mm_wp (d + 1) 120 3 ls [.int x3, .int x2, .ref a] h Q ↔ (mm_s h a).1 = 10 ∧ mm_wp d 121 0 [.ref a, .int x2, .int x3] [] h (mm_bk (d + 1) 120 3 ls [] Q) := wp_virtual rfl rfl ⟨by decide, rfl⟩ ⟨Nat.le_of_ble_eq_true rfl, Nat.le_of_ble_eq_true rfl⟩ rfl rfl rfl rfl rfl rfl
theorem s120_6 : mm_wp d 120 6 [l0, l1, l2, l3, l4] (.int x :: st) h Q ↔ mm_wp d 120 7 [l0, l1, l2, .int x, l4] st h Q := wp_istore_n rfl rfl
theorem s120_7 : mm_wp d 120 7 ls st h Q ↔ mm_wp d 120 8 ls (.int (0 : Int32) :: st) h Q := wp_iconst rfl rfl
theorem s120_8 : mm_wp d 120 8 [l0, l1, l2, l3, l4] (.int x :: st) h Q ↔ mm_wp d 120 10 [l0, l1, l2, l3, .int x] st h Q := wp_istore rfl rfl
theorem s120_10 : mm_wp d 120 10 [l0, l1, l2, l3, .int x] st h Q ↔ mm_wp d 120 12 [l0, l1, l2, l3, .int x] (.int x :: st) h Q := wp_iload rfl rfl
theorem s120_12 : mm_wp d 120 12 [l0, l1, .int x, l3, l4] st h Q ↔ mm_wp d 120 13 [l0, l1, .int x, l3, l4] (.int x :: st) h Q := wp_iload_n rfl rfl
theorem s120_13 : mm_wp d 120 13 ls (.int x2 :: .int x :: st) h Q ↔ if x2 ≤ x then mm_wp d 120 53 ls st h Q else mm_wp d 120 16 ls st h Q := wp_icmpge rfl rfl
theorem s120_16 : mm_wp d 120 16 [l0, l1, l2, .int x, l4] st h Q ↔ mm_wp d 120 17 [l0, l1, l2, .int x, l4] (.int x :: st) h Q := wp_iload_n rfl rfl
theorem s120_17 : mm_wp d 120 17 ls (.int x :: st) h Q ↔ if x = 0 then mm_wp d 120 45 ls st h Q else mm_wp d 120 20 ls st h Q := wp_ifeq rfl rfl
theorem s120_20 : mm_wp d 120 20 [.ref a, l1, l2, l3, l4] st h Q ↔ mm_wp d 120 21 [.ref a, l1, l2, l3, l4] (.ref a :: st) h Q := wp_aloadR_n rfl rfl
theorem s120_21 : mm_wp d 120 21 [l0, .int x, l2, l3, l4] st h Q ↔ mm_wp d 120 22 [l0, .int x, l2, l3, l4] (.int x :: st) h Q := wp_iload_n rfl rfl
theorem s120_22 : mm_wp d 120 22 [l0, l1, l2, l3, .int x] st h Q ↔ mm_wp d 120 24 [l0, l1, l2, l3, .int x] (.int x :: st) h Q := wp_iload rfl rfl
theorem s120_24 : mm_wp (d + 1) 120 24 ls [.int x3, .int x2, .ref a] h Q ↔ (mm_s h a).1 = 10 ∧ mm_wp d 121 0 [.ref a, .int x2, .int x3] [] h (mm_bk (d + 1) 120 24 ls [] Q) := wp_virtual rfl rfl ⟨by decide, rfl⟩ ⟨Nat.le_of_ble_eq_true rfl, Nat.le_of_ble_eq_true rfl⟩ rfl rfl rfl rfl rfl rfl
theorem s120_27 : mm_wp d 120 27 ls (.int x :: st) h Q ↔ if x = 0 then mm_wp d 120 41 ls st h Q else mm_wp d 120 30 ls st h Q := wp_ifeq rfl rfl
theorem s120_30 : mm_wp d 120 30 [.ref a, l1, l2, l3, l4] st h Q ↔ mm_wp d 120 31 [.ref a, l1, l2, l3, l4] (.ref a :: st) h Q := wp_aloadR_n rfl rfl
theorem s120_31 : mm_wp d 120 31 [l0, .int x, l2, l3, l4] st h Q ↔ mm_wp d 120 32 [l0, .int x, l2, l3, l4] (.int x :: st) h Q := wp_iload_n rfl rfl
theorem s120_32 : mm_wp d 120 32 [l0, l1, .int x, l3, l4] st h Q ↔ mm_wp d 120 33 [l0, l1, .int x, l3, l4] (.int x :: st) h Q := wp_iload_n rfl rfl
theorem s120_33 : mm_wp d 120 33 [l0, l1, l2, l3, .int x] st h Q ↔ mm_wp d 120 35 [l0, l1, l2, l3, .int x] (.int x :: st) h Q := wp_iload rfl rfl
theorem s120_35 : mm_wp (d + 1) 120 35 ls [.int x4, .int x3, .int x2, .ref a] h Q ↔ (mm_s h a).1 = 10 ∧ mm_wp d 122 0 [.ref a, .int x2, .int x3, .int x4, mm_j, mm_j] [] h (mm_bk (d + 1) 120 35 ls [] Q) := wp_virtual rfl rfl ⟨by decide, rfl⟩ ⟨Nat.le_of_ble_eq_true rfl, Nat.le_of_ble_eq_true rfl⟩ rfl rfl rfl rfl rfl rfl
theorem s120_38 : mm_wp d 120 38 ls (.int x :: st) h Q ↔ if x = 0 then mm_wp d 120 41 ls st h Q else mm_wp d 120 45 ls st h Q := wp_ifne rfl rfl
theorem s120_41 : mm_wp d 120 41 ls st h Q ↔ mm_wp d 120 42 ls (.int (1 : Int32) :: st) h Q := wp_iconst rfl rfl
theorem s120_42 : mm_wp d 120 42 ls st h Q ↔ mm_wp d 120 46 ls st h Q := wp_goto rfl rfl
theorem s120_45 : mm_wp d 120 45 ls st h Q ↔ mm_wp d 120 46 ls (.int (0 : Int32) :: st) h Q := wp_iconst rfl rfl
theorem s120_46 : mm_wp d 120 46 [l0, l1, l2, l3, l4] (.int x :: st) h Q ↔ mm_wp d 120 47 [l0, l1, l2, .int x, l4] st h Q := wp_istore_n rfl rfl
theorem s120_47 : mm_wp d 120 47 [l0, l1, l2, l3, .int x] st h Q ↔ mm_wp d 120 50 [l0, l1, l2, l3, .int (x + (1 : Int32))] st h Q := wp_iinc rfl rfl rfl rfl
theorem s120_50 : mm_wp d 120 50 ls st h Q ↔ mm_wp d 120 10 ls st h Q := wp_goto rfl rfl
theorem s120_53 : mm_wp d 120 53 ls st h Q ↔ mm_wp d 120 54 ls (.int (0 : Int32) :: st) h Q := wp_iconst rfl rfl
theorem s120_54 : mm_wp d 120 54 [l0, l1, l2, l3, l4] (.int x :: st) h Q ↔ mm_wp d 120 56 [l0, l1, l2, l3, .int x] st h Q := wp_istore rfl rfl
theorem s120_56 : mm_wp d 120 56 [l0, l1, l2, l3, .int x] st h Q ↔ mm_wp d 120 58 [l0, l1, l2, l3, .int x] (.int x :: st) h Q := wp_iload rfl rfl
theorem s120_58 : mm_wp d 120 58 ls st h Q ↔ mm_wp d 120 59 ls (.int (3 : Int32) :: st) h Q := wp_iconst rfl rfl
theorem s120_59 : mm_wp d 120 59 ls (.int x2 :: .int x :: st) h Q ↔ if x2 ≤ x then mm_wp d 120 117 ls st h Q else mm_wp d 120 62 ls st h Q := wp_icmpge rfl rfl
theorem s120_62 : mm_wp d 120 62 [.ref a, l1, l2, l3, l4] st h Q ↔ mm_wp d 120 63 [.ref a, l1, l2, l3, l4] (.ref a :: st) h Q := wp_aloadR_n rfl rfl
theorem s120_63 : mm_wp d 120 63 ls (.ref a :: st) h Q ↔ (mm_s h a).1 = 10 ∧ mm_wp d 120 66 ls (mm_o (mm_r h a 33) :: st) h Q := wp_getR rfl rfl
theorem s120_66 : mm_wp d 120 66 [l0, l1, l2, l3, .int x] st h Q ↔ mm_wp d 120 68 [l0, l1, l2, l3, .int x] (.int x :: st) h Q := wp_iload rfl rfl
theorem s120_68 : mm_wp d 120 68 [.ref a, l1, l2, l3, l4] st h Q ↔ mm_wp d 120 69 [.ref a, l1, l2, l3, l4] (.ref a :: st) h Q := wp_aloadR_n rfl rfl
theorem s120_69 : mm_wp d 120 69 ls (.ref a :: st) h Q ↔ (mm_s h a).1 = 10 ∧ mm_wp d 120 72 ls (mm_o (mm_r h a 3) :: st) h Q := wp_getR rfl rfl
theorem s120_72 : mm_wp d 120 72 ls st h Q ↔ mm_wp d 120 73 ls (.int (3 : Int32) :: st) h Q := wp_iconst rfl rfl
theorem s120_73 : mm_wp d 120 73 [l0, .int x, l2, l3, l4] st h Q ↔ mm_wp d 120 74 [l0, .int x, l2, l3, l4] (.int x :: st) h Q := wp_iload_n rfl rfl
theorem s120_74 : mm_wp d 120 74 ls (.int x2 :: .int x :: st) h Q ↔ mm_wp d 120 75 ls (.int (x * x2) :: st) h Q := wp_imul rfl
theorem s120_75 : mm_wp d 120 75 [l0, l1, .int x, l3, l4] st h Q ↔ mm_wp d 120 76 [l0, l1, .int x, l3, l4] (.int x :: st) h Q := wp_iload_n rfl rfl
theorem s120_76 : mm_wp d 120 76 [l0, l1, l2, l3, .int x] st h Q ↔ mm_wp d 120 78 [l0, l1, l2, l3, .int x] (.int x :: st) h Q := wp_iload rfl rfl
theorem s120_78 : mm_wp (d + 1) 120 78 ls [.int x2, .int x, t3, t2, t1, t0] h Q ↔ mm_wp d 123 0 [.int x, .int x2] [] h (mm_bk (d + 1) 120 78 ls [t3, t2, t1, t0] Q) := wp_static rfl rfl ⟨by decide, rfl⟩ ⟨Nat.le_of_ble_eq_true rfl, Nat.le_of_ble_eq_true rfl⟩ rfl rfl rfl rfl
theorem s120_81 : mm_wp d 120 81 ls (.int x2 :: .int x :: st) h Q ↔ mm_wp d 120 82 ls (.int (x + x2) :: st) h Q := wp_iadd rfl
theorem s120_82 : mm_wp d 120 82 ls (.int x :: .ref a :: st) h Q ↔ ((mm_s h a).1 = 20 ∧ mm_in x (mm_s h a).2 = true) ∧ mm_wp d 120 83 ls (.int (mm_i h a x.toNatClampNeg) :: st) h Q := wp_iaload rfl
theorem s120_83 : mm_wp d 120 83 ls (.int x2 :: .int x :: .ref a :: st) h Q ↔ ((mm_s h a).1 = 20 ∧ ¬ a = 0 ∧ mm_in x (mm_s h a).2 = true) ∧ mm_wp d 120 84 ls st (mm_pi h a x.toNatClampNeg x2) Q := wp_iastore rfl
theorem s120_84 : mm_wp d 120 84 [l0, l1, l2, .int x, l4] st h Q ↔ mm_wp d 120 85 [l0, l1, l2, .int x, l4] (.int x :: st) h Q := wp_iload_n rfl rfl
theorem s120_85 : mm_wp d 120 85 ls (.int x :: st) h Q ↔ if x = 0 then mm_wp d 120 109 ls st h Q else mm_wp d 120 88 ls st h Q := wp_ifeq rfl rfl
theorem s120_88 : mm_wp d 120 88 [.ref a, l1, l2, l3, l4] st h Q ↔ mm_wp d 120 89 [.ref a, l1, l2, l3, l4] (.ref a :: st) h Q := wp_aloadR_n rfl rfl
theorem s120_89 : mm_wp d 120 89 ls (.ref a :: st) h Q ↔ (mm_s h a).1 = 10 ∧ mm_wp d 120 92 ls (mm_o (mm_r h a 33) :: st) h Q := wp_getR rfl rfl
theorem s120_92 : mm_wp d 120 92 [l0, l1, l2, l3, .int x] st h Q ↔ mm_wp d 120 94 [l0, l1, l2, l3, .int x] (.int x :: st) h Q := wp_iload rfl rfl
theorem s120_94 : mm_wp d 120 94 ls (.int x :: .ref a :: st) h Q ↔ ((mm_s h a).1 = 20 ∧ mm_in x (mm_s h a).2 = true) ∧ mm_wp d 120 95 ls (.int (mm_i h a x.toNatClampNeg) :: st) h Q := wp_iaload rfl
theorem s120_95 : mm_wp d 120 95 [.ref a, l1, l2, l3, l4] st h Q ↔ mm_wp d 120 96 [.ref a, l1, l2, l3, l4] (.ref a :: st) h Q := wp_aloadR_n rfl rfl
theorem s120_96 : mm_wp d 120 96 ls (.ref a :: st) h Q ↔ (mm_s h a).1 = 10 ∧ mm_wp d 120 99 ls (mm_o (mm_r h a 1) :: st) h Q := wp_getR rfl rfl
theorem s120_99 : mm_wp d 120 99 [l0, l1, l2, l3, .int x] st h Q ↔ mm_wp d 120 101 [l0, l1, l2, l3, .int x] (.int x :: st) h Q := wp_iload rfl rfl
theorem s120_101 : mm_wp d 120 101 ls (.int x :: .ref a :: st) h Q ↔ ((mm_s h a).1 = 20 ∧ mm_in x (mm_s h a).2 = true) ∧ mm_wp d 120 102 ls (.int (mm_i h a x.toNatClampNeg) :: st) h Q := wp_iaload rfl
theorem s120_102 : mm_wp d 120 102 ls (.int x2 :: .int x :: st) h Q ↔ if x2 < x then mm_wp d 120 109 ls st h Q else mm_wp d 120 105 ls st h Q := wp_icmpgt rfl rfl
theorem s120_105 : mm_wp d 120 105 ls st h Q ↔ mm_wp d 120 106 ls (.int (1 : Int32) :: st) h Q := wp_iconst rfl rfl
theorem s120_106 : mm_wp d 120 106 ls st h Q ↔ mm_wp d 120 110 ls st h Q := wp_goto rfl rfl
theorem s120_109 : mm_wp d 120 109 ls st h Q ↔ mm_wp d 120 110 ls (.int (0 : Int32) :: st) h Q := wp_iconst rfl rfl
theorem s120_110 : mm_wp d 120 110 [l0, l1, l2, l3, l4] (.int x :: st) h Q ↔ mm_wp d 120 111 [l0, l1, l2, .int x, l4] st h Q := wp_istore_n rfl rfl
theorem s120_111 : mm_wp d 120 111 [l0, l1, l2, l3, .int x] st h Q ↔ mm_wp d 120 114 [l0, l1, l2, l3, .int (x + (1 : Int32))] st h Q := wp_iinc rfl rfl rfl rfl
theorem s120_114 : mm_wp d 120 114 ls st h Q ↔ mm_wp d 120 56 ls st h Q := wp_goto rfl rfl
theorem s120_117 : mm_wp d 120 117 [l0, l1, l2, .int x, l4] st h Q ↔ mm_wp d 120 118 [l0, l1, l2, .int x, l4] (.int x :: st) h Q := wp_iload_n rfl rfl
theorem s120_118 : mm_wp d 120 118 ls (.int x :: st) h Q ↔ (x = 0 ∨ x = 1) ∧ Q (.inl (some (.int x))) h := wp_zret rfl rfl
/-! 121: LoadRoomModel.isAllowed(II)Z -/
theorem s121_0 : mm_wp d 121 0 [l0, l1, .int x] st h Q ↔ mm_wp d 121 1 [l0, l1, .int x] (.int x :: st) h Q := wp_iload_n rfl rfl
theorem s121_1 : mm_wp d 121 1 ls (.int x :: st) h Q ↔ if x = 0 then mm_wp d 121 34 ls st h Q else mm_wp d 121 4 ls st h Q := wp_ifeq rfl rfl
theorem s121_4 : mm_wp d 121 4 [l0, l1, .int x] st h Q ↔ mm_wp d 121 5 [l0, l1, .int x] (.int x :: st) h Q := wp_iload_n rfl rfl
theorem s121_5 : mm_wp d 121 5 ls st h Q ↔ mm_wp d 121 6 ls (.int (1 : Int32) :: st) h Q := wp_iconst rfl rfl
theorem s121_6 : mm_wp d 121 6 ls (.int x2 :: .int x :: st) h Q ↔ if x = x2 then mm_wp d 121 9 ls st h Q else mm_wp d 121 24 ls st h Q := wp_icmpne rfl rfl
theorem s121_9 : mm_wp d 121 9 [.ref a, l1, l2] st h Q ↔ mm_wp d 121 10 [.ref a, l1, l2] (.ref a :: st) h Q := wp_aloadR_n rfl rfl
theorem s121_10 : mm_wp d 121 10 ls (.ref a :: st) h Q ↔ (mm_s h a).1 = 10 ∧ mm_wp d 121 13 ls (mm_o (mm_r h a 5) :: st) h Q := wp_getR rfl rfl
theorem s121_13 : mm_wp d 121 13 [l0, .int x, l2] st h Q ↔ mm_wp d 121 14 [l0, .int x, l2] (.int x :: st) h Q := wp_iload_n rfl rfl
theorem s121_14 : mm_wp d 121 14 ls (.int x :: .ref a :: st) h Q ↔ ((mm_s h a).1 = 20 ∧ mm_in x (mm_s h a).2 = true) ∧ mm_wp d 121 15 ls (.int (mm_i h a x.toNatClampNeg) :: st) h Q := wp_iaload rfl
theorem s121_15 : mm_wp d 121 15 ls st h Q ↔ mm_wp d 121 16 ls (.int (1 : Int32) :: st) h Q := wp_iconst rfl rfl
theorem s121_16 : mm_wp d 121 16 ls (.int x2 :: .int x :: st) h Q ↔ mm_wp d 121 17 ls (.int (x &&& x2) :: st) h Q := wp_iand rfl
theorem s121_17 : mm_wp d 121 17 ls st h Q ↔ mm_wp d 121 18 ls (.int (1 : Int32) :: st) h Q := wp_iconst rfl rfl
theorem s121_18 : mm_wp d 121 18 ls (.int x2 :: .int x :: st) h Q ↔ if x = x2 then mm_wp d 121 21 ls st h Q else mm_wp d 121 38 ls st h Q := wp_icmpne rfl rfl
theorem s121_21 : mm_wp d 121 21 ls st h Q ↔ mm_wp d 121 34 ls st h Q := wp_goto rfl rfl
theorem s121_24 : mm_wp d 121 24 [.ref a, l1, l2] st h Q ↔ mm_wp d 121 25 [.ref a, l1, l2] (.ref a :: st) h Q := wp_aloadR_n rfl rfl
theorem s121_25 : mm_wp d 121 25 ls (.ref a :: st) h Q ↔ (mm_s h a).1 = 10 ∧ mm_wp d 121 28 ls (mm_o (mm_r h a 5) :: st) h Q := wp_getR rfl rfl
theorem s121_28 : mm_wp d 121 28 [l0, .int x, l2] st h Q ↔ mm_wp d 121 29 [l0, .int x, l2] (.int x :: st) h Q := wp_iload_n rfl rfl
theorem s121_29 : mm_wp d 121 29 ls (.int x :: .ref a :: st) h Q ↔ ((mm_s h a).1 = 20 ∧ mm_in x (mm_s h a).2 = true) ∧ mm_wp d 121 30 ls (.int (mm_i h a x.toNatClampNeg) :: st) h Q := wp_iaload rfl
theorem s121_30 : mm_wp d 121 30 ls st h Q ↔ mm_wp d 121 31 ls (.int (1 : Int32) :: st) h Q := wp_iconst rfl rfl
theorem s121_31 : mm_wp d 121 31 ls (.int x2 :: .int x :: st) h Q ↔ if x ≤ x2 then mm_wp d 121 38 ls st h Q else mm_wp d 121 34 ls st h Q := wp_icmple rfl rfl
theorem s121_34 : mm_wp d 121 34 ls st h Q ↔ mm_wp d 121 35 ls (.int (1 : Int32) :: st) h Q := wp_iconst rfl rfl
theorem s121_35 : mm_wp d 121 35 ls st h Q ↔ mm_wp d 121 39 ls st h Q := wp_goto rfl rfl
theorem s121_38 : mm_wp d 121 38 ls st h Q ↔ mm_wp d 121 39 ls (.int (0 : Int32) :: st) h Q := wp_iconst rfl rfl
theorem s121_39 : mm_wp d 121 39 ls (.int x :: st) h Q ↔ (x = 0 ∨ x = 1) ∧ Q (.inl (some (.int x))) h := wp_zret rfl rfl
/-! 122: LoadRoomModel.isLike(III)Z -/
theorem s122_0 : mm_wp d 122 0 ls st h Q ↔ mm_wp d 122 1 ls (.int (1 : Int32) :: st) h Q := wp_iconst rfl rfl
theorem s122_1 : mm_wp d 122 1 [l0, l1, l2, l3, l4, l5] (.int x :: st) h Q ↔ mm_wp d 122 3 [l0, l1, l2, l3, .int x, l5] st h Q := wp_istore rfl rfl
theorem s122_3 : mm_wp d 122 3 ls st h Q ↔ mm_wp d 122 4 ls (.int (0 : Int32) :: st) h Q := wp_iconst rfl rfl
theorem s122_4 : mm_wp d 122 4 [l0, l1, l2, l3, l4, l5] (.int x :: st) h Q ↔ mm_wp d 122 6 [l0, l1, l2, l3, l4, .int x] st h Q := wp_istore rfl rfl
theorem s122_6 : mm_wp d 122 6 [l0, l1, l2, l3, l4, .int x] st h Q ↔ mm_wp d 122 8 [l0, l1, l2, l3, l4, .int x] (.int x :: st) h Q := wp_iload rfl rfl
theorem s122_8 : mm_wp d 122 8 ls st h Q ↔ mm_wp d 122 9 ls (.int (3 : Int32) :: st) h Q := wp_iconst rfl rfl
theorem s122_9 : mm_wp d 122 9 ls (.int x2 :: .int x :: st) h Q ↔ if x2 ≤ x then mm_wp d 122 63 ls st h Q else mm_wp d 122 12 ls st h Q := wp_icmpge rfl rfl
theorem s122_12 : mm_wp d 122 12 [l0, l1, l2, l3, .int x, l5] st h Q ↔ mm_wp d 122 14 [l0, l1, l2, l3, .int x, l5] (.int x :: st) h Q := wp_iload rfl rfl
theorem s122_14 : mm_wp d 122 14 ls (.int x :: st) h Q ↔ if x = 0 then mm_wp d 122 54 ls st h Q else mm_wp d 122 17 ls st h Q := wp_ifeq rfl rfl
theorem s122_17 : mm_wp d 122 17 [.ref a, l1, l2, l3, l4, l5] st h Q ↔ mm_wp d 122 18 [.ref a, l1, l2, l3, l4, l5] (.ref a :: st) h Q := wp_aloadR_n rfl rfl
theorem s122_18 : mm_wp d 122 18 ls (.ref a :: st) h Q ↔ (mm_s h a).1 = 10 ∧ mm_wp d 122 21 ls (mm_o (mm_r h a 3) :: st) h Q := wp_getR rfl rfl
theorem s122_21 : mm_wp d 122 21 ls st h Q ↔ mm_wp d 122 22 ls (.int (3 : Int32) :: st) h Q := wp_iconst rfl rfl
theorem s122_22 : mm_wp d 122 22 [l0, .int x, l2, l3, l4, l5] st h Q ↔ mm_wp d 122 23 [l0, .int x, l2, l3, l4, l5] (.int x :: st) h Q := wp_iload_n rfl rfl
theorem s122_23 : mm_wp d 122 23 ls (.int x2 :: .int x :: st) h Q ↔ mm_wp d 122 24 ls (.int (x * x2) :: st) h Q := wp_imul rfl
theorem s122_24 : mm_wp d 122 24 [l0, l1, .int x, l3, l4, l5] st h Q ↔ mm_wp d 122 25 [l0, l1, .int x, l3, l4, l5] (.int x :: st) h Q := wp_iload_n rfl rfl
theorem s122_25 : mm_wp d 122 25 [l0, l1, l2, l3, l4, .int x] st h Q ↔ mm_wp d 122 27 [l0, l1, l2, l3, l4, .int x] (.int x :: st) h Q := wp_iload rfl rfl
theorem s122_27 : mm_wp (d + 1) 122 27 ls [.int x2, .int x, t1, t0] h Q ↔ mm_wp d 123 0 [.int x, .int x2] [] h (mm_bk (d + 1) 122 27 ls [t1, t0] Q) := wp_static rfl rfl ⟨by decide, rfl⟩ ⟨Nat.le_of_ble_eq_true rfl, Nat.le_of_ble_eq_true rfl⟩ rfl rfl rfl rfl
theorem s122_30 : mm_wp d 122 30 ls (.int x2 :: .int x :: st) h Q ↔ mm_wp d 122 31 ls (.int (x + x2) :: st) h Q := wp_iadd rfl
theorem s122_31 : mm_wp d 122 31 ls (.int x :: .ref a :: st) h Q ↔ ((mm_s h a).1 = 20 ∧ mm_in x (mm_s h a).2 = true) ∧ mm_wp d 122 32 ls (.int (mm_i h a x.toNatClampNeg) :: st) h Q := wp_iaload rfl
theorem s122_32 : mm_wp d 122 32 [.ref a, l1, l2, l3, l4, l5] st h Q ↔ mm_wp d 122 33 [.ref a, l1, l2, l3, l4, l5] (.ref a :: st) h Q := wp_aloadR_n rfl rfl
theorem s122_33 : mm_wp d 122 33 ls (.ref a :: st) h Q ↔ (mm_s h a).1 = 10 ∧ mm_wp d 122 36 ls (mm_o (mm_r h a 3) :: st) h Q := wp_getR rfl rfl
theorem s122_36 : mm_wp d 122 36 ls st h Q ↔ mm_wp d 122 37 ls (.int (3 : Int32) :: st) h Q := wp_iconst rfl rfl
theorem s122_37 : mm_wp d 122 37 [l0, .int x, l2, l3, l4, l5] st h Q ↔ mm_wp d 122 38 [l0, .int x, l2, l3, l4, l5] (.int x :: st) h Q := wp_iload_n rfl rfl
theorem s122_38 : mm_wp d 122 38 ls (.int x2 :: .int x :: st) h Q ↔ mm_wp d 122 39 ls (.int (x * x2) :: st) h Q := wp_imul rfl
theorem s122_39 : mm_wp d 122 39 [l0, l1, l2, .int x, l4, l5] st h Q ↔ mm_wp d 122 40 [l0, l1, l2, .int x, l4, l5] (.int x :: st) h Q := wp_iload_n rfl rfl
theorem s122_40 : mm_wp d 122 40 [l0, l1, l2, l3, l4, .int x] st h Q ↔ mm_wp d 122 42 [l0, l1, l2, l3, l4, .int x] (.int x :: st) h Q := wp_iload rfl rfl
theorem s122_42 : mm_wp (d + 1) 122 42 ls [.int x2, .int x, t2, t1, t0] h Q ↔ mm_wp d 123 0 [.int x, .int x2] [] h (mm_bk (d + 1) 122 42 ls [t2, t1, t0] Q) := wp_static rfl rfl ⟨by decide, rfl⟩ ⟨Nat.le_of_ble_eq_true rfl, Nat.le_of_ble_eq_true rfl⟩ rfl rfl rfl rfl
theorem s122_45 : mm_wp d 122 45 ls (.int x2 :: .int x :: st) h Q ↔ mm_wp d 122 46 ls (.int (x + x2) :: st) h Q := wp_iadd rfl
theorem s122_46 : mm_wp d 122 46 ls (.int x :: .ref a :: st) h Q ↔ ((mm_s h a).1 = 20 ∧ mm_in x (mm_s h a).2 = true) ∧ mm_wp d 122 47 ls (.int (mm_i h a x.toNatClampNeg) :: st) h Q := wp_iaload rfl
theorem s122_47 : mm_wp d 122 47 ls (.int x2 :: .int x :: st) h Q ↔ if x = x2 then mm_wp d 122 50 ls st h Q else mm_wp d 122 54 ls st h Q := wp_icmpne rfl rfl
theorem s122_50 : mm_wp d 122 50 ls st h Q ↔ mm_wp d 122 51 ls (.int (1 : Int32) :: st) h Q := wp_iconst rfl rfl
theorem s122_51 : mm_wp d 122 51 ls st h Q ↔ mm_wp d 122 55 ls st h Q := wp_goto rfl rfl
theorem s122_54 : mm_wp d 122 54 ls st h Q ↔ mm_wp d 122 55 ls (.int (0 : Int32) :: st) h Q := wp_iconst rfl rfl
theorem s122_55 : mm_wp d 122 55 [l0, l1, l2, l3, l4, l5] (.int x :: st) h Q ↔ mm_wp d 122 57 [l0, l1, l2, l3, .int x, l5] st h Q := wp_istore rfl rfl
theorem s122_57 : mm_wp d 122 57 [l0, l1, l2, l3, l4, .int x] st h Q ↔ mm_wp d 122 60 [l0, l1, l2, l3, l4, .int (x + (1 : Int32))] st h Q := wp_iinc rfl rfl rfl rfl
theorem s122_60 : mm_wp d 122 60 ls st h Q ↔ mm_wp d 122 6 ls st h Q := wp_goto rfl rfl
theorem s122_63 : mm_wp d 122 63 [l0, l1, l2, l3, .int x, l5] st h Q ↔ mm_wp d 122 65 [l0, l1, l2, l3, .int x, l5] (.int x :: st) h Q := wp_iload rfl rfl
theorem s122_65 : mm_wp d 122 65 ls (.int x :: st) h Q ↔ (x = 0 ∨ x = 1) ∧ Q (.inl (some (.int x))) h := wp_zret rfl rfl
/-! 123: LoadRoomModel.axisOf(II)I -/
theorem s123_0 : mm_wp d 123 0 [.int x, l1] st h Q ↔ mm_wp d 123 1 [.int x, l1] (.int x :: st) h Q := wp_iload_n rfl rfl
theorem s123_1d (hx : x.toInt < 0 ∨ 4 < x.toInt) : mm_wp d 123 1 ls (.int x :: st) h Q ↔ mm_wp d 123 79 ls st h Q := wp_tabOut rfl hx rfl
theorem s123_1_0 : mm_wp d 123 1 ls (.int (0 : Int32) :: st) h Q ↔ mm_wp d 123 36 ls st h Q := wp_tabIn rfl (by decide) rfl
theorem s123_1_1 : mm_wp d 123 1 ls (.int (1 : Int32) :: st) h Q ↔ mm_wp d 123 38 ls st h Q := wp_tabIn rfl (by decide) rfl
theorem s123_1_2 : mm_wp d 123 1 ls (.int (2 : Int32) :: st) h Q ↔ mm_wp d 123 42 ls st h Q := wp_tabIn rfl (by decide) rfl
theorem s123_1_3 : mm_wp d 123 1 ls (.int (3 : Int32) :: st) h Q ↔ mm_wp d 123 55 ls st h Q := wp_tabIn rfl (by decide) rfl
theorem s123_1_4 : mm_wp d 123 1 ls (.int (4 : Int32) :: st) h Q ↔ mm_wp d 123 67 ls st h Q := wp_tabIn rfl (by decide) rfl
theorem s123_36 : mm_wp d 123 36 [l0, .int x] st h Q ↔ mm_wp d 123 37 [l0, .int x] (.int x :: st) h Q := wp_iload_n rfl rfl
theorem s123_37 : mm_wp d 123 37 ls (.int x :: st) h Q ↔ Q (.inl (some (.int x))) h := wp_iret rfl rfl
theorem s123_38 : mm_wp d 123 38 ls st h Q ↔ mm_wp d 123 39 ls (.int (2 : Int32) :: st) h Q := wp_iconst rfl rfl
theorem s123_39 : mm_wp d 123 39 [l0, .int x] st h Q ↔ mm_wp d 123 40 [l0, .int x] (.int x :: st) h Q := wp_iload_n rfl rfl
theorem s123_40 : mm_wp d 123 40 ls (.int x2 :: .int x :: st) h Q ↔ mm_wp d 123 41 ls (.int (x - x2) :: st) h Q := wp_isub rfl
theorem s123_41 : mm_wp d 123 41 ls (.int x :: st) h Q ↔ Q (.inl (some (.int x))) h := wp_iret rfl rfl
theorem s123_42 : mm_wp d 123 42 [l0, .int x] st h Q ↔ mm_wp d 123 43 [l0, .int x] (.int x :: st) h Q := wp_iload_n rfl rfl
theorem s123_43 : mm_wp d 123 43 ls st h Q ↔ mm_wp d 123 44 ls (.int (2 : Int32) :: st) h Q := wp_iconst rfl rfl
theorem s123_44 : mm_wp d 123 44 ls (.int x2 :: .int x :: st) h Q ↔ if x = x2 then mm_wp d 123 47 ls st h Q else mm_wp d 123 51 ls st h Q := wp_icmpne rfl rfl
theorem s123_47 : mm_wp d 123 47 ls st h Q ↔ mm_wp d 123 48 ls (.int (2 : Int32) :: st) h Q := wp_iconst rfl rfl
theorem s123_48 : mm_wp d 123 48 ls st h Q ↔ mm_wp d 123 54 ls st h Q := wp_goto rfl rfl
theorem s123_51 : mm_wp d 123 51 ls st h Q ↔ mm_wp d 123 52 ls (.int (1 : Int32) :: st) h Q := wp_iconst rfl rfl
theorem s123_52 : mm_wp d 123 52 [l0, .int x] st h Q ↔ mm_wp d 123 53 [l0, .int x] (.int x :: st) h Q := wp_iload_n rfl rfl
theorem s123_53 : mm_wp d 123 53 ls (.int x2 :: .int x :: st) h Q ↔ mm_wp d 123 54 ls (.int (x - x2) :: st) h Q := wp_isub rfl
theorem s123_54 : mm_wp d 123 54 ls (.int x :: st) h Q ↔ Q (.inl (some (.int x))) h := wp_iret rfl rfl
theorem s123_55 : mm_wp d 123 55 [l0, .int x] st h Q ↔ mm_wp d 123 56 [l0, .int x] (.int x :: st) h Q := wp_iload_n rfl rfl
theorem s123_56 : mm_wp d 123 56 ls (.int x :: st) h Q ↔ if x = 0 then mm_wp d 123 59 ls st h Q else mm_wp d 123 63 ls st h Q := wp_ifne rfl rfl
theorem s123_59 : mm_wp d 123 59 ls st h Q ↔ mm_wp d 123 60 ls (.int (2 : Int32) :: st) h Q := wp_iconst rfl rfl
theorem s123_60 : mm_wp d 123 60 ls st h Q ↔ mm_wp d 123 66 ls st h Q := wp_goto rfl rfl
theorem s123_63 : mm_wp d 123 63 [l0, .int x] st h Q ↔ mm_wp d 123 64 [l0, .int x] (.int x :: st) h Q := wp_iload_n rfl rfl
theorem s123_64 : mm_wp d 123 64 ls st h Q ↔ mm_wp d 123 65 ls (.int (1 : Int32) :: st) h Q := wp_iconst rfl rfl
theorem s123_65 : mm_wp d 123 65 ls (.int x2 :: .int x :: st) h Q ↔ mm_wp d 123 66 ls (.int (x - x2) :: st) h Q := wp_isub rfl
theorem s123_66 : mm_wp d 123 66 ls (.int x :: st) h Q ↔ Q (.inl (some (.int x))) h := wp_iret rfl rfl
theorem s123_67 : mm_wp d 123 67 [l0, .int x] st h Q ↔ mm_wp d 123 68 [l0, .int x] (.int x :: st) h Q := wp_iload_n rfl rfl
theorem s123_68 : mm_wp d 123 68 ls (.int x :: st) h Q ↔ if x = 0 then mm_wp d 123 71 ls st h Q else mm_wp d 123 75 ls st h Q := wp_ifne rfl rfl
theorem s123_71 : mm_wp d 123 71 ls st h Q ↔ mm_wp d 123 72 ls (.int (0 : Int32) :: st) h Q := wp_iconst rfl rfl
theorem s123_72 : mm_wp d 123 72 ls st h Q ↔ mm_wp d 123 78 ls st h Q := wp_goto rfl rfl
theorem s123_75 : mm_wp d 123 75 ls st h Q ↔ mm_wp d 123 76 ls (.int (3 : Int32) :: st) h Q := wp_iconst rfl rfl
theorem s123_76 : mm_wp d 123 76 [l0, .int x] st h Q ↔ mm_wp d 123 77 [l0, .int x] (.int x :: st) h Q := wp_iload_n rfl rfl
theorem s123_77 : mm_wp d 123 77 ls (.int x2 :: .int x :: st) h Q ↔ mm_wp d 123 78 ls (.int (x - x2) :: st) h Q := wp_isub rfl
theorem s123_78 : mm_wp d 123 78 ls (.int x :: st) h Q ↔ Q (.inl (some (.int x))) h := wp_iret rfl rfl
theorem s123_79 : mm_wp d 123 79 [l0, .int x] st h Q ↔ mm_wp d 123 80 [l0, .int x] (.int x :: st) h Q := wp_iload_n rfl rfl
theorem s123_80 : mm_wp d 123 80 ls st h Q ↔ mm_wp d 123 81 ls (.int (2 : Int32) :: st) h Q := wp_iconst rfl rfl
theorem s123_81 : mm_wp d 123 81 ls (.int x2 :: .int x :: st) h Q ↔ if x = x2 then mm_wp d 123 84 ls st h Q else mm_wp d 123 88 ls st h Q := wp_icmpne rfl rfl
theorem s123_84 : mm_wp d 123 84 ls st h Q ↔ mm_wp d 123 85 ls (.int (0 : Int32) :: st) h Q := wp_iconst rfl rfl
theorem s123_85 : mm_wp d 123 85 ls st h Q ↔ mm_wp d 123 91 ls st h Q := wp_goto rfl rfl
theorem s123_88 : mm_wp d 123 88 [l0, .int x] st h Q ↔ mm_wp d 123 89 [l0, .int x] (.int x :: st) h Q := wp_iload_n rfl rfl
theorem s123_89 : mm_wp d 123 89 ls st h Q ↔ mm_wp d 123 90 ls (.int (1 : Int32) :: st) h Q := wp_iconst rfl rfl
theorem s123_90 : mm_wp d 123 90 ls (.int x2 :: .int x :: st) h Q ↔ mm_wp d 123 91 ls (.int (x + x2) :: st) h Q := wp_iadd rfl
theorem s123_91 : mm_wp d 123 91 ls (.int x :: st) h Q ↔ Q (.inl (some (.int x))) h := wp_iret rfl rfl
/-! 124: LoadRoomModel.bound()I -/
theorem s124_0 : mm_wp d 124 0 [.ref a, l1, l2] st h Q ↔ mm_wp d 124 1 [.ref a, l1, l2] (.ref a :: st) h Q := wp_aloadR_n rfl rfl
theorem s124_1 : mm_wp d 124 1 ls st h Q ↔ mm_wp d 124 2 ls (.int (0 : Int32) :: st) h Q := wp_iconst rfl rfl
theorem s124_2 : mm_wp d 124 2 ls (.int x :: .ref a :: st) h Q ↔ (mm_s h a).1 = 10 ∧ mm_wp d 124 5 ls st (mm_pi h a 0 x) Q := wp_putI rfl rfl
theorem s124_5 : mm_wp d 124 5 ls st h Q ↔ mm_wp d 124 6 ls (.int (0 : Int32) :: st) h Q := wp_iconst rfl rfl
theorem s124_6 : mm_wp d 124 6 [l0, l1, l2] (.int x :: st) h Q ↔ mm_wp d 124 7 [l0, .int x, l2] st h Q := wp_istore_n rfl rfl
theorem s124_7 : mm_wp d 124 7 ls st h Q ↔ mm_wp d 124 8 ls (.int (0 : Int32) :: st) h Q := wp_iconst rfl rfl
theorem s124_8 : mm_wp d 124 8 [l0, l1, l2] (.int x :: st) h Q ↔ mm_wp d 124 9 [l0, l1, .int x] st h Q := wp_istore_n rfl rfl
theorem s124_9 : mm_wp d 124 9 [l0, l1, .int x] st h Q ↔ mm_wp d 124 10 [l0, l1, .int x] (.int x :: st) h Q := wp_iload_n rfl rfl
theorem s124_10 : mm_wp d 124 10 [.ref a, l1, l2] st h Q ↔ mm_wp d 124 11 [.ref a, l1, l2] (.ref a :: st) h Q := wp_aloadR_n rfl rfl
theorem s124_11 : mm_wp d 124 11 ls (.ref a :: st) h Q ↔ (mm_s h a).1 = 10 ∧ mm_wp d 124 14 ls (.int (mm_i h a 2) :: st) h Q := wp_getI rfl rfl (by decide) (by decide)
theorem s124_14 : mm_wp d 124 14 ls (.int x2 :: .int x :: st) h Q ↔ if x2 ≤ x then mm_wp d 124 43 ls st h Q else mm_wp d 124 17 ls st h Q := wp_icmpge rfl rfl
theorem s124_17 : mm_wp d 124 17 [l0, .int x, l2] st h Q ↔ mm_wp d 124 18 [l0, .int x, l2] (.int x :: st) h Q := wp_iload_n rfl rfl
theorem s124_18 : mm_wp d 124 18 [.ref a, l1, l2] st h Q ↔ mm_wp d 124 19 [.ref a, l1, l2] (.ref a :: st) h Q := wp_aloadR_n rfl rfl
theorem s124_19 : mm_wp d 124 19 [l0, l1, .int x] st h Q ↔ mm_wp d 124 20 [l0, l1, .int x] (.int x :: st) h Q := wp_iload_n rfl rfl
theorem s124_20 : mm_wp (d + 1) 124 20 ls [.int x2, .ref a, t0] h Q ↔ (mm_s h a).1 = 10 ∧ mm_wp d 119 0 [.ref a, .int x2, mm_j, mm_j] [] h (mm_bk (d + 1) 124 20 ls [t0] Q) := wp_virtual rfl rfl ⟨by decide, rfl⟩ ⟨Nat.le_of_ble_eq_true rfl, Nat.le_of_ble_eq_true rfl⟩ rfl rfl rfl rfl rfl rfl
theorem s124_23 : mm_wp d 124 23 ls (.int x :: st) h Q ↔ if x ≤ 0 then mm_wp d 124 34 ls st h Q else mm_wp d 124 26 ls st h Q := wp_ifle rfl rfl
theorem s124_26 : mm_wp d 124 26 [.ref a, l1, l2] st h Q ↔ mm_wp d 124 27 [.ref a, l1, l2] (.ref a :: st) h Q := wp_aloadR_n rfl rfl
theorem s124_27 : mm_wp d 124 27 [l0, l1, .int x] st h Q ↔ mm_wp d 124 28 [l0, l1, .int x] (.int x :: st) h Q := wp_iload_n rfl rfl
theorem s124_28 : mm_wp (d + 1) 124 28 ls [.int x2, .ref a, t0] h Q ↔ (mm_s h a).1 = 10 ∧ mm_wp d 125 0 [.ref a, .int x2] [] h (mm_bk (d + 1) 124 28 ls [t0] Q) := wp_virtual rfl rfl ⟨by decide, rfl⟩ ⟨Nat.le_of_ble_eq_true rfl, Nat.le_of_ble_eq_true rfl⟩ rfl rfl rfl rfl rfl rfl
theorem s124_31 : mm_wp d 124 31 ls st h Q ↔ mm_wp d 124 35 ls st h Q := wp_goto rfl rfl
theorem s124_34 : mm_wp d 124 34 ls st h Q ↔ mm_wp d 124 35 ls (.int (0 : Int32) :: st) h Q := wp_iconst rfl rfl
theorem s124_35 : mm_wp d 124 35 ls (.int x2 :: .int x :: st) h Q ↔ mm_wp d 124 36 ls (.int (x + x2) :: st) h Q := wp_iadd rfl
theorem s124_36 : mm_wp d 124 36 [l0, l1, l2] (.int x :: st) h Q ↔ mm_wp d 124 37 [l0, .int x, l2] st h Q := wp_istore_n rfl rfl
theorem s124_37 : mm_wp d 124 37 [l0, l1, .int x] st h Q ↔ mm_wp d 124 40 [l0, l1, .int (x + (1 : Int32))] st h Q := wp_iinc rfl rfl rfl rfl
theorem s124_40 : mm_wp d 124 40 ls st h Q ↔ mm_wp d 124 9 ls st h Q := wp_goto rfl rfl
theorem s124_43 : mm_wp d 124 43 [.ref a, l1, l2] st h Q ↔ mm_wp d 124 44 [.ref a, l1, l2] (.ref a :: st) h Q := wp_aloadR_n rfl rfl
theorem s124_44 : mm_wp d 124 44 ls (.ref a :: st) h Q ↔ (mm_s h a).1 = 10 ∧ mm_wp d 124 47 ls (mm_o (mm_r h a 1) :: st) h Q := wp_getR rfl rfl
theorem s124_47 : mm_wp d 124 47 ls st h Q ↔ mm_wp d 124 48 ls (.int (0 : Int32) :: st) h Q := wp_iconst rfl rfl
theorem s124_48 : mm_wp d 124 48 ls (.int x :: .ref a :: st) h Q ↔ ((mm_s h a).1 = 20 ∧ mm_in x (mm_s h a).2 = true) ∧ mm_wp d 124 49 ls (.int (mm_i h a x.toNatClampNeg) :: st) h Q := wp_iaload rfl
theorem s124_49 : mm_wp d 124 49 [.ref a, l1, l2] st h Q ↔ mm_wp d 124 50 [.ref a, l1, l2] (.ref a :: st) h Q := wp_aloadR_n rfl rfl
theorem s124_50 : mm_wp d 124 50 ls (.ref a :: st) h Q ↔ (mm_s h a).1 = 10 ∧ mm_wp d 124 53 ls (mm_o (mm_r h a 1) :: st) h Q := wp_getR rfl rfl
theorem s124_53 : mm_wp d 124 53 ls st h Q ↔ mm_wp d 124 54 ls (.int (1 : Int32) :: st) h Q := wp_iconst rfl rfl
theorem s124_54 : mm_wp d 124 54 ls (.int x :: .ref a :: st) h Q ↔ ((mm_s h a).1 = 20 ∧ mm_in x (mm_s h a).2 = true) ∧ mm_wp d 124 55 ls (.int (mm_i h a x.toNatClampNeg) :: st) h Q := wp_iaload rfl
theorem s124_55 : mm_wp d 124 55 ls (.int x2 :: .int x :: st) h Q ↔ mm_wp d 124 56 ls (.int (x * x2) :: st) h Q := wp_imul rfl
theorem s124_56 : mm_wp d 124 56 [.ref a, l1, l2] st h Q ↔ mm_wp d 124 57 [.ref a, l1, l2] (.ref a :: st) h Q := wp_aloadR_n rfl rfl
theorem s124_57 : mm_wp d 124 57 ls (.ref a :: st) h Q ↔ (mm_s h a).1 = 10 ∧ mm_wp d 124 60 ls (mm_o (mm_r h a 1) :: st) h Q := wp_getR rfl rfl
theorem s124_60 : mm_wp d 124 60 ls st h Q ↔ mm_wp d 124 61 ls (.int (2 : Int32) :: st) h Q := wp_iconst rfl rfl
theorem s124_61 : mm_wp d 124 61 ls (.int x :: .ref a :: st) h Q ↔ ((mm_s h a).1 = 20 ∧ mm_in x (mm_s h a).2 = true) ∧ mm_wp d 124 62 ls (.int (mm_i h a x.toNatClampNeg) :: st) h Q := wp_iaload rfl
theorem s124_62 : mm_wp d 124 62 ls (.int x2 :: .int x :: st) h Q ↔ mm_wp d 124 63 ls (.int (x * x2) :: st) h Q := wp_imul rfl
theorem s124_63 : mm_wp d 124 63 [l0, l1, l2] (.int x :: st) h Q ↔ mm_wp d 124 64 [l0, l1, .int x] st h Q := wp_istore_n rfl rfl
theorem s124_64 : mm_wp d 124 64 [l0, .int x, l2] st h Q ↔ mm_wp d 124 65 [l0, .int x, l2] (.int x :: st) h Q := wp_iload_n rfl rfl
theorem s124_65 : mm_wp d 124 65 [l0, l1, .int x] st h Q ↔ mm_wp d 124 66 [l0, l1, .int x] (.int x :: st) h Q := wp_iload_n rfl rfl
theorem s124_66 : mm_wp d 124 66 ls (.int x2 :: .int x :: st) h Q ↔ if x2 ≤ x then mm_wp d 124 73 ls st h Q else mm_wp d 124 69 ls st h Q := wp_icmpge rfl rfl
theorem s124_69 : mm_wp d 124 69 [l0, .int x, l2] st h Q ↔ mm_wp d 124 70 [l0, .int x, l2] (.int x :: st) h Q := wp_iload_n rfl rfl
theorem s124_70 : mm_wp d 124 70 ls st h Q ↔ mm_wp d 124 74 ls st h Q := wp_goto rfl rfl
theorem s124_73 : mm_wp d 124 73 [l0, l1, .int x] st h Q ↔ mm_wp d 124 74 [l0, l1, .int x] (.int x :: st) h Q := wp_iload_n rfl rfl
theorem s124_74 : mm_wp d 124 74 ls (.int x :: st) h Q ↔ Q (.inl (some (.int x))) h := wp_iret rfl rfl
/-! 125: LoadRoomModel.volume(I)I -/
theorem s125_0 : mm_wp d 125 0 [.ref a, l1] st h Q ↔ mm_wp d 125 1 [.ref a, l1] (.ref a :: st) h Q := wp_aloadR_n rfl rfl
theorem s125_1 : mm_wp d 125 1 ls (.ref a :: st) h Q ↔ (mm_s h a).1 = 10 ∧ mm_wp d 125 4 ls (mm_o (mm_r h a 3) :: st) h Q := wp_getR rfl rfl
theorem s125_4 : mm_wp d 125 4 ls st h Q ↔ mm_wp d 125 5 ls (.int (3 : Int32) :: st) h Q := wp_iconst rfl rfl
theorem s125_5 : mm_wp d 125 5 [l0, .int x] st h Q ↔ mm_wp d 125 6 [l0, .int x] (.int x :: st) h Q := wp_iload_n rfl rfl
theorem s125_6 : mm_wp d 125 6 ls (.int x2 :: .int x :: st) h Q ↔ mm_wp d 125 7 ls (.int (x * x2) :: st) h Q := wp_imul rfl
theorem s125_7 : mm_wp d 125 7 ls (.int x :: .ref a :: st) h Q ↔ ((mm_s h a).1 = 20 ∧ mm_in x (mm_s h a).2 = true) ∧ mm_wp d 125 8 ls (.int (mm_i h a x.toNatClampNeg) :: st) h Q := wp_iaload rfl
theorem s125_8 : mm_wp d 125 8 [.ref a, l1] st h Q ↔ mm_wp d 125 9 [.ref a, l1] (.ref a :: st) h Q := wp_aloadR_n rfl rfl
theorem s125_9 : mm_wp d 125 9 ls (.ref a :: st) h Q ↔ (mm_s h a).1 = 10 ∧ mm_wp d 125 12 ls (mm_o (mm_r h a 3) :: st) h Q := wp_getR rfl rfl
theorem s125_12 : mm_wp d 125 12 ls st h Q ↔ mm_wp d 125 13 ls (.int (3 : Int32) :: st) h Q := wp_iconst rfl rfl
theorem s125_13 : mm_wp d 125 13 [l0, .int x] st h Q ↔ mm_wp d 125 14 [l0, .int x] (.int x :: st) h Q := wp_iload_n rfl rfl
theorem s125_14 : mm_wp d 125 14 ls (.int x2 :: .int x :: st) h Q ↔ mm_wp d 125 15 ls (.int (x * x2) :: st) h Q := wp_imul rfl
theorem s125_15 : mm_wp d 125 15 ls st h Q ↔ mm_wp d 125 16 ls (.int (1 : Int32) :: st) h Q := wp_iconst rfl rfl
theorem s125_16 : mm_wp d 125 16 ls (.int x2 :: .int x :: st) h Q ↔ mm_wp d 125 17 ls (.int (x + x2) :: st) h Q := wp_iadd rfl
theorem s125_17 : mm_wp d 125 17 ls (.int x :: .ref a :: st) h Q ↔ ((mm_s h a).1 = 20 ∧ mm_in x (mm_s h a).2 = true) ∧ mm_wp d 125 18 ls (.int (mm_i h a x.toNatClampNeg) :: st) h Q := wp_iaload rfl
theorem s125_18 : mm_wp d 125 18 ls (.int x2 :: .int x :: st) h Q ↔ mm_wp d 125 19 ls (.int (x * x2) :: st) h Q := wp_imul rfl
theorem s125_19 : mm_wp d 125 19 [.ref a, l1] st h Q ↔ mm_wp d 125 20 [.ref a, l1] (.ref a :: st) h Q := wp_aloadR_n rfl rfl
theorem s125_20 : mm_wp d 125 20 ls (.ref a :: st) h Q ↔ (mm_s h a).1 = 10 ∧ mm_wp d 125 23 ls (mm_o (mm_r h a 3) :: st) h Q := wp_getR rfl rfl
theorem s125_23 : mm_wp d 125 23 ls st h Q ↔ mm_wp d 125 24 ls (.int (3 : Int32) :: st) h Q := wp_iconst rfl rfl
theorem s125_24 : mm_wp d 125 24 [l0, .int x] st h Q ↔ mm_wp d 125 25 [l0, .int x] (.int x :: st) h Q := wp_iload_n rfl rfl
theorem s125_25 : mm_wp d 125 25 ls (.int x2 :: .int x :: st) h Q ↔ mm_wp d 125 26 ls (.int (x * x2) :: st) h Q := wp_imul rfl
theorem s125_26 : mm_wp d 125 26 ls st h Q ↔ mm_wp d 125 27 ls (.int (2 : Int32) :: st) h Q := wp_iconst rfl rfl
theorem s125_27 : mm_wp d 125 27 ls (.int x2 :: .int x :: st) h Q ↔ mm_wp d 125 28 ls (.int (x + x2) :: st) h Q := wp_iadd rfl
theorem s125_28 : mm_wp d 125 28 ls (.int x :: .ref a :: st) h Q ↔ ((mm_s h a).1 = 20 ∧ mm_in x (mm_s h a).2 = true) ∧ mm_wp d 125 29 ls (.int (mm_i h a x.toNatClampNeg) :: st) h Q := wp_iaload rfl
theorem s125_29 : mm_wp d 125 29 ls (.int x2 :: .int x :: st) h Q ↔ mm_wp d 125 30 ls (.int (x * x2) :: st) h Q := wp_imul rfl
theorem s125_30 : mm_wp d 125 30 ls (.int x :: st) h Q ↔ Q (.inl (some (.int x))) h := wp_iret rfl rfl
/-! 126: LoadRoomModel.pack(I)I -/
theorem s126_0 : mm_wp d 126 0 [.ref a, l1, l2, l3] st h Q ↔ mm_wp d 126 1 [.ref a, l1, l2, l3] (.ref a :: st) h Q := wp_aloadR_n rfl rfl
theorem s126_1 : mm_wp d 126 1 [l0, .int x, l2, l3] st h Q ↔ mm_wp d 126 2 [l0, .int x, l2, l3] (.int x :: st) h Q := wp_iload_n rfl rfl
theorem s126_2 : mm_wp d 126 2 ls st h Q ↔ mm_wp d 126 3 ls (.int (1 : Int32) :: st) h Q := wp_iconst rfl rfl
theorem s126_3 : mm_wp d 126 3 ls st h Q ↔ mm_wp d 126 6 ls (.int (1000 : Int32) :: st) h Q := wp_sipush rfl rfl
theorem s126_6 : mm_wp (d + 1) 126 6 ls [.int x3, .int x2, .int x, t0] h Q ↔ mm_wp d 112 0 [.int x, .int x2, .int x3] [] h (mm_bk (d + 1) 126 6 ls [t0] Q) := wp_static rfl rfl ⟨by decide, rfl⟩ ⟨Nat.le_of_ble_eq_true rfl, Nat.le_of_ble_eq_true rfl⟩ rfl rfl rfl rfl
theorem s126_9 : mm_wp d 126 9 ls (.int x :: st) h Q ↔ if x = 0 then mm_wp d 126 16 ls st h Q else mm_wp d 126 12 ls st h Q := wp_ifeq rfl rfl
theorem s126_12 : mm_wp d 126 12 ls st h Q ↔ mm_wp d 126 13 ls (.int (0 : Int32) :: st) h Q := wp_iconst rfl rfl
theorem s126_13 : mm_wp d 126 13 ls st h Q ↔ mm_wp d 126 17 ls st h Q := wp_goto rfl rfl
theorem s126_16 : mm_wp d 126 16 ls st h Q ↔ mm_wp d 126 17 ls (.int (1 : Int32) :: st) h Q := wp_iconst rfl rfl
theorem s126_17 : mm_wp d 126 17 ls (.int x :: .ref a :: st) h Q ↔ (mm_s h a).1 = 10 ∧ mm_wp d 126 20 ls st (mm_pi h a 0 x) Q := wp_putI rfl rfl
theorem s126_20 : mm_wp d 126 20 [.ref a, l1, l2, l3] st h Q ↔ mm_wp d 126 21 [.ref a, l1, l2, l3] (.ref a :: st) h Q := wp_aloadR_n rfl rfl
theorem s126_21 : mm_wp d 126 21 ls (.ref a :: st) h Q ↔ (mm_s h a).1 = 10 ∧ mm_wp d 126 24 ls (.int (mm_i h a 0) :: st) h Q := wp_getI rfl rfl (by decide) (by decide)
theorem s126_24 : mm_wp d 126 24 ls (.int x :: st) h Q ↔ if x ≤ 0 then mm_wp d 126 29 ls st h Q else mm_wp d 126 27 ls st h Q := wp_ifle rfl rfl
theorem s126_27 : mm_wp d 126 27 ls st h Q ↔ mm_wp d 126 28 ls (.int (0 : Int32) :: st) h Q := wp_iconst rfl rfl
theorem s126_28 : mm_wp d 126 28 ls (.int x :: st) h Q ↔ Q (.inl (some (.int x))) h := wp_iret rfl rfl
theorem s126_29 : mm_wp d 126 29 [.ref a, l1, l2, l3] st h Q ↔ mm_wp d 126 30 [.ref a, l1, l2, l3] (.ref a :: st) h Q := wp_aloadR_n rfl rfl
theorem s126_30 : mm_wp (d + 1) 126 30 ls [.ref a] h Q ↔ (mm_s h a).1 = 10 ∧ mm_wp d 113 0 [.ref a] [] h (mm_bk (d + 1) 126 30 ls [] Q) := wp_virtual rfl rfl ⟨by decide, rfl⟩ ⟨Nat.le_of_ble_eq_true rfl, Nat.le_of_ble_eq_true rfl⟩ rfl rfl rfl rfl rfl rfl
theorem s126_33 : mm_wp d 126 33 [.ref a, l1, l2, l3] st h Q ↔ mm_wp d 126 34 [.ref a, l1, l2, l3] (.ref a :: st) h Q := wp_aloadR_n rfl rfl
theorem s126_34 : mm_wp d 126 34 ls st h Q ↔ mm_wp d 126 35 ls (.int (1 : Int32) :: st) h Q := wp_iconst rfl rfl
theorem s126_35 : mm_wp d 126 35 ls (.int x :: .ref a :: st) h Q ↔ (mm_s h a).1 = 10 ∧ (x = 0 ∨ x = 1) ∧ mm_wp d 126 38 ls st (mm_pi h a 20 x) Q := wp_putZ rfl rfl
theorem s126_38 : mm_wp d 126 38 [.ref a, l1, l2, l3] st h Q ↔ mm_wp d 126 39 [.ref a, l1, l2, l3] (.ref a :: st) h Q := wp_aloadR_n rfl rfl
theorem s126_39 : mm_wp d 126 39 ls st h Q ↔ mm_wp d 126 40 ls (.int (0 : Int32) :: st) h Q := wp_iconst rfl rfl
theorem s126_40 : mm_wp d 126 40 ls (.int x :: .ref a :: st) h Q ↔ (mm_s h a).1 = 10 ∧ (x = 0 ∨ x = 1) ∧ mm_wp d 126 43 ls st (mm_pi h a 21 x) Q := wp_putZ rfl rfl
theorem s126_43 : mm_wp d 126 43 [.ref a, l1, l2, l3] st h Q ↔ mm_wp d 126 44 [.ref a, l1, l2, l3] (.ref a :: st) h Q := wp_aloadR_n rfl rfl
theorem s126_44 : mm_wp d 126 44 ls st h Q ↔ mm_wp d 126 45 ls (.int (0 : Int32) :: st) h Q := wp_iconst rfl rfl
theorem s126_45 : mm_wp d 126 45 ls (.int x :: .ref a :: st) h Q ↔ (mm_s h a).1 = 10 ∧ mm_wp d 126 48 ls st (mm_pi h a 22 x) Q := wp_putI rfl rfl
theorem s126_48 : mm_wp d 126 48 [.ref a, l1, l2, l3] st h Q ↔ mm_wp d 126 49 [.ref a, l1, l2, l3] (.ref a :: st) h Q := wp_aloadR_n rfl rfl
theorem s126_49 : mm_wp d 126 49 ls st h Q ↔ mm_wp d 126 50 ls (.int (0 : Int32) :: st) h Q := wp_iconst rfl rfl
theorem s126_50 : mm_wp d 126 50 ls (.int x :: .ref a :: st) h Q ↔ (mm_s h a).1 = 10 ∧ mm_wp d 126 53 ls st (mm_pi h a 8 x) Q := wp_putI rfl rfl
theorem s126_53 : mm_wp d 126 53 ls st h Q ↔ mm_wp d 126 54 ls (.int (0 : Int32) :: st) h Q := wp_iconst rfl rfl
theorem s126_54 : mm_wp d 126 54 [l0, l1, l2, l3] (.int x :: st) h Q ↔ mm_wp d 126 55 [l0, l1, .int x, l3] st h Q := wp_istore_n rfl rfl
theorem s126_55 : mm_wp d 126 55 [l0, l1, .int x, l3] st h Q ↔ mm_wp d 126 56 [l0, l1, .int x, l3] (.int x :: st) h Q := wp_iload_n rfl rfl
theorem s126_56 : mm_wp d 126 56 ls st h Q ↔ mm_wp d 126 58 ls (.int (8 : Int32) :: st) h Q := wp_bipush rfl rfl
theorem s126_58 : mm_wp d 126 58 ls (.int x2 :: .int x :: st) h Q ↔ if x2 ≤ x then mm_wp d 126 74 ls st h Q else mm_wp d 126 61 ls st h Q := wp_icmpge rfl rfl
theorem s126_61 : mm_wp d 126 61 [.ref a, l1, l2, l3] st h Q ↔ mm_wp d 126 62 [.ref a, l1, l2, l3] (.ref a :: st) h Q := wp_aloadR_n rfl rfl
theorem s126_62 : mm_wp d 126 62 ls (.ref a :: st) h Q ↔ (mm_s h a).1 = 10 ∧ mm_wp d 126 65 ls (mm_o (mm_r h a 14) :: st) h Q := wp_getR rfl rfl
theorem s126_65 : mm_wp d 126 65 [l0, l1, .int x, l3] st h Q ↔ mm_wp d 126 66 [l0, l1, .int x, l3] (.int x :: st) h Q := wp_iload_n rfl rfl
theorem s126_66 : mm_wp d 126 66 ls st h Q ↔ mm_wp d 126 67 ls (.int (0 : Int32) :: st) h Q := wp_iconst rfl rfl
theorem s126_67 : mm_wp d 126 67 ls (.int x2 :: .int x :: .ref a :: st) h Q ↔ ((mm_s h a).1 = 22 ∧ (x2 = 0 ∨ x2 = 1) ∧ mm_in x (mm_s h a).2 = true) ∧ mm_wp d 126 68 ls st (mm_pi h a x.toNatClampNeg x2) Q := wp_bastore rfl
theorem s126_68 : mm_wp d 126 68 [l0, l1, .int x, l3] st h Q ↔ mm_wp d 126 71 [l0, l1, .int (x + (1 : Int32)), l3] st h Q := wp_iinc rfl rfl rfl rfl
theorem s126_71 : mm_wp d 126 71 ls st h Q ↔ mm_wp d 126 55 ls st h Q := wp_goto rfl rfl
theorem s126_74 : mm_wp d 126 74 [.ref a, l1, l2, l3] st h Q ↔ mm_wp d 126 75 [.ref a, l1, l2, l3] (.ref a :: st) h Q := wp_aloadR_n rfl rfl
theorem s126_75 : mm_wp (d + 1) 126 75 ls [.ref a] h Q ↔ (mm_s h a).1 = 10 ∧ mm_wp d 127 0 [.ref a, mm_j, mm_j, mm_j, mm_j, mm_j, mm_j, mm_j] [] h (mm_bk (d + 1) 126 75 ls [] Q) := wp_virtual rfl rfl ⟨by decide, rfl⟩ ⟨Nat.le_of_ble_eq_true rfl, Nat.le_of_ble_eq_true rfl⟩ rfl rfl rfl rfl rfl rfl
theorem s126_78 : mm_wp d 126 78 ls st h Q ↔ mm_wp d 126 79 ls (.int (1 : Int32) :: st) h Q := wp_iconst rfl rfl
theorem s126_79 : mm_wp d 126 79 [l0, l1, l2, l3] (.int x :: st) h Q ↔ mm_wp d 126 80 [l0, l1, .int x, l3] st h Q := wp_istore_n rfl rfl
theorem s126_80 : mm_wp d 126 80 [l0, l1, .int x, l3] st h Q ↔ mm_wp d 126 81 [l0, l1, .int x, l3] (.int x :: st) h Q := wp_iload_n rfl rfl
theorem s126_81 : mm_wp d 126 81 ls (.int x :: st) h Q ↔ if x = 0 then mm_wp d 126 198 ls st h Q else mm_wp d 126 84 ls st h Q := wp_ifeq rfl rfl
theorem s126_84 : mm_wp d 126 84 [.ref a, l1, l2, l3] st h Q ↔ mm_wp d 126 85 [.ref a, l1, l2, l3] (.ref a :: st) h Q := wp_aloadR_n rfl rfl
theorem s126_85 : mm_wp (d + 1) 126 85 ls [.ref a] h Q ↔ (mm_s h a).1 = 10 ∧ mm_wp d 128 0 [.ref a, mm_j, mm_j, mm_j, mm_j, mm_j, mm_j] [] h (mm_bk (d + 1) 126 85 ls [] Q) := wp_virtual rfl rfl ⟨by decide, rfl⟩ ⟨Nat.le_of_ble_eq_true rfl, Nat.le_of_ble_eq_true rfl⟩ rfl rfl rfl rfl rfl rfl
theorem s126_88 : mm_wp d 126 88 ls (.int x :: st) h Q ↔ if x = 0 then mm_wp d 126 179 ls st h Q else mm_wp d 126 91 ls st h Q := wp_ifeq rfl rfl
theorem s126_91 : mm_wp d 126 91 [.ref a, l1, l2, l3] st h Q ↔ mm_wp d 126 92 [.ref a, l1, l2, l3] (.ref a :: st) h Q := wp_aloadR_n rfl rfl
theorem s126_92 : mm_wp d 126 92 ls (.ref a :: st) h Q ↔ (mm_s h a).1 = 10 ∧ mm_wp d 126 95 ls (.int (mm_i h a 22) :: st) h Q := wp_getI rfl rfl (by decide) (by decide)
theorem s126_95 : mm_wp d 126 95 [l0, .int x, l2, l3] st h Q ↔ mm_wp d 126 96 [l0, .int x, l2, l3] (.int x :: st) h Q := wp_iload_n rfl rfl
theorem s126_96 : mm_wp d 126 96 ls (.int x2 :: .int x :: st) h Q ↔ if x = x2 then mm_wp d 126 99 ls st h Q else mm_wp d 126 109 ls st h Q := wp_icmpne rfl rfl
theorem s126_99 : mm_wp d 126 99 [.ref a, l1, l2, l3] st h Q ↔ mm_wp d 126 100 [.ref a, l1, l2, l3] (.ref a :: st) h Q := wp_aloadR_n rfl rfl
theorem s126_100 : mm_wp d 126 100 ls st h Q ↔ mm_wp d 126 101 ls (.int (1 : Int32) :: st) h Q := wp_iconst rfl rfl
theorem s126_101 : mm_wp d 126 101 ls (.int x :: .ref a :: st) h Q ↔ (mm_s h a).1 = 10 ∧ (x = 0 ∨ x = 1) ∧ mm_wp d 126 104 ls st (mm_pi h a 21 x) Q := wp_putZ rfl rfl
theorem s126_104 : mm_wp d 126 104 ls st h Q ↔ mm_wp d 126 105 ls (.int (0 : Int32) :: st) h Q := wp_iconst rfl rfl
theorem s126_105 : mm_wp d 126 105 [l0, l1, l2, l3] (.int x :: st) h Q ↔ mm_wp d 126 106 [l0, l1, .int x, l3] st h Q := wp_istore_n rfl rfl
theorem s126_106 : mm_wp d 126 106 ls st h Q ↔ mm_wp d 126 80 ls st h Q := wp_goto rfl rfl
theorem s126_109 : mm_wp d 126 109 [.ref a, l1, l2, l3] st h Q ↔ mm_wp d 126 110 [.ref a, l1, l2, l3] (.ref a :: st) h Q := wp_aloadR_n rfl rfl
theorem s126_110 : mm_wp d 126 110 ls (.ref a :: st) h Q ↔ mm_wp d 126 111 ls (.ref a :: .ref a :: st) h Q := wp_dupR rfl
theorem s126_111 : mm_wp d 126 111 ls (.ref a :: st) h Q ↔ (mm_s h a).1 = 10 ∧ mm_wp d 126 114 ls (.int (mm_i h a 22) :: st) h Q := wp_getI rfl rfl (by decide) (by decide)
theorem s126_114 : mm_wp d 126 114 ls st h Q ↔ mm_wp d 126 115 ls (.int (1 : Int32) :: st) h Q := wp_iconst rfl rfl
theorem s126_115 : mm_wp d 126 115 ls (.int x2 :: .int x :: st) h Q ↔ mm_wp d 126 116 ls (.int (x + x2) :: st) h Q := wp_iadd rfl
theorem s126_116 : mm_wp d 126 116 ls (.int x :: .ref a :: st) h Q ↔ (mm_s h a).1 = 10 ∧ mm_wp d 126 119 ls st (mm_pi h a 22 x) Q := wp_putI rfl rfl
theorem s126_119 : mm_wp d 126 119 [.ref a, l1, l2, l3] st h Q ↔ mm_wp d 126 120 [.ref a, l1, l2, l3] (.ref a :: st) h Q := wp_aloadR_n rfl rfl
theorem s126_120 : mm_wp d 126 120 ls (.ref a :: st) h Q ↔ (mm_s h a).1 = 10 ∧ mm_wp d 126 123 ls (mm_o (mm_r h a 17) :: st) h Q := wp_getR rfl rfl
theorem s126_123 : mm_wp d 126 123 [.ref a, l1, l2, l3] st h Q ↔ mm_wp d 126 124 [.ref a, l1, l2, l3] (.ref a :: st) h Q := wp_aloadR_n rfl rfl
theorem s126_124 : mm_wp d 126 124 ls (.ref a :: st) h Q ↔ (mm_s h a).1 = 10 ∧ mm_wp d 126 127 ls (.int (mm_i h a 8) :: st) h Q := wp_getI rfl rfl (by decide) (by decide)
theorem s126_127 : mm_wp d 126 127 ls (.int x :: .ref a :: st) h Q ↔ ((mm_s h a).1 = 20 ∧ mm_in x (mm_s h a).2 = true) ∧ mm_wp d 126 128 ls (.int (mm_i h a x.toNatClampNeg) :: st) h Q := wp_iaload rfl
theorem s126_128 : mm_wp d 126 128 ls st h Q ↔ mm_wp d 126 129 ls (.int (1 : Int32) :: st) h Q := wp_iconst rfl rfl
theorem s126_129 : mm_wp d 126 129 ls (.int x2 :: .int x :: st) h Q ↔ mm_wp d 126 130 ls (.int (x - x2) :: st) h Q := wp_isub rfl
theorem s126_130 : mm_wp d 126 130 [l0, l1, l2, l3] (.int x :: st) h Q ↔ mm_wp d 126 131 [l0, l1, l2, .int x] st h Q := wp_istore_n rfl rfl
theorem s126_131 : mm_wp d 126 131 [.ref a, l1, l2, l3] st h Q ↔ mm_wp d 126 132 [.ref a, l1, l2, l3] (.ref a :: st) h Q := wp_aloadR_n rfl rfl
theorem s126_132 : mm_wp d 126 132 [.ref a, l1, l2, l3] st h Q ↔ mm_wp d 126 133 [.ref a, l1, l2, l3] (.ref a :: st) h Q := wp_aloadR_n rfl rfl
theorem s126_133 : mm_wp d 126 133 ls (.ref a :: st) h Q ↔ (mm_s h a).1 = 10 ∧ mm_wp d 126 136 ls (mm_o (mm_r h a 15) :: st) h Q := wp_getR rfl rfl
theorem s126_136 : mm_wp d 126 136 [.ref a, l1, l2, l3] st h Q ↔ mm_wp d 126 137 [.ref a, l1, l2, l3] (.ref a :: st) h Q := wp_aloadR_n rfl rfl
theorem s126_137 : mm_wp d 126 137 ls (.ref a :: st) h Q ↔ (mm_s h a).1 = 10 ∧ mm_wp d 126 140 ls (.int (mm_i h a 8) :: st) h Q := wp_getI rfl rfl (by decide) (by decide)
theorem s126_140 : mm_wp d 126 140 ls (.int x :: .ref a :: st) h Q ↔ ((mm_s h a).1 = 20 ∧ mm_in x (mm_s h a).2 = true) ∧ mm_wp d 126 141 ls (.int (mm_i h a x.toNatClampNeg) :: st) h Q := wp_iaload rfl
theorem s126_141 : mm_wp d 126 141 [.ref a, l1, l2, l3] st h Q ↔ mm_wp d 126 142 [.ref a, l1, l2, l3] (.ref a :: st) h Q := wp_aloadR_n rfl rfl
theorem s126_142 : mm_wp d 126 142 ls (.ref a :: st) h Q ↔ (mm_s h a).1 = 10 ∧ mm_wp d 126 145 ls (mm_o (mm_r h a 16) :: st) h Q := wp_getR rfl rfl
theorem s126_145 : mm_wp d 126 145 [.ref a, l1, l2, l3] st h Q ↔ mm_wp d 126 146 [.ref a, l1, l2, l3] (.ref a :: st) h Q := wp_aloadR_n rfl rfl
theorem s126_146 : mm_wp d 126 146 ls (.ref a :: st) h Q ↔ (mm_s h a).1 = 10 ∧ mm_wp d 126 149 ls (.int (mm_i h a 8) :: st) h Q := wp_getI rfl rfl (by decide) (by decide)
theorem s126_149 : mm_wp d 126 149 ls (.int x :: .ref a :: st) h Q ↔ ((mm_s h a).1 = 20 ∧ mm_in x (mm_s h a).2 = true) ∧ mm_wp d 126 150 ls (.int (mm_i h a x.toNatClampNeg) :: st) h Q := wp_iaload rfl
theorem s126_150 : mm_wp d 126 150 [.ref a, l1, l2, l3] st h Q ↔ mm_wp d 126 151 [.ref a, l1, l2, l3] (.ref a :: st) h Q := wp_aloadR_n rfl rfl
theorem s126_151 : mm_wp d 126 151 [l0, l1, l2, .int x] st h Q ↔ mm_wp d 126 152 [l0, l1, l2, .int x] (.int x :: st) h Q := wp_iload_n rfl rfl
theorem s126_152 : mm_wp (d + 1) 126 152 ls [.int x2, .ref a, t2, t1, t0] h Q ↔ (mm_s h a).1 = 10 ∧ mm_wp d 129 0 [.ref a, .int x2] [] h (mm_bk (d + 1) 126 152 ls [t2, t1, t0] Q) := wp_virtual rfl rfl ⟨by decide, rfl⟩ ⟨Nat.le_of_ble_eq_true rfl, Nat.le_of_ble_eq_true rfl⟩ rfl rfl rfl rfl rfl rfl
theorem s126_155 : mm_wp d 126 155 [.ref a, l1, l2, l3] st h Q ↔ mm_wp d 126 156 [.ref a, l1, l2, l3] (.ref a :: st) h Q := wp_aloadR_n rfl rfl
theorem s126_156 : mm_wp d 126 156 [l0, l1, l2, .int x] st h Q ↔ mm_wp d 126 157 [l0, l1, l2, .int x] (.int x :: st) h Q := wp_iload_n rfl rfl
theorem s126_157 : mm_wp (d + 1) 126 157 ls [.int x2, .ref a, t3, t2, t1, t0] h Q ↔ (mm_s h a).1 = 10 ∧ mm_wp d 130 0 [.ref a, .int x2] [] h (mm_bk (d + 1) 126 157 ls [t3, t2, t1, t0] Q) := wp_virtual rfl rfl ⟨by decide, rfl⟩ ⟨Nat.le_of_ble_eq_true rfl, Nat.le_of_ble_eq_true rfl⟩ rfl rfl rfl rfl rfl rfl
theorem s126_160 : mm_wp d 126 160 [.ref a, l1, l2, l3] st h Q ↔ mm_wp d 126 161 [.ref a, l1, l2, l3] (.ref a :: st) h Q := wp_aloadR_n rfl rfl
theorem s126_161 : mm_wp d 126 161 [l0, l1, l2, .int x] st h Q ↔ mm_wp d 126 162 [l0, l1, l2, .int x] (.int x :: st) h Q := wp_iload_n rfl rfl
theorem s126_162 : mm_wp (d + 1) 126 162 ls [.int x2, .ref a, t4, t3, t2, t1, t0] h Q ↔ (mm_s h a).1 = 10 ∧ mm_wp d 131 0 [.ref a, .int x2] [] h (mm_bk (d + 1) 126 162 ls [t4, t3, t2, t1, t0] Q) := wp_virtual rfl rfl ⟨by decide, rfl⟩ ⟨Nat.le_of_ble_eq_true rfl, Nat.le_of_ble_eq_true rfl⟩ rfl rfl rfl rfl rfl rfl
theorem s126_165 : mm_wp (d + 1) 126 165 ls [.int x6, .int x5, .int x4, .int x3, .int x2, .ref a] h Q ↔ (mm_s h a).1 = 10 ∧ mm_wp d 135 0 [.ref a, .int x2, .int x3, .int x4, .int x5, .int x6, mm_j, mm_j] [] h (mm_bk (d + 1) 126 165 ls [] Q) := wp_virtual rfl rfl ⟨by decide, rfl⟩ ⟨Nat.le_of_ble_eq_true rfl, Nat.le_of_ble_eq_true rfl⟩ rfl rfl rfl rfl rfl rfl
theorem s126_168 : mm_wp d 126 168 [.ref a, l1, l2, l3] st h Q ↔ mm_wp d 126 169 [.ref a, l1, l2, l3] (.ref a :: st) h Q := wp_aloadR_n rfl rfl
theorem s126_169 : mm_wp (d + 1) 126 169 ls [.ref a] h Q ↔ (mm_s h a).1 = 10 ∧ mm_wp d 136 0 [.ref a, mm_j, mm_j, mm_j, mm_j, mm_j] [] h (mm_bk (d + 1) 126 169 ls [] Q) := wp_virtual rfl rfl ⟨by decide, rfl⟩ ⟨Nat.le_of_ble_eq_true rfl, Nat.le_of_ble_eq_true rfl⟩ rfl rfl rfl rfl rfl rfl
theorem s126_172 : mm_wp d 126 172 [.ref a, l1, l2, l3] st h Q ↔ mm_wp d 126 173 [.ref a, l1, l2, l3] (.ref a :: st) h Q := wp_aloadR_n rfl rfl
theorem s126_173 : mm_wp (d + 1) 126 173 ls [.ref a] h Q ↔ (mm_s h a).1 = 10 ∧ mm_wp d 127 0 [.ref a, mm_j, mm_j, mm_j, mm_j, mm_j, mm_j, mm_j] [] h (mm_bk (d + 1) 126 173 ls [] Q) := wp_virtual rfl rfl ⟨by decide, rfl⟩ ⟨Nat.le_of_ble_eq_true rfl, Nat.le_of_ble_eq_true rfl⟩ rfl rfl rfl rfl rfl rfl
theorem s126_176 : mm_wp d 126 176 ls st h Q ↔ mm_wp d 126 80 ls st h Q := wp_goto rfl rfl
theorem s126_179 : mm_wp d 126 179 [.ref a, l1, l2, l3] st h Q ↔ mm_wp d 126 180 [.ref a, l1, l2, l3] (.ref a :: st) h Q := wp_aloadR_n rfl rfl
theorem s126_180 : mm_wp d 126 180 ls (.ref a :: st) h Q ↔ (mm_s h a).1 = 10 ∧ mm_wp d 126 183 ls (.int (mm_i h a 8) :: st) h Q := wp_getI rfl rfl (by decide) (by decide)
theorem s126_183 : mm_wp d 126 183 ls (.int x :: st) h Q ↔ if x = 0 then mm_wp d 126 186 ls st h Q else mm_wp d 126 191 ls st h Q := wp_ifne rfl rfl
theorem s126_186 : mm_wp d 126 186 ls st h Q ↔ mm_wp d 126 187 ls (.int (0 : Int32) :: st) h Q := wp_iconst rfl rfl
theorem s126_187 : mm_wp d 126 187 [l0, l1, l2, l3] (.int x :: st) h Q ↔ mm_wp d 126 188 [l0, l1, .int x, l3] st h Q := wp_istore_n rfl rfl
theorem s126_188 : mm_wp d 126 188 ls st h Q ↔ mm_wp d 126 80 ls st h Q := wp_goto rfl rfl
theorem s126_191 : mm_wp d 126 191 [.ref a, l1, l2, l3] st h Q ↔ mm_wp d 126 192 [.ref a, l1, l2, l3] (.ref a :: st) h Q := wp_aloadR_n rfl rfl
theorem s126_192 : mm_wp (d + 1) 126 192 ls [.ref a] h Q ↔ (mm_s h a).1 = 10 ∧ mm_wp d 137 0 [.ref a, mm_j, mm_j, mm_j] [] h (mm_bk (d + 1) 126 192 ls [] Q) := wp_virtual rfl rfl ⟨by decide, rfl⟩ ⟨Nat.le_of_ble_eq_true rfl, Nat.le_of_ble_eq_true rfl⟩ rfl rfl rfl rfl rfl rfl
theorem s126_195 : mm_wp d 126 195 ls st h Q ↔ mm_wp d 126 80 ls st h Q := wp_goto rfl rfl
theorem s126_198 : mm_wp d 126 198 [.ref a, l1, l2, l3] st h Q ↔ mm_wp d 126 199 [.ref a, l1, l2, l3] (.ref a :: st) h Q := wp_aloadR_n rfl rfl
theorem s126_199 : mm_wp d 126 199 ls (.ref a :: st) h Q ↔ (mm_s h a).1 = 10 ∧ mm_wp d 126 202 ls (.long (mm_l h a 24) :: st) h Q := wp_getL rfl rfl
theorem s126_202 : mm_wp d 126 202 ls (.long w :: st) h Q ↔ mm_wp d 126 203 ls (.int w.toInt32 :: st) h Q := wp_l2i rfl
theorem s126_203 : mm_wp d 126 203 ls (.int x :: st) h Q ↔ Q (.inl (some (.int x))) h := wp_iret rfl rfl
/-! 127: LoadRoomModel.open()V -/
theorem s127_0 : mm_wp d 127 0 ls st h Q ↔ mm_wp d 127 1 ls (.int (0 : Int32) :: st) h Q := wp_iconst rfl rfl
theorem s127_1 : mm_wp d 127 1 [l0, l1, l2, l3, l4, l5, l6, l7] (.int x :: st) h Q ↔ mm_wp d 127 2 [l0, .int x, l2, l3, l4, l5, l6, l7] st h Q := wp_istore_n rfl rfl
theorem s127_2 : mm_wp d 127 2 [l0, .int x, l2, l3, l4, l5, l6, l7] st h Q ↔ mm_wp d 127 3 [l0, .int x, l2, l3, l4, l5, l6, l7] (.int x :: st) h Q := wp_iload_n rfl rfl
theorem s127_3 : mm_wp d 127 3 ls st h Q ↔ mm_wp d 127 4 ls (.int (3 : Int32) :: st) h Q := wp_iconst rfl rfl
theorem s127_4 : mm_wp d 127 4 ls (.int x2 :: .int x :: st) h Q ↔ if x2 ≤ x then mm_wp d 127 186 ls st h Q else mm_wp d 127 7 ls st h Q := wp_icmpge rfl rfl
theorem s127_7 : mm_wp d 127 7 ls st h Q ↔ mm_wp d 127 9 ls (.int (27 : Int32) :: st) h Q := wp_bipush rfl rfl
theorem s127_9 : mm_wp d 127 9 [.ref a, l1, l2, l3, l4, l5, l6, l7] st h Q ↔ mm_wp d 127 10 [.ref a, l1, l2, l3, l4, l5, l6, l7] (.ref a :: st) h Q := wp_aloadR_n rfl rfl
theorem s127_10 : mm_wp d 127 10 ls (.ref a :: st) h Q ↔ (mm_s h a).1 = 10 ∧ mm_wp d 127 13 ls (.int (mm_i h a 8) :: st) h Q := wp_getI rfl rfl (by decide) (by decide)
theorem s127_13 : mm_wp d 127 13 ls (.int x2 :: .int x :: st) h Q ↔ mm_wp d 127 14 ls (.int (x * x2) :: st) h Q := wp_imul rfl
theorem s127_14 : mm_wp d 127 14 ls st h Q ↔ mm_wp d 127 16 ls (.int (9 : Int32) :: st) h Q := wp_bipush rfl rfl
theorem s127_16 : mm_wp d 127 16 [l0, .int x, l2, l3, l4, l5, l6, l7] st h Q ↔ mm_wp d 127 17 [l0, .int x, l2, l3, l4, l5, l6, l7] (.int x :: st) h Q := wp_iload_n rfl rfl
theorem s127_17 : mm_wp d 127 17 ls (.int x2 :: .int x :: st) h Q ↔ mm_wp d 127 18 ls (.int (x * x2) :: st) h Q := wp_imul rfl
theorem s127_18 : mm_wp d 127 18 ls (.int x2 :: .int x :: st) h Q ↔ mm_wp d 127 19 ls (.int (x + x2) :: st) h Q := wp_iadd rfl
theorem s127_19 : mm_wp d 127 19 [l0, l1, l2, l3, l4, l5, l6, l7] (.int x :: st) h Q ↔ mm_wp d 127 20 [l0, l1, .int x, l3, l4, l5, l6, l7] st h Q := wp_istore_n rfl rfl
theorem s127_20 : mm_wp d 127 20 [.ref a, l1, l2, l3, l4, l5, l6, l7] st h Q ↔ mm_wp d 127 21 [.ref a, l1, l2, l3, l4, l5, l6, l7] (.ref a :: st) h Q := wp_aloadR_n rfl rfl
theorem s127_21 : mm_wp d 127 21 ls (.ref a :: st) h Q ↔ (mm_s h a).1 = 10 ∧ mm_wp d 127 24 ls (mm_o (mm_r h a 18) :: st) h Q := wp_getR rfl rfl
theorem s127_24 : mm_wp d 127 24 [l0, l1, .int x, l3, l4, l5, l6, l7] st h Q ↔ mm_wp d 127 25 [l0, l1, .int x, l3, l4, l5, l6, l7] (.int x :: st) h Q := wp_iload_n rfl rfl
theorem s127_25 : mm_wp d 127 25 ls st h Q ↔ mm_wp d 127 26 ls (.int (0 : Int32) :: st) h Q := wp_iconst rfl rfl
theorem s127_26 : mm_wp d 127 26 ls (.int x2 :: .int x :: .ref a :: st) h Q ↔ ((mm_s h a).1 = 20 ∧ ¬ a = 0 ∧ mm_in x (mm_s h a).2 = true) ∧ mm_wp d 127 27 ls st (mm_pi h a x.toNatClampNeg x2) Q := wp_iastore rfl
theorem s127_27 : mm_wp d 127 27 ls st h Q ↔ mm_wp d 127 28 ls (.int (1 : Int32) :: st) h Q := wp_iconst rfl rfl
theorem s127_28 : mm_wp d 127 28 [l0, l1, l2, l3, l4, l5, l6, l7] (.int x :: st) h Q ↔ mm_wp d 127 29 [l0, l1, l2, .int x, l4, l5, l6, l7] st h Q := wp_istore_n rfl rfl
theorem s127_29 : mm_wp d 127 29 ls st h Q ↔ mm_wp d 127 30 ls (.int (0 : Int32) :: st) h Q := wp_iconst rfl rfl
theorem s127_30 : mm_wp d 127 30 [l0, l1, l2, l3, l4, l5, l6, l7] (.int x :: st) h Q ↔ mm_wp d 127 32 [l0, l1, l2, l3, .int x, l5, l6, l7] st h Q := wp_istore rfl rfl
theorem s127_32 : mm_wp d 127 32 [l0, l1, l2, l3, .int x, l5, l6, l7] st h Q ↔ mm_wp d 127 34 [l0, l1, l2, l3, .int x, l5, l6, l7] (.int x :: st) h Q := wp_iload rfl rfl
theorem s127_34 : mm_wp d 127 34 [.ref a, l1, l2, l3, l4, l5, l6, l7] st h Q ↔ mm_wp d 127 35 [.ref a, l1, l2, l3, l4, l5, l6, l7] (.ref a :: st) h Q := wp_aloadR_n rfl rfl
theorem s127_35 : mm_wp d 127 35 ls (.ref a :: st) h Q ↔ (mm_s h a).1 = 10 ∧ mm_wp d 127 38 ls (.int (mm_i h a 8) :: st) h Q := wp_getI rfl rfl (by decide) (by decide)
theorem s127_38 : mm_wp d 127 38 ls (.int x2 :: .int x :: st) h Q ↔ if x2 ≤ x then mm_wp d 127 166 ls st h Q else mm_wp d 127 41 ls st h Q := wp_icmpge rfl rfl
theorem s127_41 : mm_wp d 127 41 [.ref a, l1, l2, l3, l4, l5, l6, l7] st h Q ↔ mm_wp d 127 42 [.ref a, l1, l2, l3, l4, l5, l6, l7] (.ref a :: st) h Q := wp_aloadR_n rfl rfl
theorem s127_42 : mm_wp d 127 42 ls (.ref a :: st) h Q ↔ (mm_s h a).1 = 10 ∧ mm_wp d 127 45 ls (mm_o (mm_r h a 12) :: st) h Q := wp_getR rfl rfl
theorem s127_45 : mm_wp d 127 45 ls st h Q ↔ mm_wp d 127 46 ls (.int (3 : Int32) :: st) h Q := wp_iconst rfl rfl
theorem s127_46 : mm_wp d 127 46 [l0, l1, l2, l3, .int x, l5, l6, l7] st h Q ↔ mm_wp d 127 48 [l0, l1, l2, l3, .int x, l5, l6, l7] (.int x :: st) h Q := wp_iload rfl rfl
theorem s127_48 : mm_wp d 127 48 ls (.int x2 :: .int x :: st) h Q ↔ mm_wp d 127 49 ls (.int (x * x2) :: st) h Q := wp_imul rfl
theorem s127_49 : mm_wp d 127 49 [l0, .int x, l2, l3, l4, l5, l6, l7] st h Q ↔ mm_wp d 127 50 [l0, .int x, l2, l3, l4, l5, l6, l7] (.int x :: st) h Q := wp_iload_n rfl rfl
theorem s127_50 : mm_wp d 127 50 ls (.int x2 :: .int x :: st) h Q ↔ mm_wp d 127 51 ls (.int (x + x2) :: st) h Q := wp_iadd rfl
theorem s127_51 : mm_wp d 127 51 ls (.int x :: .ref a :: st) h Q ↔ ((mm_s h a).1 = 20 ∧ mm_in x (mm_s h a).2 = true) ∧ mm_wp d 127 52 ls (.int (mm_i h a x.toNatClampNeg) :: st) h Q := wp_iaload rfl
theorem s127_52 : mm_wp d 127 52 [.ref a, l1, l2, l3, l4, l5, l6, l7] st h Q ↔ mm_wp d 127 53 [.ref a, l1, l2, l3, l4, l5, l6, l7] (.ref a :: st) h Q := wp_aloadR_n rfl rfl
theorem s127_53 : mm_wp d 127 53 ls (.ref a :: st) h Q ↔ (mm_s h a).1 = 10 ∧ mm_wp d 127 56 ls (mm_o (mm_r h a 11) :: st) h Q := wp_getR rfl rfl
theorem s127_56 : mm_wp d 127 56 ls st h Q ↔ mm_wp d 127 57 ls (.int (3 : Int32) :: st) h Q := wp_iconst rfl rfl
theorem s127_57 : mm_wp d 127 57 [l0, l1, l2, l3, .int x, l5, l6, l7] st h Q ↔ mm_wp d 127 59 [l0, l1, l2, l3, .int x, l5, l6, l7] (.int x :: st) h Q := wp_iload rfl rfl
theorem s127_59 : mm_wp d 127 59 ls (.int x2 :: .int x :: st) h Q ↔ mm_wp d 127 60 ls (.int (x * x2) :: st) h Q := wp_imul rfl
theorem s127_60 : mm_wp d 127 60 [l0, .int x, l2, l3, l4, l5, l6, l7] st h Q ↔ mm_wp d 127 61 [l0, .int x, l2, l3, l4, l5, l6, l7] (.int x :: st) h Q := wp_iload_n rfl rfl
theorem s127_61 : mm_wp d 127 61 ls (.int x2 :: .int x :: st) h Q ↔ mm_wp d 127 62 ls (.int (x + x2) :: st) h Q := wp_iadd rfl
theorem s127_62 : mm_wp d 127 62 ls (.int x :: .ref a :: st) h Q ↔ ((mm_s h a).1 = 20 ∧ mm_in x (mm_s h a).2 = true) ∧ mm_wp d 127 63 ls (.int (mm_i h a x.toNatClampNeg) :: st) h Q := wp_iaload rfl
theorem s127_63 : mm_wp d 127 63 ls (.int x2 :: .int x :: st) h Q ↔ mm_wp d 127 64 ls (.int (x + x2) :: st) h Q := wp_iadd rfl
theorem s127_64 : mm_wp d 127 64 [l0, l1, l2, l3, l4, l5, l6, l7] (.int x :: st) h Q ↔ mm_wp d 127 66 [l0, l1, l2, l3, l4, .int x, l6, l7] st h Q := wp_istore rfl rfl
theorem s127_66 : mm_wp d 127 66 [l0, l1, l2, .int x, l4, l5, l6, l7] st h Q ↔ mm_wp d 127 67 [l0, l1, l2, .int x, l4, l5, l6, l7] (.int x :: st) h Q := wp_iload_n rfl rfl
theorem s127_67 : mm_wp d 127 67 [l0, l1, l2, l3, l4, l5, l6, l7] (.int x :: st) h Q ↔ mm_wp d 127 69 [l0, l1, l2, l3, l4, l5, .int x, l7] st h Q := wp_istore rfl rfl
theorem s127_69 : mm_wp d 127 69 [.ref a, l1, l2, l3, l4, l5, l6, l7] st h Q ↔ mm_wp d 127 70 [.ref a, l1, l2, l3, l4, l5, l6, l7] (.ref a :: st) h Q := wp_aloadR_n rfl rfl
theorem s127_70 : mm_wp d 127 70 ls (.ref a :: st) h Q ↔ (mm_s h a).1 = 10 ∧ mm_wp d 127 73 ls (mm_o (mm_r h a 18) :: st) h Q := wp_getR rfl rfl
theorem s127_73 : mm_wp d 127 73 [l0, l1, .int x, l3, l4, l5, l6, l7] st h Q ↔ mm_wp d 127 74 [l0, l1, .int x, l3, l4, l5, l6, l7] (.int x :: st) h Q := wp_iload_n rfl rfl
theorem s127_74 : mm_wp d 127 74 [l0, l1, l2, l3, l4, l5, .int x, l7] st h Q ↔ mm_wp d 127 76 [l0, l1, l2, l3, l4, l5, .int x, l7] (.int x :: st) h Q := wp_iload rfl rfl
theorem s127_76 : mm_wp d 127 76 ls (.int x2 :: .int x :: st) h Q ↔ mm_wp d 127 77 ls (.int (x + x2) :: st) h Q := wp_iadd rfl
theorem s127_77 : mm_wp d 127 77 ls st h Q ↔ mm_wp d 127 78 ls (.int (1 : Int32) :: st) h Q := wp_iconst rfl rfl
theorem s127_78 : mm_wp d 127 78 ls (.int x2 :: .int x :: st) h Q ↔ mm_wp d 127 79 ls (.int (x - x2) :: st) h Q := wp_isub rfl
theorem s127_79 : mm_wp d 127 79 ls (.int x :: .ref a :: st) h Q ↔ ((mm_s h a).1 = 20 ∧ mm_in x (mm_s h a).2 = true) ∧ mm_wp d 127 80 ls (.int (mm_i h a x.toNatClampNeg) :: st) h Q := wp_iaload rfl
theorem s127_80 : mm_wp d 127 80 [l0, l1, l2, l3, l4, .int x, l6, l7] st h Q ↔ mm_wp d 127 82 [l0, l1, l2, l3, l4, .int x, l6, l7] (.int x :: st) h Q := wp_iload rfl rfl
theorem s127_82 : mm_wp d 127 82 ls (.int x2 :: .int x :: st) h Q ↔ if x ≤ x2 then mm_wp d 127 91 ls st h Q else mm_wp d 127 85 ls st h Q := wp_icmple rfl rfl
theorem s127_85 : mm_wp d 127 85 [l0, l1, l2, l3, l4, l5, .int x, l7] st h Q ↔ mm_wp d 127 88 [l0, l1, l2, l3, l4, l5, .int (x + (-1 : Int32)), l7] st h Q := wp_iinc rfl rfl rfl rfl
theorem s127_88 : mm_wp d 127 88 ls st h Q ↔ mm_wp d 127 69 ls st h Q := wp_goto rfl rfl
theorem s127_91 : mm_wp d 127 91 [.ref a, l1, l2, l3, l4, l5, l6, l7] st h Q ↔ mm_wp d 127 92 [.ref a, l1, l2, l3, l4, l5, l6, l7] (.ref a :: st) h Q := wp_aloadR_n rfl rfl
theorem s127_92 : mm_wp d 127 92 ls (.ref a :: st) h Q ↔ (mm_s h a).1 = 10 ∧ mm_wp d 127 95 ls (mm_o (mm_r h a 18) :: st) h Q := wp_getR rfl rfl
theorem s127_95 : mm_wp d 127 95 [l0, l1, .int x, l3, l4, l5, l6, l7] st h Q ↔ mm_wp d 127 96 [l0, l1, .int x, l3, l4, l5, l6, l7] (.int x :: st) h Q := wp_iload_n rfl rfl
theorem s127_96 : mm_wp d 127 96 [l0, l1, l2, l3, l4, l5, .int x, l7] st h Q ↔ mm_wp d 127 98 [l0, l1, l2, l3, l4, l5, .int x, l7] (.int x :: st) h Q := wp_iload rfl rfl
theorem s127_98 : mm_wp d 127 98 ls (.int x2 :: .int x :: st) h Q ↔ mm_wp d 127 99 ls (.int (x + x2) :: st) h Q := wp_iadd rfl
theorem s127_99 : mm_wp d 127 99 ls st h Q ↔ mm_wp d 127 100 ls (.int (1 : Int32) :: st) h Q := wp_iconst rfl rfl
theorem s127_100 : mm_wp d 127 100 ls (.int x2 :: .int x :: st) h Q ↔ mm_wp d 127 101 ls (.int (x - x2) :: st) h Q := wp_isub rfl
theorem s127_101 : mm_wp d 127 101 ls (.int x :: .ref a :: st) h Q ↔ ((mm_s h a).1 = 20 ∧ mm_in x (mm_s h a).2 = true) ∧ mm_wp d 127 102 ls (.int (mm_i h a x.toNatClampNeg) :: st) h Q := wp_iaload rfl
theorem s127_102 : mm_wp d 127 102 [l0, l1, l2, l3, l4, .int x, l6, l7] st h Q ↔ mm_wp d 127 104 [l0, l1, l2, l3, l4, .int x, l6, l7] (.int x :: st) h Q := wp_iload rfl rfl
theorem s127_104 : mm_wp d 127 104 ls (.int x2 :: .int x :: st) h Q ↔ if x = x2 then mm_wp d 127 107 ls st h Q else mm_wp d 127 110 ls st h Q := wp_icmpne rfl rfl
theorem s127_107 : mm_wp d 127 107 ls st h Q ↔ mm_wp d 127 160 ls st h Q := wp_goto rfl rfl
theorem s127_110 : mm_wp d 127 110 [l0, l1, l2, .int x, l4, l5, l6, l7] st h Q ↔ mm_wp d 127 111 [l0, l1, l2, .int x, l4, l5, l6, l7] (.int x :: st) h Q := wp_iload_n rfl rfl
theorem s127_111 : mm_wp d 127 111 [l0, l1, l2, l3, l4, l5, l6, l7] (.int x :: st) h Q ↔ mm_wp d 127 113 [l0, l1, l2, l3, l4, l5, l6, .int x] st h Q := wp_istore rfl rfl
theorem s127_113 : mm_wp d 127 113 [l0, l1, l2, l3, l4, l5, l6, .int x] st h Q ↔ mm_wp d 127 115 [l0, l1, l2, l3, l4, l5, l6, .int x] (.int x :: st) h Q := wp_iload rfl rfl
theorem s127_115 : mm_wp d 127 115 [l0, l1, l2, l3, l4, l5, .int x, l7] st h Q ↔ mm_wp d 127 117 [l0, l1, l2, l3, l4, l5, .int x, l7] (.int x :: st) h Q := wp_iload rfl rfl
theorem s127_117 : mm_wp d 127 117 ls (.int x2 :: .int x :: st) h Q ↔ if x ≤ x2 then mm_wp d 127 146 ls st h Q else mm_wp d 127 120 ls st h Q := wp_icmple rfl rfl
theorem s127_120 : mm_wp d 127 120 [.ref a, l1, l2, l3, l4, l5, l6, l7] st h Q ↔ mm_wp d 127 121 [.ref a, l1, l2, l3, l4, l5, l6, l7] (.ref a :: st) h Q := wp_aloadR_n rfl rfl
theorem s127_121 : mm_wp d 127 121 ls (.ref a :: st) h Q ↔ (mm_s h a).1 = 10 ∧ mm_wp d 127 124 ls (mm_o (mm_r h a 18) :: st) h Q := wp_getR rfl rfl
theorem s127_124 : mm_wp d 127 124 [l0, l1, .int x, l3, l4, l5, l6, l7] st h Q ↔ mm_wp d 127 125 [l0, l1, .int x, l3, l4, l5, l6, l7] (.int x :: st) h Q := wp_iload_n rfl rfl
theorem s127_125 : mm_wp d 127 125 [l0, l1, l2, l3, l4, l5, l6, .int x] st h Q ↔ mm_wp d 127 127 [l0, l1, l2, l3, l4, l5, l6, .int x] (.int x :: st) h Q := wp_iload rfl rfl
theorem s127_127 : mm_wp d 127 127 ls (.int x2 :: .int x :: st) h Q ↔ mm_wp d 127 128 ls (.int (x + x2) :: st) h Q := wp_iadd rfl
theorem s127_128 : mm_wp d 127 128 [.ref a, l1, l2, l3, l4, l5, l6, l7] st h Q ↔ mm_wp d 127 129 [.ref a, l1, l2, l3, l4, l5, l6, l7] (.ref a :: st) h Q := wp_aloadR_n rfl rfl
theorem s127_129 : mm_wp d 127 129 ls (.ref a :: st) h Q ↔ (mm_s h a).1 = 10 ∧ mm_wp d 127 132 ls (mm_o (mm_r h a 18) :: st) h Q := wp_getR rfl rfl
theorem s127_132 : mm_wp d 127 132 [l0, l1, .int x, l3, l4, l5, l6, l7] st h Q ↔ mm_wp d 127 133 [l0, l1, .int x, l3, l4, l5, l6, l7] (.int x :: st) h Q := wp_iload_n rfl rfl
theorem s127_133 : mm_wp d 127 133 [l0, l1, l2, l3, l4, l5, l6, .int x] st h Q ↔ mm_wp d 127 135 [l0, l1, l2, l3, l4, l5, l6, .int x] (.int x :: st) h Q := wp_iload rfl rfl
theorem s127_135 : mm_wp d 127 135 ls (.int x2 :: .int x :: st) h Q ↔ mm_wp d 127 136 ls (.int (x + x2) :: st) h Q := wp_iadd rfl
theorem s127_136 : mm_wp d 127 136 ls st h Q ↔ mm_wp d 127 137 ls (.int (1 : Int32) :: st) h Q := wp_iconst rfl rfl
theorem s127_137 : mm_wp d 127 137 ls (.int x2 :: .int x :: st) h Q ↔ mm_wp d 127 138 ls (.int (x - x2) :: st) h Q := wp_isub rfl
theorem s127_138 : mm_wp d 127 138 ls (.int x :: .ref a :: st) h Q ↔ ((mm_s h a).1 = 20 ∧ mm_in x (mm_s h a).2 = true) ∧ mm_wp d 127 139 ls (.int (mm_i h a x.toNatClampNeg) :: st) h Q := wp_iaload rfl
theorem s127_139 : mm_wp d 127 139 ls (.int x2 :: .int x :: .ref a :: st) h Q ↔ ((mm_s h a).1 = 20 ∧ ¬ a = 0 ∧ mm_in x (mm_s h a).2 = true) ∧ mm_wp d 127 140 ls st (mm_pi h a x.toNatClampNeg x2) Q := wp_iastore rfl
theorem s127_140 : mm_wp d 127 140 [l0, l1, l2, l3, l4, l5, l6, .int x] st h Q ↔ mm_wp d 127 143 [l0, l1, l2, l3, l4, l5, l6, .int (x + (-1 : Int32))] st h Q := wp_iinc rfl rfl rfl rfl
theorem s127_143 : mm_wp d 127 143 ls st h Q ↔ mm_wp d 127 113 ls st h Q := wp_goto rfl rfl
theorem s127_146 : mm_wp d 127 146 [.ref a, l1, l2, l3, l4, l5, l6, l7] st h Q ↔ mm_wp d 127 147 [.ref a, l1, l2, l3, l4, l5, l6, l7] (.ref a :: st) h Q := wp_aloadR_n rfl rfl
theorem s127_147 : mm_wp d 127 147 ls (.ref a :: st) h Q ↔ (mm_s h a).1 = 10 ∧ mm_wp d 127 150 ls (mm_o (mm_r h a 18) :: st) h Q := wp_getR rfl rfl
theorem s127_150 : mm_wp d 127 150 [l0, l1, .int x, l3, l4, l5, l6, l7] st h Q ↔ mm_wp d 127 151 [l0, l1, .int x, l3, l4, l5, l6, l7] (.int x :: st) h Q := wp_iload_n rfl rfl
theorem s127_151 : mm_wp d 127 151 [l0, l1, l2, l3, l4, l5, .int x, l7] st h Q ↔ mm_wp d 127 153 [l0, l1, l2, l3, l4, l5, .int x, l7] (.int x :: st) h Q := wp_iload rfl rfl
theorem s127_153 : mm_wp d 127 153 ls (.int x2 :: .int x :: st) h Q ↔ mm_wp d 127 154 ls (.int (x + x2) :: st) h Q := wp_iadd rfl
theorem s127_154 : mm_wp d 127 154 [l0, l1, l2, l3, l4, .int x, l6, l7] st h Q ↔ mm_wp d 127 156 [l0, l1, l2, l3, l4, .int x, l6, l7] (.int x :: st) h Q := wp_iload rfl rfl
theorem s127_156 : mm_wp d 127 156 ls (.int x2 :: .int x :: .ref a :: st) h Q ↔ ((mm_s h a).1 = 20 ∧ ¬ a = 0 ∧ mm_in x (mm_s h a).2 = true) ∧ mm_wp d 127 157 ls st (mm_pi h a x.toNatClampNeg x2) Q := wp_iastore rfl
theorem s127_157 : mm_wp d 127 157 [l0, l1, l2, .int x, l4, l5, l6, l7] st h Q ↔ mm_wp d 127 160 [l0, l1, l2, .int (x + (1 : Int32)), l4, l5, l6, l7] st h Q := wp_iinc rfl rfl rfl rfl
theorem s127_160 : mm_wp d 127 160 [l0, l1, l2, l3, .int x, l5, l6, l7] st h Q ↔ mm_wp d 127 163 [l0, l1, l2, l3, .int (x + (1 : Int32)), l5, l6, l7] st h Q := wp_iinc rfl rfl rfl rfl
theorem s127_163 : mm_wp d 127 163 ls st h Q ↔ mm_wp d 127 32 ls st h Q := wp_goto rfl rfl
theorem s127_166 : mm_wp d 127 166 [.ref a, l1, l2, l3, l4, l5, l6, l7] st h Q ↔ mm_wp d 127 167 [.ref a, l1, l2, l3, l4, l5, l6, l7] (.ref a :: st) h Q := wp_aloadR_n rfl rfl
theorem s127_167 : mm_wp d 127 167 ls (.ref a :: st) h Q ↔ (mm_s h a).1 = 10 ∧ mm_wp d 127 170 ls (mm_o (mm_r h a 19) :: st) h Q := wp_getR rfl rfl
theorem s127_170 : mm_wp d 127 170 ls st h Q ↔ mm_wp d 127 171 ls (.int (3 : Int32) :: st) h Q := wp_iconst rfl rfl
theorem s127_171 : mm_wp d 127 171 [.ref a, l1, l2, l3, l4, l5, l6, l7] st h Q ↔ mm_wp d 127 172 [.ref a, l1, l2, l3, l4, l5, l6, l7] (.ref a :: st) h Q := wp_aloadR_n rfl rfl
theorem s127_172 : mm_wp d 127 172 ls (.ref a :: st) h Q ↔ (mm_s h a).1 = 10 ∧ mm_wp d 127 175 ls (.int (mm_i h a 8) :: st) h Q := wp_getI rfl rfl (by decide) (by decide)
theorem s127_175 : mm_wp d 127 175 ls (.int x2 :: .int x :: st) h Q ↔ mm_wp d 127 176 ls (.int (x * x2) :: st) h Q := wp_imul rfl
theorem s127_176 : mm_wp d 127 176 [l0, .int x, l2, l3, l4, l5, l6, l7] st h Q ↔ mm_wp d 127 177 [l0, .int x, l2, l3, l4, l5, l6, l7] (.int x :: st) h Q := wp_iload_n rfl rfl
theorem s127_177 : mm_wp d 127 177 ls (.int x2 :: .int x :: st) h Q ↔ mm_wp d 127 178 ls (.int (x + x2) :: st) h Q := wp_iadd rfl
theorem s127_178 : mm_wp d 127 178 [l0, l1, l2, .int x, l4, l5, l6, l7] st h Q ↔ mm_wp d 127 179 [l0, l1, l2, .int x, l4, l5, l6, l7] (.int x :: st) h Q := wp_iload_n rfl rfl
theorem s127_179 : mm_wp d 127 179 ls (.int x2 :: .int x :: .ref a :: st) h Q ↔ ((mm_s h a).1 = 20 ∧ ¬ a = 0 ∧ mm_in x (mm_s h a).2 = true) ∧ mm_wp d 127 180 ls st (mm_pi h a x.toNatClampNeg x2) Q := wp_iastore rfl
theorem s127_180 : mm_wp d 127 180 [l0, .int x, l2, l3, l4, l5, l6, l7] st h Q ↔ mm_wp d 127 183 [l0, .int (x + (1 : Int32)), l2, l3, l4, l5, l6, l7] st h Q := wp_iinc rfl rfl rfl rfl
theorem s127_183 : mm_wp d 127 183 ls st h Q ↔ mm_wp d 127 2 ls st h Q := wp_goto rfl rfl
theorem s127_186 : mm_wp d 127 186 [.ref a, l1, l2, l3, l4, l5, l6, l7] st h Q ↔ mm_wp d 127 187 [.ref a, l1, l2, l3, l4, l5, l6, l7] (.ref a :: st) h Q := wp_aloadR_n rfl rfl
theorem s127_187 : mm_wp d 127 187 ls (.ref a :: st) h Q ↔ (mm_s h a).1 = 10 ∧ mm_wp d 127 190 ls (mm_o (mm_r h a 15) :: st) h Q := wp_getR rfl rfl
theorem s127_190 : mm_wp d 127 190 [.ref a, l1, l2, l3, l4, l5, l6, l7] st h Q ↔ mm_wp d 127 191 [.ref a, l1, l2, l3, l4, l5, l6, l7] (.ref a :: st) h Q := wp_aloadR_n rfl rfl
theorem s127_191 : mm_wp d 127 191 ls (.ref a :: st) h Q ↔ (mm_s h a).1 = 10 ∧ mm_wp d 127 194 ls (.int (mm_i h a 8) :: st) h Q := wp_getI rfl rfl (by decide) (by decide)
theorem s127_194 : mm_wp d 127 194 ls st h Q ↔ mm_wp d 127 195 ls (.int (0 : Int32) :: st) h Q := wp_iconst rfl rfl
theorem s127_195 : mm_wp d 127 195 ls (.int x2 :: .int x :: .ref a :: st) h Q ↔ ((mm_s h a).1 = 20 ∧ ¬ a = 0 ∧ mm_in x (mm_s h a).2 = true) ∧ mm_wp d 127 196 ls st (mm_pi h a x.toNatClampNeg x2) Q := wp_iastore rfl
theorem s127_196 : mm_wp d 127 196 [.ref a, l1, l2, l3, l4, l5, l6, l7] st h Q ↔ mm_wp d 127 197 [.ref a, l1, l2, l3, l4, l5, l6, l7] (.ref a :: st) h Q := wp_aloadR_n rfl rfl
theorem s127_197 : mm_wp d 127 197 ls (.ref a :: st) h Q ↔ (mm_s h a).1 = 10 ∧ mm_wp d 127 200 ls (mm_o (mm_r h a 16) :: st) h Q := wp_getR rfl rfl
theorem s127_200 : mm_wp d 127 200 [.ref a, l1, l2, l3, l4, l5, l6, l7] st h Q ↔ mm_wp d 127 201 [.ref a, l1, l2, l3, l4, l5, l6, l7] (.ref a :: st) h Q := wp_aloadR_n rfl rfl
theorem s127_201 : mm_wp d 127 201 ls (.ref a :: st) h Q ↔ (mm_s h a).1 = 10 ∧ mm_wp d 127 204 ls (.int (mm_i h a 8) :: st) h Q := wp_getI rfl rfl (by decide) (by decide)
theorem s127_204 : mm_wp d 127 204 ls st h Q ↔ mm_wp d 127 205 ls (.int (0 : Int32) :: st) h Q := wp_iconst rfl rfl
theorem s127_205 : mm_wp d 127 205 ls (.int x2 :: .int x :: .ref a :: st) h Q ↔ ((mm_s h a).1 = 20 ∧ ¬ a = 0 ∧ mm_in x (mm_s h a).2 = true) ∧ mm_wp d 127 206 ls st (mm_pi h a x.toNatClampNeg x2) Q := wp_iastore rfl
theorem s127_206 : mm_wp d 127 206 [.ref a, l1, l2, l3, l4, l5, l6, l7] st h Q ↔ mm_wp d 127 207 [.ref a, l1, l2, l3, l4, l5, l6, l7] (.ref a :: st) h Q := wp_aloadR_n rfl rfl
theorem s127_207 : mm_wp d 127 207 ls (.ref a :: st) h Q ↔ (mm_s h a).1 = 10 ∧ mm_wp d 127 210 ls (mm_o (mm_r h a 17) :: st) h Q := wp_getR rfl rfl
theorem s127_210 : mm_wp d 127 210 [.ref a, l1, l2, l3, l4, l5, l6, l7] st h Q ↔ mm_wp d 127 211 [.ref a, l1, l2, l3, l4, l5, l6, l7] (.ref a :: st) h Q := wp_aloadR_n rfl rfl
theorem s127_211 : mm_wp d 127 211 ls (.ref a :: st) h Q ↔ (mm_s h a).1 = 10 ∧ mm_wp d 127 214 ls (.int (mm_i h a 8) :: st) h Q := wp_getI rfl rfl (by decide) (by decide)
theorem s127_214 : mm_wp d 127 214 ls st h Q ↔ mm_wp d 127 215 ls (.int (0 : Int32) :: st) h Q := wp_iconst rfl rfl
theorem s127_215 : mm_wp d 127 215 ls (.int x2 :: .int x :: .ref a :: st) h Q ↔ ((mm_s h a).1 = 20 ∧ ¬ a = 0 ∧ mm_in x (mm_s h a).2 = true) ∧ mm_wp d 127 216 ls st (mm_pi h a x.toNatClampNeg x2) Q := wp_iastore rfl
theorem s127_216 : mm_wp d 127 216 ls st h Q ↔ Q (.inl none) h := wp_vret rfl rfl
/-! 128: LoadRoomModel.findNext()Z -/
theorem s128_0 : mm_wp d 128 0 ls st h Q ↔ mm_wp d 128 1 ls (.int (3 : Int32) :: st) h Q := wp_iconst rfl rfl
theorem s128_1 : mm_wp d 128 1 [.ref a, l1, l2, l3, l4, l5, l6] st h Q ↔ mm_wp d 128 2 [.ref a, l1, l2, l3, l4, l5, l6] (.ref a :: st) h Q := wp_aloadR_n rfl rfl
theorem s128_2 : mm_wp d 128 2 ls (.ref a :: st) h Q ↔ (mm_s h a).1 = 10 ∧ mm_wp d 128 5 ls (.int (mm_i h a 8) :: st) h Q := wp_getI rfl rfl (by decide) (by decide)
theorem s128_5 : mm_wp d 128 5 ls (.int x2 :: .int x :: st) h Q ↔ mm_wp d 128 6 ls (.int (x * x2) :: st) h Q := wp_imul rfl
theorem s128_6 : mm_wp d 128 6 [l0, l1, l2, l3, l4, l5, l6] (.int x :: st) h Q ↔ mm_wp d 128 7 [l0, .int x, l2, l3, l4, l5, l6] st h Q := wp_istore_n rfl rfl
theorem s128_7 : mm_wp d 128 7 [.ref a, l1, l2, l3, l4, l5, l6] st h Q ↔ mm_wp d 128 8 [.ref a, l1, l2, l3, l4, l5, l6] (.ref a :: st) h Q := wp_aloadR_n rfl rfl
theorem s128_8 : mm_wp d 128 8 ls (.ref a :: st) h Q ↔ (mm_s h a).1 = 10 ∧ mm_wp d 128 11 ls (mm_o (mm_r h a 19) :: st) h Q := wp_getR rfl rfl
theorem s128_11 : mm_wp d 128 11 [l0, .int x, l2, l3, l4, l5, l6] st h Q ↔ mm_wp d 128 12 [l0, .int x, l2, l3, l4, l5, l6] (.int x :: st) h Q := wp_iload_n rfl rfl
theorem s128_12 : mm_wp d 128 12 ls (.int x :: .ref a :: st) h Q ↔ ((mm_s h a).1 = 20 ∧ mm_in x (mm_s h a).2 = true) ∧ mm_wp d 128 13 ls (.int (mm_i h a x.toNatClampNeg) :: st) h Q := wp_iaload rfl
theorem s128_13 : mm_wp d 128 13 [.ref a, l1, l2, l3, l4, l5, l6] st h Q ↔ mm_wp d 128 14 [.ref a, l1, l2, l3, l4, l5, l6] (.ref a :: st) h Q := wp_aloadR_n rfl rfl
theorem s128_14 : mm_wp d 128 14 ls (.ref a :: st) h Q ↔ (mm_s h a).1 = 10 ∧ mm_wp d 128 17 ls (mm_o (mm_r h a 19) :: st) h Q := wp_getR rfl rfl
theorem s128_17 : mm_wp d 128 17 [l0, .int x, l2, l3, l4, l5, l6] st h Q ↔ mm_wp d 128 18 [l0, .int x, l2, l3, l4, l5, l6] (.int x :: st) h Q := wp_iload_n rfl rfl
theorem s128_18 : mm_wp d 128 18 ls st h Q ↔ mm_wp d 128 19 ls (.int (1 : Int32) :: st) h Q := wp_iconst rfl rfl
theorem s128_19 : mm_wp d 128 19 ls (.int x2 :: .int x :: st) h Q ↔ mm_wp d 128 20 ls (.int (x + x2) :: st) h Q := wp_iadd rfl
theorem s128_20 : mm_wp d 128 20 ls (.int x :: .ref a :: st) h Q ↔ ((mm_s h a).1 = 20 ∧ mm_in x (mm_s h a).2 = true) ∧ mm_wp d 128 21 ls (.int (mm_i h a x.toNatClampNeg) :: st) h Q := wp_iaload rfl
theorem s128_21 : mm_wp d 128 21 ls (.int x2 :: .int x :: st) h Q ↔ mm_wp d 128 22 ls (.int (x * x2) :: st) h Q := wp_imul rfl
theorem s128_22 : mm_wp d 128 22 [.ref a, l1, l2, l3, l4, l5, l6] st h Q ↔ mm_wp d 128 23 [.ref a, l1, l2, l3, l4, l5, l6] (.ref a :: st) h Q := wp_aloadR_n rfl rfl
theorem s128_23 : mm_wp d 128 23 ls (.ref a :: st) h Q ↔ (mm_s h a).1 = 10 ∧ mm_wp d 128 26 ls (mm_o (mm_r h a 19) :: st) h Q := wp_getR rfl rfl
theorem s128_26 : mm_wp d 128 26 [l0, .int x, l2, l3, l4, l5, l6] st h Q ↔ mm_wp d 128 27 [l0, .int x, l2, l3, l4, l5, l6] (.int x :: st) h Q := wp_iload_n rfl rfl
theorem s128_27 : mm_wp d 128 27 ls st h Q ↔ mm_wp d 128 28 ls (.int (2 : Int32) :: st) h Q := wp_iconst rfl rfl
theorem s128_28 : mm_wp d 128 28 ls (.int x2 :: .int x :: st) h Q ↔ mm_wp d 128 29 ls (.int (x + x2) :: st) h Q := wp_iadd rfl
theorem s128_29 : mm_wp d 128 29 ls (.int x :: .ref a :: st) h Q ↔ ((mm_s h a).1 = 20 ∧ mm_in x (mm_s h a).2 = true) ∧ mm_wp d 128 30 ls (.int (mm_i h a x.toNatClampNeg) :: st) h Q := wp_iaload rfl
theorem s128_30 : mm_wp d 128 30 ls (.int x2 :: .int x :: st) h Q ↔ mm_wp d 128 31 ls (.int (x * x2) :: st) h Q := wp_imul rfl
theorem s128_31 : mm_wp d 128 31 [l0, l1, l2, l3, l4, l5, l6] (.int x :: st) h Q ↔ mm_wp d 128 32 [l0, l1, .int x, l3, l4, l5, l6] st h Q := wp_istore_n rfl rfl
theorem s128_32 : mm_wp d 128 32 ls st h Q ↔ mm_wp d 128 33 ls (.int (-1 : Int32) :: st) h Q := wp_iconst rfl rfl
theorem s128_33 : mm_wp d 128 33 [l0, l1, l2, l3, l4, l5, l6] (.int x :: st) h Q ↔ mm_wp d 128 34 [l0, l1, l2, .int x, l4, l5, l6] st h Q := wp_istore_n rfl rfl
theorem s128_34 : mm_wp d 128 34 ls st h Q ↔ mm_wp d 128 35 ls (.int (0 : Int32) :: st) h Q := wp_iconst rfl rfl
theorem s128_35 : mm_wp d 128 35 [l0, l1, l2, l3, l4, l5, l6] (.int x :: st) h Q ↔ mm_wp d 128 37 [l0, l1, l2, l3, .int x, l5, l6] st h Q := wp_istore rfl rfl
theorem s128_37 : mm_wp d 128 37 [.ref a, l1, l2, l3, l4, l5, l6] st h Q ↔ mm_wp d 128 38 [.ref a, l1, l2, l3, l4, l5, l6] (.ref a :: st) h Q := wp_aloadR_n rfl rfl
theorem s128_38 : mm_wp d 128 38 ls (.ref a :: st) h Q ↔ (mm_s h a).1 = 10 ∧ mm_wp d 128 41 ls (mm_o (mm_r h a 15) :: st) h Q := wp_getR rfl rfl
theorem s128_41 : mm_wp d 128 41 [.ref a, l1, l2, l3, l4, l5, l6] st h Q ↔ mm_wp d 128 42 [.ref a, l1, l2, l3, l4, l5, l6] (.ref a :: st) h Q := wp_aloadR_n rfl rfl
theorem s128_42 : mm_wp d 128 42 ls (.ref a :: st) h Q ↔ (mm_s h a).1 = 10 ∧ mm_wp d 128 45 ls (.int (mm_i h a 8) :: st) h Q := wp_getI rfl rfl (by decide) (by decide)
theorem s128_45 : mm_wp d 128 45 ls (.int x :: .ref a :: st) h Q ↔ ((mm_s h a).1 = 20 ∧ mm_in x (mm_s h a).2 = true) ∧ mm_wp d 128 46 ls (.int (mm_i h a x.toNatClampNeg) :: st) h Q := wp_iaload rfl
theorem s128_46 : mm_wp d 128 46 [.ref a, l1, l2, l3, l4, l5, l6] st h Q ↔ mm_wp d 128 47 [.ref a, l1, l2, l3, l4, l5, l6] (.ref a :: st) h Q := wp_aloadR_n rfl rfl
theorem s128_47 : mm_wp d 128 47 ls (.ref a :: st) h Q ↔ (mm_s h a).1 = 10 ∧ mm_wp d 128 50 ls (.int (mm_i h a 2) :: st) h Q := wp_getI rfl rfl (by decide) (by decide)
theorem s128_50 : mm_wp d 128 50 ls (.int x2 :: .int x :: st) h Q ↔ if x2 ≤ x then mm_wp d 128 290 ls st h Q else mm_wp d 128 53 ls st h Q := wp_icmpge rfl rfl
theorem s128_53 : mm_wp d 128 53 [.ref a, l1, l2, l3, l4, l5, l6] st h Q ↔ mm_wp d 128 54 [.ref a, l1, l2, l3, l4, l5, l6] (.ref a :: st) h Q := wp_aloadR_n rfl rfl
theorem s128_54 : mm_wp d 128 54 ls (.ref a :: st) h Q ↔ (mm_s h a).1 = 10 ∧ mm_wp d 128 57 ls (mm_o (mm_r h a 15) :: st) h Q := wp_getR rfl rfl
theorem s128_57 : mm_wp d 128 57 [.ref a, l1, l2, l3, l4, l5, l6] st h Q ↔ mm_wp d 128 58 [.ref a, l1, l2, l3, l4, l5, l6] (.ref a :: st) h Q := wp_aloadR_n rfl rfl
theorem s128_58 : mm_wp d 128 58 ls (.ref a :: st) h Q ↔ (mm_s h a).1 = 10 ∧ mm_wp d 128 61 ls (.int (mm_i h a 8) :: st) h Q := wp_getI rfl rfl (by decide) (by decide)
theorem s128_61 : mm_wp d 128 61 ls (.int x :: .ref a :: st) h Q ↔ ((mm_s h a).1 = 20 ∧ mm_in x (mm_s h a).2 = true) ∧ mm_wp d 128 62 ls (.int (mm_i h a x.toNatClampNeg) :: st) h Q := wp_iaload rfl
theorem s128_62 : mm_wp d 128 62 [l0, l1, l2, l3, l4, l5, l6] (.int x :: st) h Q ↔ mm_wp d 128 64 [l0, l1, l2, l3, l4, .int x, l6] st h Q := wp_istore rfl rfl
theorem s128_64 : mm_wp d 128 64 [l0, l1, l2, .int x, l4, l5, l6] st h Q ↔ mm_wp d 128 65 [l0, l1, l2, .int x, l4, l5, l6] (.int x :: st) h Q := wp_iload_n rfl rfl
theorem s128_65 : mm_wp d 128 65 ls st h Q ↔ mm_wp d 128 67 ls (.int (6 : Int32) :: st) h Q := wp_bipush rfl rfl
theorem s128_67 : mm_wp d 128 67 [l0, l1, l2, l3, l4, .int x, l6] st h Q ↔ mm_wp d 128 69 [l0, l1, l2, l3, l4, .int x, l6] (.int x :: st) h Q := wp_iload rfl rfl
theorem s128_69 : mm_wp d 128 69 ls (.int x2 :: .int x :: st) h Q ↔ mm_wp d 128 70 ls (.int (x * x2) :: st) h Q := wp_imul rfl
theorem s128_70 : mm_wp d 128 70 [.ref a, l1, l2, l3, l4, l5, l6] st h Q ↔ mm_wp d 128 71 [.ref a, l1, l2, l3, l4, l5, l6] (.ref a :: st) h Q := wp_aloadR_n rfl rfl
theorem s128_71 : mm_wp d 128 71 ls (.ref a :: st) h Q ↔ (mm_s h a).1 = 10 ∧ mm_wp d 128 74 ls (mm_o (mm_r h a 16) :: st) h Q := wp_getR rfl rfl
theorem s128_74 : mm_wp d 128 74 [.ref a, l1, l2, l3, l4, l5, l6] st h Q ↔ mm_wp d 128 75 [.ref a, l1, l2, l3, l4, l5, l6] (.ref a :: st) h Q := wp_aloadR_n rfl rfl
theorem s128_75 : mm_wp d 128 75 ls (.ref a :: st) h Q ↔ (mm_s h a).1 = 10 ∧ mm_wp d 128 78 ls (.int (mm_i h a 8) :: st) h Q := wp_getI rfl rfl (by decide) (by decide)
theorem s128_78 : mm_wp d 128 78 ls (.int x :: .ref a :: st) h Q ↔ ((mm_s h a).1 = 20 ∧ mm_in x (mm_s h a).2 = true) ∧ mm_wp d 128 79 ls (.int (mm_i h a x.toNatClampNeg) :: st) h Q := wp_iaload rfl
theorem s128_79 : mm_wp d 128 79 ls (.int x2 :: .int x :: st) h Q ↔ mm_wp d 128 80 ls (.int (x + x2) :: st) h Q := wp_iadd rfl
theorem s128_80 : mm_wp d 128 80 ls (.int x2 :: .int x :: st) h Q ↔ if x = x2 then mm_wp d 128 130 ls st h Q else mm_wp d 128 83 ls st h Q := wp_icmpeq rfl rfl
theorem s128_83 : mm_wp d 128 83 [.ref a, l1, l2, l3, l4, l5, l6] st h Q ↔ mm_wp d 128 84 [.ref a, l1, l2, l3, l4, l5, l6] (.ref a :: st) h Q := wp_aloadR_n rfl rfl
theorem s128_84 : mm_wp d 128 84 ls (.ref a :: st) h Q ↔ (mm_s h a).1 = 10 ∧ mm_wp d 128 87 ls (mm_o (mm_r h a 16) :: st) h Q := wp_getR rfl rfl
theorem s128_87 : mm_wp d 128 87 [.ref a, l1, l2, l3, l4, l5, l6] st h Q ↔ mm_wp d 128 88 [.ref a, l1, l2, l3, l4, l5, l6] (.ref a :: st) h Q := wp_aloadR_n rfl rfl
theorem s128_88 : mm_wp d 128 88 ls (.ref a :: st) h Q ↔ (mm_s h a).1 = 10 ∧ mm_wp d 128 91 ls (.int (mm_i h a 8) :: st) h Q := wp_getI rfl rfl (by decide) (by decide)
theorem s128_91 : mm_wp d 128 91 ls (.int x :: .ref a :: st) h Q ↔ ((mm_s h a).1 = 20 ∧ mm_in x (mm_s h a).2 = true) ∧ mm_wp d 128 92 ls (.int (mm_i h a x.toNatClampNeg) :: st) h Q := wp_iaload rfl
theorem s128_92 : mm_wp d 128 92 ls st h Q ↔ mm_wp d 128 94 ls (.int (6 : Int32) :: st) h Q := wp_bipush rfl rfl
theorem s128_94 : mm_wp d 128 94 ls (.int x2 :: .int x :: st) h Q ↔ if x2 ≤ x then mm_wp d 128 130 ls st h Q else mm_wp d 128 97 ls st h Q := wp_icmpge rfl rfl
theorem s128_97 : mm_wp d 128 97 ls st h Q ↔ mm_wp d 128 99 ls (.int (6 : Int32) :: st) h Q := wp_bipush rfl rfl
theorem s128_99 : mm_wp d 128 99 [l0, l1, l2, l3, l4, .int x, l6] st h Q ↔ mm_wp d 128 101 [l0, l1, l2, l3, l4, .int x, l6] (.int x :: st) h Q := wp_iload rfl rfl
theorem s128_101 : mm_wp d 128 101 ls (.int x2 :: .int x :: st) h Q ↔ mm_wp d 128 102 ls (.int (x * x2) :: st) h Q := wp_imul rfl
theorem s128_102 : mm_wp d 128 102 [.ref a, l1, l2, l3, l4, l5, l6] st h Q ↔ mm_wp d 128 103 [.ref a, l1, l2, l3, l4, l5, l6] (.ref a :: st) h Q := wp_aloadR_n rfl rfl
theorem s128_103 : mm_wp d 128 103 ls (.ref a :: st) h Q ↔ (mm_s h a).1 = 10 ∧ mm_wp d 128 106 ls (mm_o (mm_r h a 16) :: st) h Q := wp_getR rfl rfl
theorem s128_106 : mm_wp d 128 106 [.ref a, l1, l2, l3, l4, l5, l6] st h Q ↔ mm_wp d 128 107 [.ref a, l1, l2, l3, l4, l5, l6] (.ref a :: st) h Q := wp_aloadR_n rfl rfl
theorem s128_107 : mm_wp d 128 107 ls (.ref a :: st) h Q ↔ (mm_s h a).1 = 10 ∧ mm_wp d 128 110 ls (.int (mm_i h a 8) :: st) h Q := wp_getI rfl rfl (by decide) (by decide)
theorem s128_110 : mm_wp d 128 110 ls (.int x :: .ref a :: st) h Q ↔ ((mm_s h a).1 = 20 ∧ mm_in x (mm_s h a).2 = true) ∧ mm_wp d 128 111 ls (.int (mm_i h a x.toNatClampNeg) :: st) h Q := wp_iaload rfl
theorem s128_111 : mm_wp d 128 111 ls (.int x2 :: .int x :: st) h Q ↔ mm_wp d 128 112 ls (.int (x + x2) :: st) h Q := wp_iadd rfl
theorem s128_112 : mm_wp d 128 112 [l0, l1, l2, l3, l4, l5, l6] (.int x :: st) h Q ↔ mm_wp d 128 113 [l0, l1, l2, .int x, l4, l5, l6] st h Q := wp_istore_n rfl rfl
theorem s128_113 : mm_wp d 128 113 [.ref a, l1, l2, l3, l4, l5, l6] st h Q ↔ mm_wp d 128 114 [.ref a, l1, l2, l3, l4, l5, l6] (.ref a :: st) h Q := wp_aloadR_n rfl rfl
theorem s128_114 : mm_wp d 128 114 [l0, l1, l2, l3, l4, .int x, l6] st h Q ↔ mm_wp d 128 116 [l0, l1, l2, l3, l4, .int x, l6] (.int x :: st) h Q := wp_iload rfl rfl
theorem s128_116 : mm_wp d 128 116 [.ref a, l1, l2, l3, l4, l5, l6] st h Q ↔ mm_wp d 128 117 [.ref a, l1, l2, l3, l4, l5, l6] (.ref a :: st) h Q := wp_aloadR_n rfl rfl
theorem s128_117 : mm_wp d 128 117 ls (.ref a :: st) h Q ↔ (mm_s h a).1 = 10 ∧ mm_wp d 128 120 ls (mm_o (mm_r h a 16) :: st) h Q := wp_getR rfl rfl
theorem s128_120 : mm_wp d 128 120 [.ref a, l1, l2, l3, l4, l5, l6] st h Q ↔ mm_wp d 128 121 [.ref a, l1, l2, l3, l4, l5, l6] (.ref a :: st) h Q := wp_aloadR_n rfl rfl
theorem s128_121 : mm_wp d 128 121 ls (.ref a :: st) h Q ↔ (mm_s h a).1 = 10 ∧ mm_wp d 128 124 ls (.int (mm_i h a 8) :: st) h Q := wp_getI rfl rfl (by decide) (by decide)
theorem s128_124 : mm_wp d 128 124 ls (.int x :: .ref a :: st) h Q ↔ ((mm_s h a).1 = 20 ∧ mm_in x (mm_s h a).2 = true) ∧ mm_wp d 128 125 ls (.int (mm_i h a x.toNatClampNeg) :: st) h Q := wp_iaload rfl
theorem s128_125 : mm_wp (d + 1) 128 125 ls [.int x3, .int x2, .ref a] h Q ↔ (mm_s h a).1 = 10 ∧ mm_wp d 120 0 [.ref a, .int x2, .int x3, mm_j, mm_j] [] h (mm_bk (d + 1) 128 125 ls [] Q) := wp_virtual rfl rfl ⟨by decide, rfl⟩ ⟨Nat.le_of_ble_eq_true rfl, Nat.le_of_ble_eq_true rfl⟩ rfl rfl rfl rfl rfl rfl
theorem s128_128 : mm_wp d 128 128 [l0, l1, l2, l3, l4, l5, l6] (.int x :: st) h Q ↔ mm_wp d 128 130 [l0, l1, l2, l3, .int x, l5, l6] st h Q := wp_istore rfl rfl
theorem s128_130 : mm_wp d 128 130 [.ref a, l1, l2, l3, l4, l5, l6] st h Q ↔ mm_wp d 128 131 [.ref a, l1, l2, l3, l4, l5, l6] (.ref a :: st) h Q := wp_aloadR_n rfl rfl
theorem s128_131 : mm_wp d 128 131 ls (.ref a :: st) h Q ↔ (mm_s h a).1 = 10 ∧ mm_wp d 128 134 ls (mm_o (mm_r h a 14) :: st) h Q := wp_getR rfl rfl
theorem s128_134 : mm_wp d 128 134 [l0, l1, l2, l3, l4, .int x, l6] st h Q ↔ mm_wp d 128 136 [l0, l1, l2, l3, l4, .int x, l6] (.int x :: st) h Q := wp_iload rfl rfl
theorem s128_136 : mm_wp d 128 136 ls (.int x :: .ref a :: st) h Q ↔ ((mm_s h a).1 = 22 ∧ mm_in x (mm_s h a).2 = true) ∧ mm_wp d 128 137 ls (.int (mm_i h a x.toNatClampNeg) :: st) h Q := wp_baload rfl
theorem s128_137 : mm_wp d 128 137 ls (.int x :: st) h Q ↔ if x = 0 then mm_wp d 128 140 ls st h Q else mm_wp d 128 154 ls st h Q := wp_ifne rfl rfl
theorem s128_140 : mm_wp d 128 140 [.ref a, l1, l2, l3, l4, l5, l6] st h Q ↔ mm_wp d 128 141 [.ref a, l1, l2, l3, l4, l5, l6] (.ref a :: st) h Q := wp_aloadR_n rfl rfl
theorem s128_141 : mm_wp d 128 141 ls (.ref a :: st) h Q ↔ (mm_s h a).1 = 10 ∧ mm_wp d 128 144 ls (mm_o (mm_r h a 16) :: st) h Q := wp_getR rfl rfl
theorem s128_144 : mm_wp d 128 144 [.ref a, l1, l2, l3, l4, l5, l6] st h Q ↔ mm_wp d 128 145 [.ref a, l1, l2, l3, l4, l5, l6] (.ref a :: st) h Q := wp_aloadR_n rfl rfl
theorem s128_145 : mm_wp d 128 145 ls (.ref a :: st) h Q ↔ (mm_s h a).1 = 10 ∧ mm_wp d 128 148 ls (.int (mm_i h a 8) :: st) h Q := wp_getI rfl rfl (by decide) (by decide)
theorem s128_148 : mm_wp d 128 148 ls (.int x :: .ref a :: st) h Q ↔ ((mm_s h a).1 = 20 ∧ mm_in x (mm_s h a).2 = true) ∧ mm_wp d 128 149 ls (.int (mm_i h a x.toNatClampNeg) :: st) h Q := wp_iaload rfl
theorem s128_149 : mm_wp d 128 149 ls st h Q ↔ mm_wp d 128 151 ls (.int (6 : Int32) :: st) h Q := wp_bipush rfl rfl
theorem s128_151 : mm_wp d 128 151 ls (.int x2 :: .int x :: st) h Q ↔ if x = x2 then mm_wp d 128 154 ls st h Q else mm_wp d 128 190 ls st h Q := wp_icmpne rfl rfl
theorem s128_154 : mm_wp d 128 154 [.ref a, l1, l2, l3, l4, l5, l6] st h Q ↔ mm_wp d 128 155 [.ref a, l1, l2, l3, l4, l5, l6] (.ref a :: st) h Q := wp_aloadR_n rfl rfl
theorem s128_155 : mm_wp d 128 155 ls (.ref a :: st) h Q ↔ (mm_s h a).1 = 10 ∧ mm_wp d 128 158 ls (mm_o (mm_r h a 15) :: st) h Q := wp_getR rfl rfl
theorem s128_158 : mm_wp d 128 158 [.ref a, l1, l2, l3, l4, l5, l6] st h Q ↔ mm_wp d 128 159 [.ref a, l1, l2, l3, l4, l5, l6] (.ref a :: st) h Q := wp_aloadR_n rfl rfl
theorem s128_159 : mm_wp d 128 159 ls (.ref a :: st) h Q ↔ (mm_s h a).1 = 10 ∧ mm_wp d 128 162 ls (.int (mm_i h a 8) :: st) h Q := wp_getI rfl rfl (by decide) (by decide)
theorem s128_162 : mm_wp d 128 162 ls (.int x :: .ref a :: st) h Q ↔ mm_wp d 128 163 ls (.int x :: .ref a :: .int x :: .ref a :: st) h Q := wp_dup2 rfl
theorem s128_163 : mm_wp d 128 163 ls (.int x :: .ref a :: st) h Q ↔ ((mm_s h a).1 = 20 ∧ mm_in x (mm_s h a).2 = true) ∧ mm_wp d 128 164 ls (.int (mm_i h a x.toNatClampNeg) :: st) h Q := wp_iaload rfl
theorem s128_164 : mm_wp d 128 164 ls st h Q ↔ mm_wp d 128 165 ls (.int (1 : Int32) :: st) h Q := wp_iconst rfl rfl
theorem s128_165 : mm_wp d 128 165 ls (.int x2 :: .int x :: st) h Q ↔ mm_wp d 128 166 ls (.int (x + x2) :: st) h Q := wp_iadd rfl
theorem s128_166 : mm_wp d 128 166 ls (.int x2 :: .int x :: .ref a :: st) h Q ↔ ((mm_s h a).1 = 20 ∧ ¬ a = 0 ∧ mm_in x (mm_s h a).2 = true) ∧ mm_wp d 128 167 ls st (mm_pi h a x.toNatClampNeg x2) Q := wp_iastore rfl
theorem s128_167 : mm_wp d 128 167 [.ref a, l1, l2, l3, l4, l5, l6] st h Q ↔ mm_wp d 128 168 [.ref a, l1, l2, l3, l4, l5, l6] (.ref a :: st) h Q := wp_aloadR_n rfl rfl
theorem s128_168 : mm_wp d 128 168 ls (.ref a :: st) h Q ↔ (mm_s h a).1 = 10 ∧ mm_wp d 128 171 ls (mm_o (mm_r h a 16) :: st) h Q := wp_getR rfl rfl
theorem s128_171 : mm_wp d 128 171 [.ref a, l1, l2, l3, l4, l5, l6] st h Q ↔ mm_wp d 128 172 [.ref a, l1, l2, l3, l4, l5, l6] (.ref a :: st) h Q := wp_aloadR_n rfl rfl
theorem s128_172 : mm_wp d 128 172 ls (.ref a :: st) h Q ↔ (mm_s h a).1 = 10 ∧ mm_wp d 128 175 ls (.int (mm_i h a 8) :: st) h Q := wp_getI rfl rfl (by decide) (by decide)
theorem s128_175 : mm_wp d 128 175 ls st h Q ↔ mm_wp d 128 176 ls (.int (0 : Int32) :: st) h Q := wp_iconst rfl rfl
theorem s128_176 : mm_wp d 128 176 ls (.int x2 :: .int x :: .ref a :: st) h Q ↔ ((mm_s h a).1 = 20 ∧ ¬ a = 0 ∧ mm_in x (mm_s h a).2 = true) ∧ mm_wp d 128 177 ls st (mm_pi h a x.toNatClampNeg x2) Q := wp_iastore rfl
theorem s128_177 : mm_wp d 128 177 [.ref a, l1, l2, l3, l4, l5, l6] st h Q ↔ mm_wp d 128 178 [.ref a, l1, l2, l3, l4, l5, l6] (.ref a :: st) h Q := wp_aloadR_n rfl rfl
theorem s128_178 : mm_wp d 128 178 ls (.ref a :: st) h Q ↔ (mm_s h a).1 = 10 ∧ mm_wp d 128 181 ls (mm_o (mm_r h a 17) :: st) h Q := wp_getR rfl rfl
theorem s128_181 : mm_wp d 128 181 [.ref a, l1, l2, l3, l4, l5, l6] st h Q ↔ mm_wp d 128 182 [.ref a, l1, l2, l3, l4, l5, l6] (.ref a :: st) h Q := wp_aloadR_n rfl rfl
theorem s128_182 : mm_wp d 128 182 ls (.ref a :: st) h Q ↔ (mm_s h a).1 = 10 ∧ mm_wp d 128 185 ls (.int (mm_i h a 8) :: st) h Q := wp_getI rfl rfl (by decide) (by decide)
theorem s128_185 : mm_wp d 128 185 ls st h Q ↔ mm_wp d 128 186 ls (.int (0 : Int32) :: st) h Q := wp_iconst rfl rfl
theorem s128_186 : mm_wp d 128 186 ls (.int x2 :: .int x :: .ref a :: st) h Q ↔ ((mm_s h a).1 = 20 ∧ ¬ a = 0 ∧ mm_in x (mm_s h a).2 = true) ∧ mm_wp d 128 187 ls st (mm_pi h a x.toNatClampNeg x2) Q := wp_iastore rfl
theorem s128_187 : mm_wp d 128 187 ls st h Q ↔ mm_wp d 128 287 ls st h Q := wp_goto rfl rfl
theorem s128_190 : mm_wp d 128 190 [.ref a, l1, l2, l3, l4, l5, l6] st h Q ↔ mm_wp d 128 191 [.ref a, l1, l2, l3, l4, l5, l6] (.ref a :: st) h Q := wp_aloadR_n rfl rfl
theorem s128_191 : mm_wp d 128 191 ls (.ref a :: st) h Q ↔ (mm_s h a).1 = 10 ∧ mm_wp d 128 194 ls (mm_o (mm_r h a 17) :: st) h Q := wp_getR rfl rfl
theorem s128_194 : mm_wp d 128 194 [.ref a, l1, l2, l3, l4, l5, l6] st h Q ↔ mm_wp d 128 195 [.ref a, l1, l2, l3, l4, l5, l6] (.ref a :: st) h Q := wp_aloadR_n rfl rfl
theorem s128_195 : mm_wp d 128 195 ls (.ref a :: st) h Q ↔ (mm_s h a).1 = 10 ∧ mm_wp d 128 198 ls (.int (mm_i h a 8) :: st) h Q := wp_getI rfl rfl (by decide) (by decide)
theorem s128_198 : mm_wp d 128 198 ls (.int x :: .ref a :: st) h Q ↔ ((mm_s h a).1 = 20 ∧ mm_in x (mm_s h a).2 = true) ∧ mm_wp d 128 199 ls (.int (mm_i h a x.toNatClampNeg) :: st) h Q := wp_iaload rfl
theorem s128_199 : mm_wp d 128 199 [l0, l1, .int x, l3, l4, l5, l6] st h Q ↔ mm_wp d 128 200 [l0, l1, .int x, l3, l4, l5, l6] (.int x :: st) h Q := wp_iload_n rfl rfl
theorem s128_200 : mm_wp d 128 200 ls (.int x2 :: .int x :: st) h Q ↔ if x = x2 then mm_wp d 128 208 ls st h Q else mm_wp d 128 203 ls st h Q := wp_icmpeq rfl rfl
theorem s128_203 : mm_wp d 128 203 [l0, l1, l2, l3, .int x, l5, l6] st h Q ↔ mm_wp d 128 205 [l0, l1, l2, l3, .int x, l5, l6] (.int x :: st) h Q := wp_iload rfl rfl
theorem s128_205 : mm_wp d 128 205 ls (.int x :: st) h Q ↔ if x = 0 then mm_wp d 128 208 ls st h Q else mm_wp d 128 234 ls st h Q := wp_ifne rfl rfl
theorem s128_208 : mm_wp d 128 208 [.ref a, l1, l2, l3, l4, l5, l6] st h Q ↔ mm_wp d 128 209 [.ref a, l1, l2, l3, l4, l5, l6] (.ref a :: st) h Q := wp_aloadR_n rfl rfl
theorem s128_209 : mm_wp d 128 209 ls (.ref a :: st) h Q ↔ (mm_s h a).1 = 10 ∧ mm_wp d 128 212 ls (mm_o (mm_r h a 16) :: st) h Q := wp_getR rfl rfl
theorem s128_212 : mm_wp d 128 212 [.ref a, l1, l2, l3, l4, l5, l6] st h Q ↔ mm_wp d 128 213 [.ref a, l1, l2, l3, l4, l5, l6] (.ref a :: st) h Q := wp_aloadR_n rfl rfl
theorem s128_213 : mm_wp d 128 213 ls (.ref a :: st) h Q ↔ (mm_s h a).1 = 10 ∧ mm_wp d 128 216 ls (.int (mm_i h a 8) :: st) h Q := wp_getI rfl rfl (by decide) (by decide)
theorem s128_216 : mm_wp d 128 216 ls (.int x :: .ref a :: st) h Q ↔ mm_wp d 128 217 ls (.int x :: .ref a :: .int x :: .ref a :: st) h Q := wp_dup2 rfl
theorem s128_217 : mm_wp d 128 217 ls (.int x :: .ref a :: st) h Q ↔ ((mm_s h a).1 = 20 ∧ mm_in x (mm_s h a).2 = true) ∧ mm_wp d 128 218 ls (.int (mm_i h a x.toNatClampNeg) :: st) h Q := wp_iaload rfl
theorem s128_218 : mm_wp d 128 218 ls st h Q ↔ mm_wp d 128 219 ls (.int (1 : Int32) :: st) h Q := wp_iconst rfl rfl
theorem s128_219 : mm_wp d 128 219 ls (.int x2 :: .int x :: st) h Q ↔ mm_wp d 128 220 ls (.int (x + x2) :: st) h Q := wp_iadd rfl
theorem s128_220 : mm_wp d 128 220 ls (.int x2 :: .int x :: .ref a :: st) h Q ↔ ((mm_s h a).1 = 20 ∧ ¬ a = 0 ∧ mm_in x (mm_s h a).2 = true) ∧ mm_wp d 128 221 ls st (mm_pi h a x.toNatClampNeg x2) Q := wp_iastore rfl
theorem s128_221 : mm_wp d 128 221 [.ref a, l1, l2, l3, l4, l5, l6] st h Q ↔ mm_wp d 128 222 [.ref a, l1, l2, l3, l4, l5, l6] (.ref a :: st) h Q := wp_aloadR_n rfl rfl
theorem s128_222 : mm_wp d 128 222 ls (.ref a :: st) h Q ↔ (mm_s h a).1 = 10 ∧ mm_wp d 128 225 ls (mm_o (mm_r h a 17) :: st) h Q := wp_getR rfl rfl
theorem s128_225 : mm_wp d 128 225 [.ref a, l1, l2, l3, l4, l5, l6] st h Q ↔ mm_wp d 128 226 [.ref a, l1, l2, l3, l4, l5, l6] (.ref a :: st) h Q := wp_aloadR_n rfl rfl
theorem s128_226 : mm_wp d 128 226 ls (.ref a :: st) h Q ↔ (mm_s h a).1 = 10 ∧ mm_wp d 128 229 ls (.int (mm_i h a 8) :: st) h Q := wp_getI rfl rfl (by decide) (by decide)
theorem s128_229 : mm_wp d 128 229 ls st h Q ↔ mm_wp d 128 230 ls (.int (0 : Int32) :: st) h Q := wp_iconst rfl rfl
theorem s128_230 : mm_wp d 128 230 ls (.int x2 :: .int x :: .ref a :: st) h Q ↔ ((mm_s h a).1 = 20 ∧ ¬ a = 0 ∧ mm_in x (mm_s h a).2 = true) ∧ mm_wp d 128 231 ls st (mm_pi h a x.toNatClampNeg x2) Q := wp_iastore rfl
theorem s128_231 : mm_wp d 128 231 ls st h Q ↔ mm_wp d 128 287 ls st h Q := wp_goto rfl rfl
theorem s128_234 : mm_wp d 128 234 [.ref a, l1, l2, l3, l4, l5, l6] st h Q ↔ mm_wp d 128 235 [.ref a, l1, l2, l3, l4, l5, l6] (.ref a :: st) h Q := wp_aloadR_n rfl rfl
theorem s128_235 : mm_wp d 128 235 ls (.ref a :: st) h Q ↔ (mm_s h a).1 = 10 ∧ mm_wp d 128 238 ls (mm_o (mm_r h a 17) :: st) h Q := wp_getR rfl rfl
theorem s128_238 : mm_wp d 128 238 [.ref a, l1, l2, l3, l4, l5, l6] st h Q ↔ mm_wp d 128 239 [.ref a, l1, l2, l3, l4, l5, l6] (.ref a :: st) h Q := wp_aloadR_n rfl rfl
theorem s128_239 : mm_wp d 128 239 ls (.ref a :: st) h Q ↔ (mm_s h a).1 = 10 ∧ mm_wp d 128 242 ls (.int (mm_i h a 8) :: st) h Q := wp_getI rfl rfl (by decide) (by decide)
theorem s128_242 : mm_wp d 128 242 ls (.int x :: .ref a :: st) h Q ↔ ((mm_s h a).1 = 20 ∧ mm_in x (mm_s h a).2 = true) ∧ mm_wp d 128 243 ls (.int (mm_i h a x.toNatClampNeg) :: st) h Q := wp_iaload rfl
theorem s128_243 : mm_wp d 128 243 [l0, l1, l2, l3, l4, l5, l6] (.int x :: st) h Q ↔ mm_wp d 128 245 [l0, l1, l2, l3, l4, l5, .int x] st h Q := wp_istore rfl rfl
theorem s128_245 : mm_wp d 128 245 [.ref a, l1, l2, l3, l4, l5, l6] st h Q ↔ mm_wp d 128 246 [.ref a, l1, l2, l3, l4, l5, l6] (.ref a :: st) h Q := wp_aloadR_n rfl rfl
theorem s128_246 : mm_wp d 128 246 ls (.ref a :: st) h Q ↔ (mm_s h a).1 = 10 ∧ mm_wp d 128 249 ls (mm_o (mm_r h a 17) :: st) h Q := wp_getR rfl rfl
theorem s128_249 : mm_wp d 128 249 [.ref a, l1, l2, l3, l4, l5, l6] st h Q ↔ mm_wp d 128 250 [.ref a, l1, l2, l3, l4, l5, l6] (.ref a :: st) h Q := wp_aloadR_n rfl rfl
theorem s128_250 : mm_wp d 128 250 ls (.ref a :: st) h Q ↔ (mm_s h a).1 = 10 ∧ mm_wp d 128 253 ls (.int (mm_i h a 8) :: st) h Q := wp_getI rfl rfl (by decide) (by decide)
theorem s128_253 : mm_wp d 128 253 ls (.int x :: .ref a :: st) h Q ↔ mm_wp d 128 254 ls (.int x :: .ref a :: .int x :: .ref a :: st) h Q := wp_dup2 rfl
theorem s128_254 : mm_wp d 128 254 ls (.int x :: .ref a :: st) h Q ↔ ((mm_s h a).1 = 20 ∧ mm_in x (mm_s h a).2 = true) ∧ mm_wp d 128 255 ls (.int (mm_i h a x.toNatClampNeg) :: st) h Q := wp_iaload rfl
theorem s128_255 : mm_wp d 128 255 ls st h Q ↔ mm_wp d 128 256 ls (.int (1 : Int32) :: st) h Q := wp_iconst rfl rfl
theorem s128_256 : mm_wp d 128 256 ls (.int x2 :: .int x :: st) h Q ↔ mm_wp d 128 257 ls (.int (x + x2) :: st) h Q := wp_iadd rfl
theorem s128_257 : mm_wp d 128 257 ls (.int x2 :: .int x :: .ref a :: st) h Q ↔ ((mm_s h a).1 = 20 ∧ ¬ a = 0 ∧ mm_in x (mm_s h a).2 = true) ∧ mm_wp d 128 258 ls st (mm_pi h a x.toNatClampNeg x2) Q := wp_iastore rfl
theorem s128_258 : mm_wp d 128 258 [.ref a, l1, l2, l3, l4, l5, l6] st h Q ↔ mm_wp d 128 259 [.ref a, l1, l2, l3, l4, l5, l6] (.ref a :: st) h Q := wp_aloadR_n rfl rfl
theorem s128_259 : mm_wp d 128 259 [l0, l1, l2, l3, l4, .int x, l6] st h Q ↔ mm_wp d 128 261 [l0, l1, l2, l3, l4, .int x, l6] (.int x :: st) h Q := wp_iload rfl rfl
theorem s128_261 : mm_wp d 128 261 [.ref a, l1, l2, l3, l4, l5, l6] st h Q ↔ mm_wp d 128 262 [.ref a, l1, l2, l3, l4, l5, l6] (.ref a :: st) h Q := wp_aloadR_n rfl rfl
theorem s128_262 : mm_wp d 128 262 [l0, l1, l2, l3, l4, l5, .int x] st h Q ↔ mm_wp d 128 264 [l0, l1, l2, l3, l4, l5, .int x] (.int x :: st) h Q := wp_iload rfl rfl
theorem s128_264 : mm_wp (d + 1) 128 264 ls [.int x2, .ref a, t1, t0] h Q ↔ (mm_s h a).1 = 10 ∧ mm_wp d 129 0 [.ref a, .int x2] [] h (mm_bk (d + 1) 128 264 ls [t1, t0] Q) := wp_virtual rfl rfl ⟨by decide, rfl⟩ ⟨Nat.le_of_ble_eq_true rfl, Nat.le_of_ble_eq_true rfl⟩ rfl rfl rfl rfl rfl rfl
theorem s128_267 : mm_wp d 128 267 [.ref a, l1, l2, l3, l4, l5, l6] st h Q ↔ mm_wp d 128 268 [.ref a, l1, l2, l3, l4, l5, l6] (.ref a :: st) h Q := wp_aloadR_n rfl rfl
theorem s128_268 : mm_wp d 128 268 [l0, l1, l2, l3, l4, l5, .int x] st h Q ↔ mm_wp d 128 270 [l0, l1, l2, l3, l4, l5, .int x] (.int x :: st) h Q := wp_iload rfl rfl
theorem s128_270 : mm_wp (d + 1) 128 270 ls [.int x2, .ref a, t2, t1, t0] h Q ↔ (mm_s h a).1 = 10 ∧ mm_wp d 130 0 [.ref a, .int x2] [] h (mm_bk (d + 1) 128 270 ls [t2, t1, t0] Q) := wp_virtual rfl rfl ⟨by decide, rfl⟩ ⟨Nat.le_of_ble_eq_true rfl, Nat.le_of_ble_eq_true rfl⟩ rfl rfl rfl rfl rfl rfl
theorem s128_273 : mm_wp d 128 273 [.ref a, l1, l2, l3, l4, l5, l6] st h Q ↔ mm_wp d 128 274 [.ref a, l1, l2, l3, l4, l5, l6] (.ref a :: st) h Q := wp_aloadR_n rfl rfl
theorem s128_274 : mm_wp d 128 274 [l0, l1, l2, l3, l4, l5, .int x] st h Q ↔ mm_wp d 128 276 [l0, l1, l2, l3, l4, l5, .int x] (.int x :: st) h Q := wp_iload rfl rfl
theorem s128_276 : mm_wp (d + 1) 128 276 ls [.int x2, .ref a, t3, t2, t1, t0] h Q ↔ (mm_s h a).1 = 10 ∧ mm_wp d 131 0 [.ref a, .int x2] [] h (mm_bk (d + 1) 128 276 ls [t3, t2, t1, t0] Q) := wp_virtual rfl rfl ⟨by decide, rfl⟩ ⟨Nat.le_of_ble_eq_true rfl, Nat.le_of_ble_eq_true rfl⟩ rfl rfl rfl rfl rfl rfl
theorem s128_279 : mm_wp (d + 1) 128 279 ls [.int x5, .int x4, .int x3, .int x2, .ref a] h Q ↔ (mm_s h a).1 = 10 ∧ mm_wp d 132 0 [.ref a, .int x2, .int x3, .int x4, .int x5, mm_j, mm_j, mm_j, mm_j, mm_j, mm_j, mm_j, mm_j, mm_j, mm_j] [] h (mm_bk (d + 1) 128 279 ls [] Q) := wp_virtual rfl rfl ⟨by decide, rfl⟩ ⟨Nat.le_of_ble_eq_true rfl, Nat.le_of_ble_eq_true rfl⟩ rfl rfl rfl rfl rfl rfl
theorem s128_282 : mm_wp d 128 282 ls (.int x :: st) h Q ↔ if x = 0 then mm_wp d 128 287 ls st h Q else mm_wp d 128 285 ls st h Q := wp_ifeq rfl rfl
theorem s128_285 : mm_wp d 128 285 ls st h Q ↔ mm_wp d 128 286 ls (.int (1 : Int32) :: st) h Q := wp_iconst rfl rfl
theorem s128_286 : mm_wp d 128 286 ls (.int x :: st) h Q ↔ (x = 0 ∨ x = 1) ∧ Q (.inl (some (.int x))) h := wp_zret rfl rfl
theorem s128_287 : mm_wp d 128 287 ls st h Q ↔ mm_wp d 128 37 ls st h Q := wp_goto rfl rfl
theorem s128_290 : mm_wp d 128 290 ls st h Q ↔ mm_wp d 128 291 ls (.int (0 : Int32) :: st) h Q := wp_iconst rfl rfl
theorem s128_291 : mm_wp d 128 291 ls (.int x :: st) h Q ↔ (x = 0 ∨ x = 1) ∧ Q (.inl (some (.int x))) h := wp_zret rfl rfl
/-! 129: LoadRoomModel.cornerX(I)I -/
theorem s129_0 : mm_wp d 129 0 [.ref a, l1] st h Q ↔ mm_wp d 129 1 [.ref a, l1] (.ref a :: st) h Q := wp_aloadR_n rfl rfl
theorem s129_1 : mm_wp d 129 1 ls (.ref a :: st) h Q ↔ (mm_s h a).1 = 10 ∧ mm_wp d 129 4 ls (mm_o (mm_r h a 18) :: st) h Q := wp_getR rfl rfl
theorem s129_4 : mm_wp d 129 4 ls st h Q ↔ mm_wp d 129 6 ls (.int (27 : Int32) :: st) h Q := wp_bipush rfl rfl
theorem s129_6 : mm_wp d 129 6 [.ref a, l1] st h Q ↔ mm_wp d 129 7 [.ref a, l1] (.ref a :: st) h Q := wp_aloadR_n rfl rfl
theorem s129_7 : mm_wp d 129 7 ls (.ref a :: st) h Q ↔ (mm_s h a).1 = 10 ∧ mm_wp d 129 10 ls (.int (mm_i h a 8) :: st) h Q := wp_getI rfl rfl (by decide) (by decide)
theorem s129_10 : mm_wp d 129 10 ls (.int x2 :: .int x :: st) h Q ↔ mm_wp d 129 11 ls (.int (x * x2) :: st) h Q := wp_imul rfl
theorem s129_11 : mm_wp d 129 11 [l0, .int x] st h Q ↔ mm_wp d 129 12 [l0, .int x] (.int x :: st) h Q := wp_iload_n rfl rfl
theorem s129_12 : mm_wp d 129 12 [.ref a, l1] st h Q ↔ mm_wp d 129 13 [.ref a, l1] (.ref a :: st) h Q := wp_aloadR_n rfl rfl
theorem s129_13 : mm_wp d 129 13 ls (.ref a :: st) h Q ↔ (mm_s h a).1 = 10 ∧ mm_wp d 129 16 ls (mm_o (mm_r h a 19) :: st) h Q := wp_getR rfl rfl
theorem s129_16 : mm_wp d 129 16 ls st h Q ↔ mm_wp d 129 17 ls (.int (3 : Int32) :: st) h Q := wp_iconst rfl rfl
theorem s129_17 : mm_wp d 129 17 [.ref a, l1] st h Q ↔ mm_wp d 129 18 [.ref a, l1] (.ref a :: st) h Q := wp_aloadR_n rfl rfl
theorem s129_18 : mm_wp d 129 18 ls (.ref a :: st) h Q ↔ (mm_s h a).1 = 10 ∧ mm_wp d 129 21 ls (.int (mm_i h a 8) :: st) h Q := wp_getI rfl rfl (by decide) (by decide)
theorem s129_21 : mm_wp d 129 21 ls (.int x2 :: .int x :: st) h Q ↔ mm_wp d 129 22 ls (.int (x * x2) :: st) h Q := wp_imul rfl
theorem s129_22 : mm_wp d 129 22 ls (.int x :: .ref a :: st) h Q ↔ ((mm_s h a).1 = 20 ∧ mm_in x (mm_s h a).2 = true) ∧ mm_wp d 129 23 ls (.int (mm_i h a x.toNatClampNeg) :: st) h Q := wp_iaload rfl
theorem s129_23 : mm_wp d 129 23 ls (.int x2 :: .int x :: st) h Q ↔ ¬ x2 = 0 ∧ mm_wp d 129 24 ls (.int (x - x / x2 * x2) :: st) h Q := wp_irem rfl
theorem s129_24 : mm_wp d 129 24 ls (.int x2 :: .int x :: st) h Q ↔ mm_wp d 129 25 ls (.int (x + x2) :: st) h Q := wp_iadd rfl
theorem s129_25 : mm_wp d 129 25 ls (.int x :: .ref a :: st) h Q ↔ ((mm_s h a).1 = 20 ∧ mm_in x (mm_s h a).2 = true) ∧ mm_wp d 129 26 ls (.int (mm_i h a x.toNatClampNeg) :: st) h Q := wp_iaload rfl
theorem s129_26 : mm_wp d 129 26 ls (.int x :: st) h Q ↔ Q (.inl (some (.int x))) h := wp_iret rfl rfl
/-! 130: LoadRoomModel.cornerY(I)I -/
theorem s130_0 : mm_wp d 130 0 [.ref a, l1] st h Q ↔ mm_wp d 130 1 [.ref a, l1] (.ref a :: st) h Q := wp_aloadR_n rfl rfl
theorem s130_1 : mm_wp d 130 1 ls (.ref a :: st) h Q ↔ (mm_s h a).1 = 10 ∧ mm_wp d 130 4 ls (mm_o (mm_r h a 18) :: st) h Q := wp_getR rfl rfl
theorem s130_4 : mm_wp d 130 4 ls st h Q ↔ mm_wp d 130 6 ls (.int (27 : Int32) :: st) h Q := wp_bipush rfl rfl
theorem s130_6 : mm_wp d 130 6 [.ref a, l1] st h Q ↔ mm_wp d 130 7 [.ref a, l1] (.ref a :: st) h Q := wp_aloadR_n rfl rfl
theorem s130_7 : mm_wp d 130 7 ls (.ref a :: st) h Q ↔ (mm_s h a).1 = 10 ∧ mm_wp d 130 10 ls (.int (mm_i h a 8) :: st) h Q := wp_getI rfl rfl (by decide) (by decide)
theorem s130_10 : mm_wp d 130 10 ls (.int x2 :: .int x :: st) h Q ↔ mm_wp d 130 11 ls (.int (x * x2) :: st) h Q := wp_imul rfl
theorem s130_11 : mm_wp d 130 11 ls st h Q ↔ mm_wp d 130 13 ls (.int (9 : Int32) :: st) h Q := wp_bipush rfl rfl
theorem s130_13 : mm_wp d 130 13 ls (.int x2 :: .int x :: st) h Q ↔ mm_wp d 130 14 ls (.int (x + x2) :: st) h Q := wp_iadd rfl
theorem s130_14 : mm_wp d 130 14 [l0, .int x] st h Q ↔ mm_wp d 130 15 [l0, .int x] (.int x :: st) h Q := wp_iload_n rfl rfl
theorem s130_15 : mm_wp d 130 15 [.ref a, l1] st h Q ↔ mm_wp d 130 16 [.ref a, l1] (.ref a :: st) h Q := wp_aloadR_n rfl rfl
theorem s130_16 : mm_wp d 130 16 ls (.ref a :: st) h Q ↔ (mm_s h a).1 = 10 ∧ mm_wp d 130 19 ls (mm_o (mm_r h a 19) :: st) h Q := wp_getR rfl rfl
theorem s130_19 : mm_wp d 130 19 ls st h Q ↔ mm_wp d 130 20 ls (.int (3 : Int32) :: st) h Q := wp_iconst rfl rfl
theorem s130_20 : mm_wp d 130 20 [.ref a, l1] st h Q ↔ mm_wp d 130 21 [.ref a, l1] (.ref a :: st) h Q := wp_aloadR_n rfl rfl
theorem s130_21 : mm_wp d 130 21 ls (.ref a :: st) h Q ↔ (mm_s h a).1 = 10 ∧ mm_wp d 130 24 ls (.int (mm_i h a 8) :: st) h Q := wp_getI rfl rfl (by decide) (by decide)
theorem s130_24 : mm_wp d 130 24 ls (.int x2 :: .int x :: st) h Q ↔ mm_wp d 130 25 ls (.int (x * x2) :: st) h Q := wp_imul rfl
theorem s130_25 : mm_wp d 130 25 ls (.int x :: .ref a :: st) h Q ↔ ((mm_s h a).1 = 20 ∧ mm_in x (mm_s h a).2 = true) ∧ mm_wp d 130 26 ls (.int (mm_i h a x.toNatClampNeg) :: st) h Q := wp_iaload rfl
theorem s130_26 : mm_wp d 130 26 ls (.int x2 :: .int x :: st) h Q ↔ ¬ x2 = 0 ∧ mm_wp d 130 27 ls (.int (x / x2) :: st) h Q := wp_idiv rfl
theorem s130_27 : mm_wp d 130 27 [.ref a, l1] st h Q ↔ mm_wp d 130 28 [.ref a, l1] (.ref a :: st) h Q := wp_aloadR_n rfl rfl
theorem s130_28 : mm_wp d 130 28 ls (.ref a :: st) h Q ↔ (mm_s h a).1 = 10 ∧ mm_wp d 130 31 ls (mm_o (mm_r h a 19) :: st) h Q := wp_getR rfl rfl
theorem s130_31 : mm_wp d 130 31 ls st h Q ↔ mm_wp d 130 32 ls (.int (3 : Int32) :: st) h Q := wp_iconst rfl rfl
theorem s130_32 : mm_wp d 130 32 [.ref a, l1] st h Q ↔ mm_wp d 130 33 [.ref a, l1] (.ref a :: st) h Q := wp_aloadR_n rfl rfl
theorem s130_33 : mm_wp d 130 33 ls (.ref a :: st) h Q ↔ (mm_s h a).1 = 10 ∧ mm_wp d 130 36 ls (.int (mm_i h a 8) :: st) h Q := wp_getI rfl rfl (by decide) (by decide)
theorem s130_36 : mm_wp d 130 36 ls (.int x2 :: .int x :: st) h Q ↔ mm_wp d 130 37 ls (.int (x * x2) :: st) h Q := wp_imul rfl
theorem s130_37 : mm_wp d 130 37 ls st h Q ↔ mm_wp d 130 38 ls (.int (2 : Int32) :: st) h Q := wp_iconst rfl rfl
theorem s130_38 : mm_wp d 130 38 ls (.int x2 :: .int x :: st) h Q ↔ mm_wp d 130 39 ls (.int (x + x2) :: st) h Q := wp_iadd rfl
theorem s130_39 : mm_wp d 130 39 ls (.int x :: .ref a :: st) h Q ↔ ((mm_s h a).1 = 20 ∧ mm_in x (mm_s h a).2 = true) ∧ mm_wp d 130 40 ls (.int (mm_i h a x.toNatClampNeg) :: st) h Q := wp_iaload rfl
theorem s130_40 : mm_wp d 130 40 ls (.int x2 :: .int x :: st) h Q ↔ ¬ x2 = 0 ∧ mm_wp d 130 41 ls (.int (x / x2) :: st) h Q := wp_idiv rfl
theorem s130_41 : mm_wp d 130 41 ls (.int x2 :: .int x :: st) h Q ↔ mm_wp d 130 42 ls (.int (x + x2) :: st) h Q := wp_iadd rfl
theorem s130_42 : mm_wp d 130 42 ls (.int x :: .ref a :: st) h Q ↔ ((mm_s h a).1 = 20 ∧ mm_in x (mm_s h a).2 = true) ∧ mm_wp d 130 43 ls (.int (mm_i h a x.toNatClampNeg) :: st) h Q := wp_iaload rfl
theorem s130_43 : mm_wp d 130 43 ls (.int x :: st) h Q ↔ Q (.inl (some (.int x))) h := wp_iret rfl rfl
/-! 131: LoadRoomModel.cornerZ(I)I -/
theorem s131_0 : mm_wp d 131 0 [.ref a, l1] st h Q ↔ mm_wp d 131 1 [.ref a, l1] (.ref a :: st) h Q := wp_aloadR_n rfl rfl
theorem s131_1 : mm_wp d 131 1 ls (.ref a :: st) h Q ↔ (mm_s h a).1 = 10 ∧ mm_wp d 131 4 ls (mm_o (mm_r h a 18) :: st) h Q := wp_getR rfl rfl
theorem s131_4 : mm_wp d 131 4 ls st h Q ↔ mm_wp d 131 6 ls (.int (27 : Int32) :: st) h Q := wp_bipush rfl rfl
theorem s131_6 : mm_wp d 131 6 [.ref a, l1] st h Q ↔ mm_wp d 131 7 [.ref a, l1] (.ref a :: st) h Q := wp_aloadR_n rfl rfl
theorem s131_7 : mm_wp d 131 7 ls (.ref a :: st) h Q ↔ (mm_s h a).1 = 10 ∧ mm_wp d 131 10 ls (.int (mm_i h a 8) :: st) h Q := wp_getI rfl rfl (by decide) (by decide)
theorem s131_10 : mm_wp d 131 10 ls (.int x2 :: .int x :: st) h Q ↔ mm_wp d 131 11 ls (.int (x * x2) :: st) h Q := wp_imul rfl
theorem s131_11 : mm_wp d 131 11 ls st h Q ↔ mm_wp d 131 13 ls (.int (18 : Int32) :: st) h Q := wp_bipush rfl rfl
theorem s131_13 : mm_wp d 131 13 ls (.int x2 :: .int x :: st) h Q ↔ mm_wp d 131 14 ls (.int (x + x2) :: st) h Q := wp_iadd rfl
theorem s131_14 : mm_wp d 131 14 [l0, .int x] st h Q ↔ mm_wp d 131 15 [l0, .int x] (.int x :: st) h Q := wp_iload_n rfl rfl
theorem s131_15 : mm_wp d 131 15 [.ref a, l1] st h Q ↔ mm_wp d 131 16 [.ref a, l1] (.ref a :: st) h Q := wp_aloadR_n rfl rfl
theorem s131_16 : mm_wp d 131 16 ls (.ref a :: st) h Q ↔ (mm_s h a).1 = 10 ∧ mm_wp d 131 19 ls (mm_o (mm_r h a 19) :: st) h Q := wp_getR rfl rfl
theorem s131_19 : mm_wp d 131 19 ls st h Q ↔ mm_wp d 131 20 ls (.int (3 : Int32) :: st) h Q := wp_iconst rfl rfl
theorem s131_20 : mm_wp d 131 20 [.ref a, l1] st h Q ↔ mm_wp d 131 21 [.ref a, l1] (.ref a :: st) h Q := wp_aloadR_n rfl rfl
theorem s131_21 : mm_wp d 131 21 ls (.ref a :: st) h Q ↔ (mm_s h a).1 = 10 ∧ mm_wp d 131 24 ls (.int (mm_i h a 8) :: st) h Q := wp_getI rfl rfl (by decide) (by decide)
theorem s131_24 : mm_wp d 131 24 ls (.int x2 :: .int x :: st) h Q ↔ mm_wp d 131 25 ls (.int (x * x2) :: st) h Q := wp_imul rfl
theorem s131_25 : mm_wp d 131 25 ls (.int x :: .ref a :: st) h Q ↔ ((mm_s h a).1 = 20 ∧ mm_in x (mm_s h a).2 = true) ∧ mm_wp d 131 26 ls (.int (mm_i h a x.toNatClampNeg) :: st) h Q := wp_iaload rfl
theorem s131_26 : mm_wp d 131 26 ls (.int x2 :: .int x :: st) h Q ↔ ¬ x2 = 0 ∧ mm_wp d 131 27 ls (.int (x / x2) :: st) h Q := wp_idiv rfl
theorem s131_27 : mm_wp d 131 27 [.ref a, l1] st h Q ↔ mm_wp d 131 28 [.ref a, l1] (.ref a :: st) h Q := wp_aloadR_n rfl rfl
theorem s131_28 : mm_wp d 131 28 ls (.ref a :: st) h Q ↔ (mm_s h a).1 = 10 ∧ mm_wp d 131 31 ls (mm_o (mm_r h a 19) :: st) h Q := wp_getR rfl rfl
theorem s131_31 : mm_wp d 131 31 ls st h Q ↔ mm_wp d 131 32 ls (.int (3 : Int32) :: st) h Q := wp_iconst rfl rfl
theorem s131_32 : mm_wp d 131 32 [.ref a, l1] st h Q ↔ mm_wp d 131 33 [.ref a, l1] (.ref a :: st) h Q := wp_aloadR_n rfl rfl
theorem s131_33 : mm_wp d 131 33 ls (.ref a :: st) h Q ↔ (mm_s h a).1 = 10 ∧ mm_wp d 131 36 ls (.int (mm_i h a 8) :: st) h Q := wp_getI rfl rfl (by decide) (by decide)
theorem s131_36 : mm_wp d 131 36 ls (.int x2 :: .int x :: st) h Q ↔ mm_wp d 131 37 ls (.int (x * x2) :: st) h Q := wp_imul rfl
theorem s131_37 : mm_wp d 131 37 ls st h Q ↔ mm_wp d 131 38 ls (.int (2 : Int32) :: st) h Q := wp_iconst rfl rfl
theorem s131_38 : mm_wp d 131 38 ls (.int x2 :: .int x :: st) h Q ↔ mm_wp d 131 39 ls (.int (x + x2) :: st) h Q := wp_iadd rfl
theorem s131_39 : mm_wp d 131 39 ls (.int x :: .ref a :: st) h Q ↔ ((mm_s h a).1 = 20 ∧ mm_in x (mm_s h a).2 = true) ∧ mm_wp d 131 40 ls (.int (mm_i h a x.toNatClampNeg) :: st) h Q := wp_iaload rfl
theorem s131_40 : mm_wp d 131 40 ls (.int x2 :: .int x :: st) h Q ↔ ¬ x2 = 0 ∧ mm_wp d 131 41 ls (.int (x - x / x2 * x2) :: st) h Q := wp_irem rfl
theorem s131_41 : mm_wp d 131 41 ls (.int x2 :: .int x :: st) h Q ↔ mm_wp d 131 42 ls (.int (x + x2) :: st) h Q := wp_iadd rfl
theorem s131_42 : mm_wp d 131 42 ls (.int x :: .ref a :: st) h Q ↔ ((mm_s h a).1 = 20 ∧ mm_in x (mm_s h a).2 = true) ∧ mm_wp d 131 43 ls (.int (mm_i h a x.toNatClampNeg) :: st) h Q := wp_iaload rfl
theorem s131_43 : mm_wp d 131 43 ls (.int x :: st) h Q ↔ Q (.inl (some (.int x))) h := wp_iret rfl rfl
end
