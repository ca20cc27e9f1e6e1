/-! rows of the program, by rows.py -/
section
variable {d : Nat} {ls st : List Value} {h : mm_H} {Q : mm_Q} {o : Option Nat} {a b c : Nat} {x y x1 x2 x3 x4 x5 x6 : Int32} {w w2 w3 w4 : Int64} {q : UInt32} {l0 l1 l2 l3 l4 l5 l6 l7 l8 l9 l10 l11 l12 l13 l14 l15 l16 t0 t1 t2 t3 t4 t5 : Value}
/-! 103: LoadRoom$Axles.firstOfTwo(I)I -/
theorem s103_0 : mm_wp d 103 0 ls st h Q ↔ mm_wp d 103 1 ls (.int (0 : Int32) :: st) h Q := wp_iconst rfl rfl
theorem s103_1 : mm_wp d 103 1 [l0, l1, l2, l3] (.int x :: st) h Q ↔ mm_wp d 103 2 [l0, l1, .int x, l3] st h Q := wp_istore_n rfl rfl
theorem s103_2 : mm_wp d 103 2 ls st h Q ↔ mm_wp d 103 3 ls (.int (1 : Int32) :: st) h Q := wp_iconst rfl rfl
theorem s103_3 : mm_wp d 103 3 [l0, l1, l2, l3] (.int x :: st) h Q ↔ mm_wp d 103 4 [l0, l1, l2, .int x] st h Q := wp_istore_n rfl rfl
theorem s103_4 : mm_wp d 103 4 [l0, l1, l2, .int x] st h Q ↔ mm_wp d 103 5 [l0, l1, l2, .int x] (.int x :: st) h Q := wp_iload_n rfl rfl
theorem s103_5 : mm_wp d 103 5 [.ref a, l1, l2, l3] st h Q ↔ mm_wp d 103 6 [.ref a, l1, l2, l3] (.ref a :: st) h Q := wp_aloadR_n rfl rfl
theorem s103_6 : mm_wp d 103 6 ls (.ref a :: st) h Q ↔ (mm_s h a).1 = 0 ∧ mm_wp d 103 9 ls (.int (mm_i h a 1) :: st) h Q := wp_getI rfl rfl (by decide) (by decide)
theorem s103_9 : mm_wp d 103 9 ls st h Q ↔ mm_wp d 103 10 ls (.int (1 : Int32) :: st) h Q := wp_iconst rfl rfl
theorem s103_10 : mm_wp d 103 10 ls (.int x2 :: .int x :: st) h Q ↔ mm_wp d 103 11 ls (.int (x - x2) :: st) h Q := wp_isub rfl
theorem s103_11 : mm_wp d 103 11 ls (.int x2 :: .int x :: st) h Q ↔ if x2 ≤ x then mm_wp d 103 34 ls st h Q else mm_wp d 103 14 ls st h Q := wp_icmpge rfl rfl
theorem s103_14 : mm_wp d 103 14 ls st h Q ↔ mm_wp d 103 15 ls (.int (2 : Int32) :: st) h Q := wp_iconst rfl rfl
theorem s103_15 : mm_wp d 103 15 [.ref a, l1, l2, l3] st h Q ↔ mm_wp d 103 16 [.ref a, l1, l2, l3] (.ref a :: st) h Q := wp_aloadR_n rfl rfl
theorem s103_16 : mm_wp d 103 16 ls (.ref a :: st) h Q ↔ (mm_s h a).1 = 0 ∧ mm_wp d 103 19 ls (mm_o (mm_r h a 0) :: st) h Q := wp_getR rfl rfl
theorem s103_19 : mm_wp d 103 19 [l0, l1, l2, .int x] st h Q ↔ mm_wp d 103 20 [l0, l1, l2, .int x] (.int x :: st) h Q := wp_iload_n rfl rfl
theorem s103_20 : mm_wp d 103 20 ls (.int x :: .ref a :: st) h Q ↔ ((mm_s h a).1 = 20 ∧ mm_in x (mm_s h a).2 = true) ∧ mm_wp d 103 21 ls (.int (mm_i h a x.toNatClampNeg) :: st) h Q := wp_iaload rfl
theorem s103_21 : mm_wp d 103 21 ls (.int x2 :: .int x :: st) h Q ↔ mm_wp d 103 22 ls (.int (x * x2) :: st) h Q := wp_imul rfl
theorem s103_22 : mm_wp d 103 22 [l0, .int x, l2, l3] st h Q ↔ mm_wp d 103 23 [l0, .int x, l2, l3] (.int x :: st) h Q := wp_iload_n rfl rfl
theorem s103_23 : mm_wp d 103 23 ls (.int x2 :: .int x :: st) h Q ↔ if x2 < x then mm_wp d 103 28 ls st h Q else mm_wp d 103 26 ls st h Q := wp_icmpgt rfl rfl
theorem s103_26 : mm_wp d 103 26 [l0, l1, l2, .int x] st h Q ↔ mm_wp d 103 27 [l0, l1, l2, .int x] (.int x :: st) h Q := wp_iload_n rfl rfl
theorem s103_27 : mm_wp d 103 27 [l0, l1, l2, l3] (.int x :: st) h Q ↔ mm_wp d 103 28 [l0, l1, .int x, l3] st h Q := wp_istore_n rfl rfl
theorem s103_28 : mm_wp d 103 28 [l0, l1, l2, .int x] st h Q ↔ mm_wp d 103 31 [l0, l1, l2, .int (x + (1 : Int32))] st h Q := wp_iinc rfl rfl rfl rfl
theorem s103_31 : mm_wp d 103 31 ls st h Q ↔ mm_wp d 103 4 ls st h Q := wp_goto rfl rfl
theorem s103_34 : mm_wp d 103 34 [l0, l1, .int x, l3] st h Q ↔ mm_wp d 103 35 [l0, l1, .int x, l3] (.int x :: st) h Q := wp_iload_n rfl rfl
theorem s103_35 : mm_wp d 103 35 ls (.int x :: st) h Q ↔ Q (.inl (some (.int x))) h := wp_iret rfl rfl
/-! 104: LoadRoom$Axles.sumFromBehind(ILLoadRoom$Row;)J -/
theorem s104_0 : mm_wp d 104 0 ls st h Q ↔ mm_wp d 104 1 ls (.long (0 : Int64) :: st) h Q := wp_lconst rfl rfl
theorem s104_1 : mm_wp d 104 1 [l0, l1, l2, l3, l4, l5, l6, l7] (.long w :: st) h Q ↔ mm_wp d 104 2 [l0, l1, l2, .long w, mm_j, l5, l6, l7] st h Q := wp_lstore_n rfl rfl
theorem s104_2 : mm_wp d 104 2 ls st h Q ↔ mm_wp d 104 3 ls (.int (0 : Int32) :: st) h Q := wp_iconst rfl rfl
theorem s104_3 : mm_wp d 104 3 [l0, l1, l2, l3, l4, l5, l6, l7] (.int x :: st) h Q ↔ mm_wp d 104 5 [l0, l1, l2, l3, l4, .int x, l6, l7] st h Q := wp_istore rfl rfl
theorem s104_5 : mm_wp d 104 5 [l0, l1, l2, l3, l4, .int x, l6, l7] st h Q ↔ mm_wp d 104 7 [l0, l1, l2, l3, l4, .int x, l6, l7] (.int x :: st) h Q := wp_iload rfl rfl
theorem s104_7 : mm_wp d 104 7 [l0, l1, .ref a, l3, l4, l5, l6, l7] st h Q ↔ mm_wp d 104 8 [l0, l1, .ref a, l3, l4, l5, l6, l7] (.ref a :: st) h Q := wp_aloadR_n rfl rfl
theorem s104_7o : mm_wp d 104 7 [l0, l1, mm_o o, l3, l4, l5, l6, l7] st h Q ↔ mm_wp d 104 8 [l0, l1, mm_o o, l3, l4, l5, l6, l7] (mm_o o :: st) h Q := wp_aload_n rfl o rfl
theorem s104_7n : mm_wp d 104 7 [l0, l1, .null, l3, l4, l5, l6, l7] st h Q ↔ mm_wp d 104 8 [l0, l1, .null, l3, l4, l5, l6, l7] (.null :: st) h Q := wp_aload_n rfl none rfl
theorem s104_8 : mm_wp d 104 8 ls (.ref a :: st) h Q ↔ (mm_s h a).1 = 7 ∧ mm_wp d 104 11 ls (.int (mm_i h a 1) :: st) h Q := wp_getI rfl rfl (by decide) (by decide)
theorem s104_11 : mm_wp d 104 11 ls (.int x2 :: .int x :: st) h Q ↔ if x2 ≤ x then mm_wp d 104 108 ls st h Q else mm_wp d 104 14 ls st h Q := wp_icmpge rfl rfl
theorem s104_14 : mm_wp d 104 14 [l0, l1, .ref a, l3, l4, l5, l6, l7] st h Q ↔ mm_wp d 104 15 [l0, l1, .ref a, l3, l4, l5, l6, l7] (.ref a :: st) h Q := wp_aloadR_n rfl rfl
theorem s104_14o : mm_wp d 104 14 [l0, l1, mm_o o, l3, l4, l5, l6, l7] st h Q ↔ mm_wp d 104 15 [l0, l1, mm_o o, l3, l4, l5, l6, l7] (mm_o o :: st) h Q := wp_aload_n rfl o rfl
theorem s104_14n : mm_wp d 104 14 [l0, l1, .null, l3, l4, l5, l6, l7] st h Q ↔ mm_wp d 104 15 [l0, l1, .null, l3, l4, l5, l6, l7] (.null :: st) h Q := wp_aload_n rfl none rfl
theorem s104_15 : mm_wp d 104 15 ls (.ref a :: st) h Q ↔ (mm_s h a).1 = 7 ∧ mm_wp d 104 18 ls (mm_o (mm_r h a 0) :: st) h Q := wp_getR rfl rfl
theorem s104_18 : mm_wp d 104 18 [l0, l1, l2, l3, l4, .int x, l6, l7] st h Q ↔ mm_wp d 104 20 [l0, l1, l2, l3, l4, .int x, l6, l7] (.int x :: st) h Q := wp_iload rfl rfl
theorem s104_20 : mm_wp d 104 20 ls (.int x :: .ref a :: st) h Q ↔ (23 ≤ (mm_s h a).1 ∧ (mm_s h a).1 ≤ 26 ∧ mm_in x (mm_s h a).2 = true) ∧ mm_wp d 104 21 ls (mm_o (mm_r h a x.toNatClampNeg) :: st) h Q := wp_aaload rfl
theorem s104_21 : mm_wp d 104 21 [l0, l1, l2, l3, l4, l5, l6, l7] (.ref a :: st) h Q ↔ mm_wp d 104 23 [l0, l1, l2, l3, l4, l5, .ref a, l7] st h Q := wp_astoreR rfl rfl
theorem s104_21o : mm_wp d 104 21 [l0, l1, l2, l3, l4, l5, l6, l7] (mm_o o :: st) h Q ↔ mm_wp d 104 23 [l0, l1, l2, l3, l4, l5, mm_o o, l7] st h Q := wp_astore rfl o rfl
theorem s104_21n : mm_wp d 104 21 [l0, l1, l2, l3, l4, l5, l6, l7] (.null :: st) h Q ↔ mm_wp d 104 23 [l0, l1, l2, l3, l4, l5, .null, l7] st h Q := wp_astore rfl none rfl
theorem s104_23 : mm_wp d 104 23 ls st h Q ↔ mm_wp d 104 24 ls (.int (2 : Int32) :: st) h Q := wp_iconst rfl rfl
theorem s104_24 : mm_wp d 104 24 [l0, l1, l2, l3, l4, l5, .ref a, l7] st h Q ↔ mm_wp d 104 26 [l0, l1, l2, l3, l4, l5, .ref a, l7] (.ref a :: st) h Q := wp_aloadR rfl rfl
theorem s104_24o : mm_wp d 104 24 [l0, l1, l2, l3, l4, l5, mm_o o, l7] st h Q ↔ mm_wp d 104 26 [l0, l1, l2, l3, l4, l5, mm_o o, l7] (mm_o o :: st) h Q := wp_aload rfl o rfl
theorem s104_24n : mm_wp d 104 24 [l0, l1, l2, l3, l4, l5, .null, l7] st h Q ↔ mm_wp d 104 26 [l0, l1, l2, l3, l4, l5, .null, l7] (.null :: st) h Q := wp_aload rfl none rfl
theorem s104_26 : mm_wp d 104 26 ls (.ref a :: st) h Q ↔ (mm_s h a).1 = 6 ∧ mm_wp d 104 29 ls (.int (mm_i h a 5) :: st) h Q := wp_getI rfl rfl (by decide) (by decide)
theorem s104_29 : mm_wp d 104 29 ls (.int x2 :: .int x :: st) h Q ↔ mm_wp d 104 30 ls (.int (x * x2) :: st) h Q := wp_imul rfl
theorem s104_30 : mm_wp d 104 30 [l0, l1, l2, l3, l4, l5, .ref a, l7] st h Q ↔ mm_wp d 104 32 [l0, l1, l2, l3, l4, l5, .ref a, l7] (.ref a :: st) h Q := wp_aloadR rfl rfl
theorem s104_30o : mm_wp d 104 30 [l0, l1, l2, l3, l4, l5, mm_o o, l7] st h Q ↔ mm_wp d 104 32 [l0, l1, l2, l3, l4, l5, mm_o o, l7] (mm_o o :: st) h Q := wp_aload rfl o rfl
theorem s104_30n : mm_wp d 104 30 [l0, l1, l2, l3, l4, l5, .null, l7] st h Q ↔ mm_wp d 104 32 [l0, l1, l2, l3, l4, l5, .null, l7] (.null :: st) h Q := wp_aload rfl none rfl
theorem s104_32 : mm_wp d 104 32 ls (.ref a :: st) h Q ↔ (mm_s h a).1 = 6 ∧ mm_wp d 104 35 ls (.int (mm_i h a 11) :: st) h Q := wp_getI rfl rfl (by decide) (by decide)
theorem s104_35 : mm_wp d 104 35 ls (.int x2 :: .int x :: st) h Q ↔ mm_wp d 104 36 ls (.int (x + x2) :: st) h Q := wp_iadd rfl
theorem s104_36 : mm_wp d 104 36 [l0, l1, l2, l3, l4, l5, l6, l7] (.int x :: st) h Q ↔ mm_wp d 104 38 [l0, l1, l2, l3, l4, l5, l6, .int x] st h Q := wp_istore rfl rfl
theorem s104_38 : mm_wp d 104 38 [.ref a, l1, l2, l3, l4, l5, l6, l7] st h Q ↔ mm_wp d 104 39 [.ref a, l1, l2, l3, l4, l5, l6, l7] (.ref a :: st) h Q := wp_aloadR_n rfl rfl
theorem s104_39 : mm_wp d 104 39 ls (.ref a :: st) h Q ↔ (mm_s h a).1 = 0 ∧ mm_wp d 104 42 ls (.int (mm_i h a 1) :: st) h Q := wp_getI rfl rfl (by decide) (by decide)
theorem s104_42 : mm_wp d 104 42 ls st h Q ↔ mm_wp d 104 43 ls (.int (1 : Int32) :: st) h Q := wp_iconst rfl rfl
theorem s104_43 : mm_wp d 104 43 ls (.int x2 :: .int x :: st) h Q ↔ if x = x2 then mm_wp d 104 46 ls st h Q else mm_wp d 104 58 ls st h Q := wp_icmpne rfl rfl
theorem s104_46 : mm_wp d 104 46 [l0, l1, l2, .long w, l4, l5, l6, l7] st h Q ↔ mm_wp d 104 47 [l0, l1, l2, .long w, l4, l5, l6, l7] (.long w :: st) h Q := wp_lload_n rfl rfl
theorem s104_47 : mm_wp d 104 47 [l0, l1, l2, l3, l4, l5, .ref a, l7] st h Q ↔ mm_wp d 104 49 [l0, l1, l2, l3, l4, l5, .ref a, l7] (.ref a :: st) h Q := wp_aloadR rfl rfl
theorem s104_47o : mm_wp d 104 47 [l0, l1, l2, l3, l4, l5, mm_o o, l7] st h Q ↔ mm_wp d 104 49 [l0, l1, l2, l3, l4, l5, mm_o o, l7] (mm_o o :: st) h Q := wp_aload rfl o rfl
theorem s104_47n : mm_wp d 104 47 [l0, l1, l2, l3, l4, l5, .null, l7] st h Q ↔ mm_wp d 104 49 [l0, l1, l2, l3, l4, l5, .null, l7] (.null :: st) h Q := wp_aload rfl none rfl
theorem s104_49 : mm_wp d 104 49 ls (.ref a :: st) h Q ↔ (mm_s h a).1 = 6 ∧ mm_wp d 104 52 ls (.int (mm_i h a 12) :: st) h Q := wp_getI rfl rfl (by decide) (by decide)
theorem s104_52 : mm_wp d 104 52 ls (.int x :: st) h Q ↔ mm_wp d 104 53 ls (.long x.toInt64 :: st) h Q := wp_i2l rfl
theorem s104_53 : mm_wp d 104 53 ls (.long w2 :: .long w :: st) h Q ↔ mm_wp d 104 54 ls (.long (w + w2) :: st) h Q := wp_ladd rfl
theorem s104_54 : mm_wp d 104 54 [l0, l1, l2, l3, l4, l5, l6, l7] (.long w :: st) h Q ↔ mm_wp d 104 55 [l0, l1, l2, .long w, mm_j, l5, l6, l7] st h Q := wp_lstore_n rfl rfl
theorem s104_55 : mm_wp d 104 55 ls st h Q ↔ mm_wp d 104 102 ls st h Q := wp_goto rfl rfl
theorem s104_58 : mm_wp d 104 58 [.ref a, l1, l2, l3, l4, l5, l6, l7] st h Q ↔ mm_wp d 104 59 [.ref a, l1, l2, l3, l4, l5, l6, l7] (.ref a :: st) h Q := wp_aloadR_n rfl rfl
theorem s104_59 : mm_wp d 104 59 [l0, .int x, l2, l3, l4, l5, l6, l7] st h Q ↔ mm_wp d 104 60 [l0, .int x, l2, l3, l4, l5, l6, l7] (.int x :: st) h Q := wp_iload_n rfl rfl
theorem s104_60 : mm_wp d 104 60 ls st h Q ↔ mm_wp d 104 61 ls (.int (1 : Int32) :: st) h Q := wp_iconst rfl rfl
theorem s104_61 : mm_wp d 104 61 ls (.int x2 :: .int x :: st) h Q ↔ mm_wp d 104 62 ls (.int (x + x2) :: st) h Q := wp_iadd rfl
theorem s104_62 : mm_wp (d + 1) 104 62 ls [.int x2, .ref a] h Q ↔ (mm_s h a).1 = 0 ∧ mm_wp d 99 0 [.ref a, .int x2] [] h (mm_bk (d + 1) 104 62 ls [] Q) := wp_virtual rfl rfl ⟨by decide, rfl⟩ ⟨Nat.le_of_ble_eq_true rfl, Nat.le_of_ble_eq_true rfl⟩ rfl rfl rfl rfl rfl rfl
theorem s104_65 : mm_wp d 104 65 ls (.int x :: st) h Q ↔ if x = 0 then mm_wp d 104 102 ls st h Q else mm_wp d 104 68 ls st h Q := wp_ifeq rfl rfl
theorem s104_68 : mm_wp d 104 68 [.ref a, l1, l2, l3, l4, l5, l6, l7] st h Q ↔ mm_wp d 104 69 [.ref a, l1, l2, l3, l4, l5, l6, l7] (.ref a :: st) h Q := wp_aloadR_n rfl rfl
theorem s104_69 : mm_wp d 104 69 [l0, l1, l2, l3, l4, l5, l6, .int x] st h Q ↔ mm_wp d 104 71 [l0, l1, l2, l3, l4, l5, l6, .int x] (.int x :: st) h Q := wp_iload rfl rfl
theorem s104_71 : mm_wp (d + 1) 104 71 ls [.int x2, .ref a] h Q ↔ (mm_s h a).1 = 0 ∧ mm_wp d 103 0 [.ref a, .int x2, mm_j, mm_j] [] h (mm_bk (d + 1) 104 71 ls [] Q) := wp_virtual rfl rfl ⟨by decide, rfl⟩ ⟨Nat.le_of_ble_eq_true rfl, Nat.le_of_ble_eq_true rfl⟩ rfl rfl rfl rfl rfl rfl
theorem s104_74 : mm_wp d 104 74 [l0, .int x, l2, l3, l4, l5, l6, l7] st h Q ↔ mm_wp d 104 75 [l0, .int x, l2, l3, l4, l5, l6, l7] (.int x :: st) h Q := wp_iload_n rfl rfl
theorem s104_75 : mm_wp d 104 75 ls (.int x2 :: .int x :: st) h Q ↔ if x = x2 then mm_wp d 104 78 ls st h Q else mm_wp d 104 102 ls st h Q := wp_icmpne rfl rfl
theorem s104_78 : mm_wp d 104 78 [l0, l1, l2, .long w, l4, l5, l6, l7] st h Q ↔ mm_wp d 104 79 [l0, l1, l2, .long w, l4, l5, l6, l7] (.long w :: st) h Q := wp_lload_n rfl rfl
theorem s104_79 : mm_wp d 104 79 [l0, l1, l2, l3, l4, l5, .ref a, l7] st h Q ↔ mm_wp d 104 81 [l0, l1, l2, l3, l4, l5, .ref a, l7] (.ref a :: st) h Q := wp_aloadR rfl rfl
theorem s104_79o : mm_wp d 104 79 [l0, l1, l2, l3, l4, l5, mm_o o, l7] st h Q ↔ mm_wp d 104 81 [l0, l1, l2, l3, l4, l5, mm_o o, l7] (mm_o o :: st) h Q := wp_aload rfl o rfl
theorem s104_79n : mm_wp d 104 79 [l0, l1, l2, l3, l4, l5, .null, l7] st h Q ↔ mm_wp d 104 81 [l0, l1, l2, l3, l4, l5, .null, l7] (.null :: st) h Q := wp_aload rfl none rfl
theorem s104_81 : mm_wp d 104 81 ls (.ref a :: st) h Q ↔ (mm_s h a).1 = 6 ∧ mm_wp d 104 84 ls (.int (mm_i h a 12) :: st) h Q := wp_getI rfl rfl (by decide) (by decide)
theorem s104_84 : mm_wp d 104 84 ls (.int x :: st) h Q ↔ mm_wp d 104 85 ls (.long x.toInt64 :: st) h Q := wp_i2l rfl
theorem s104_85 : mm_wp d 104 85 ls st h Q ↔ mm_wp d 104 86 ls (.int (2 : Int32) :: st) h Q := wp_iconst rfl rfl
theorem s104_86 : mm_wp d 104 86 [.ref a, l1, l2, l3, l4, l5, l6, l7] st h Q ↔ mm_wp d 104 87 [.ref a, l1, l2, l3, l4, l5, l6, l7] (.ref a :: st) h Q := wp_aloadR_n rfl rfl
theorem s104_87 : mm_wp d 104 87 ls (.ref a :: st) h Q ↔ (mm_s h a).1 = 0 ∧ mm_wp d 104 90 ls (mm_o (mm_r h a 0) :: st) h Q := wp_getR rfl rfl
theorem s104_90 : mm_wp d 104 90 [l0, .int x, l2, l3, l4, l5, l6, l7] st h Q ↔ mm_wp d 104 91 [l0, .int x, l2, l3, l4, l5, l6, l7] (.int x :: st) h Q := wp_iload_n rfl rfl
theorem s104_91 : mm_wp d 104 91 ls st h Q ↔ mm_wp d 104 92 ls (.int (1 : Int32) :: st) h Q := wp_iconst rfl rfl
theorem s104_92 : mm_wp d 104 92 ls (.int x2 :: .int x :: st) h Q ↔ mm_wp d 104 93 ls (.int (x + x2) :: st) h Q := wp_iadd rfl
theorem s104_93 : mm_wp d 104 93 ls (.int x :: .ref a :: st) h Q ↔ ((mm_s h a).1 = 20 ∧ mm_in x (mm_s h a).2 = true) ∧ mm_wp d 104 94 ls (.int (mm_i h a x.toNatClampNeg) :: st) h Q := wp_iaload rfl
theorem s104_94 : mm_wp d 104 94 ls (.int x2 :: .int x :: st) h Q ↔ mm_wp d 104 95 ls (.int (x * x2) :: st) h Q := wp_imul rfl
theorem s104_95 : mm_wp d 104 95 [l0, l1, l2, l3, l4, l5, l6, .int x] st h Q ↔ mm_wp d 104 97 [l0, l1, l2, l3, l4, l5, l6, .int x] (.int x :: st) h Q := wp_iload rfl rfl
theorem s104_97 : mm_wp d 104 97 ls (.int x2 :: .int x :: st) h Q ↔ mm_wp d 104 98 ls (.int (x - x2) :: st) h Q := wp_isub rfl
theorem s104_98 : mm_wp d 104 98 ls (.int x :: st) h Q ↔ mm_wp d 104 99 ls (.long x.toInt64 :: st) h Q := wp_i2l rfl
theorem s104_99 : mm_wp d 104 99 ls (.long w2 :: .long w :: st) h Q ↔ mm_wp d 104 100 ls (.long (w * w2) :: st) h Q := wp_lmul rfl
theorem s104_100 : mm_wp d 104 100 ls (.long w2 :: .long w :: st) h Q ↔ mm_wp d 104 101 ls (.long (w + w2) :: st) h Q := wp_ladd rfl
theorem s104_101 : mm_wp d 104 101 [l0, l1, l2, l3, l4, l5, l6, l7] (.long w :: st) h Q ↔ mm_wp d 104 102 [l0, l1, l2, .long w, mm_j, l5, l6, l7] st h Q := wp_lstore_n rfl rfl
theorem s104_102 : mm_wp d 104 102 [l0, l1, l2, l3, l4, .int x, l6, l7] st h Q ↔ mm_wp d 104 105 [l0, l1, l2, l3, l4, .int (x + (1 : Int32)), l6, l7] st h Q := wp_iinc rfl rfl rfl rfl
theorem s104_105 : mm_wp d 104 105 ls st h Q ↔ mm_wp d 104 5 ls st h Q := wp_goto rfl rfl
theorem s104_108 : mm_wp d 104 108 [l0, l1, l2, .long w, l4, l5, l6, l7] st h Q ↔ mm_wp d 104 109 [l0, l1, l2, .long w, l4, l5, l6, l7] (.long w :: st) h Q := wp_lload_n rfl rfl
theorem s104_109 : mm_wp d 104 109 ls (.long w :: st) h Q ↔ Q (.inl (some (.long w))) h := wp_lret rfl rfl
/-! 105: LoadRoom$Axles.inLowestTerms(JJI)J -/
theorem s105_0 : mm_wp d 105 0 [l0, l1, l2, l3, .int x, l5, l6, l7, l8] st h Q ↔ mm_wp d 105 2 [l0, l1, l2, l3, .int x, l5, l6, l7, l8] (.int x :: st) h Q := wp_iload rfl rfl
theorem s105_2 : mm_wp d 105 2 ls (.int x :: st) h Q ↔ if x = 0 then mm_wp d 105 5 ls st h Q else mm_wp d 105 9 ls st h Q := wp_ifne rfl rfl
theorem s105_5 : mm_wp d 105 5 [.long w, l1, l2, l3, l4, l5, l6, l7, l8] st h Q ↔ mm_wp d 105 6 [.long w, l1, l2, l3, l4, l5, l6, l7, l8] (.long w :: st) h Q := wp_lload_n rfl rfl
theorem s105_6 : mm_wp d 105 6 ls st h Q ↔ mm_wp d 105 10 ls st h Q := wp_goto rfl rfl
theorem s105_9 : mm_wp d 105 9 [l0, l1, .long w, l3, l4, l5, l6, l7, l8] st h Q ↔ mm_wp d 105 10 [l0, l1, .long w, l3, l4, l5, l6, l7, l8] (.long w :: st) h Q := wp_lload_n rfl rfl
theorem s105_10 : mm_wp d 105 10 [l0, l1, l2, l3, l4, l5, l6, l7, l8] (.long w :: st) h Q ↔ mm_wp d 105 12 [l0, l1, l2, l3, l4, .long w, mm_j, l7, l8] st h Q := wp_lstore rfl rfl
theorem s105_12 : mm_wp d 105 12 [.long w, l1, l2, l3, l4, l5, l6, l7, l8] st h Q ↔ mm_wp d 105 13 [.long w, l1, l2, l3, l4, l5, l6, l7, l8] (.long w :: st) h Q := wp_lload_n rfl rfl
theorem s105_13 : mm_wp (d + 1) 105 13 ls [.long w] h Q ↔ mm_wp d 106 0 [.long w, mm_j] [] h (mm_bk (d + 1) 105 13 ls [] Q) := wp_static rfl rfl ⟨by decide, rfl⟩ ⟨Nat.le_of_ble_eq_true rfl, Nat.le_of_ble_eq_true rfl⟩ rfl rfl rfl rfl
theorem s105_16 : mm_wp d 105 16 [l0, l1, .long w, l3, l4, l5, l6, l7, l8] st h Q ↔ mm_wp d 105 17 [l0, l1, .long w, l3, l4, l5, l6, l7, l8] (.long w :: st) h Q := wp_lload_n rfl rfl
theorem s105_17 : mm_wp (d + 1) 105 17 ls [.long w2, .long w] h Q ↔ mm_wp d 107 0 [.long w, mm_j, .long w2, mm_j, mm_j, mm_j, mm_j, mm_j, mm_j, mm_j, mm_j] [] h (mm_bk (d + 1) 105 17 ls [] Q) := wp_static rfl rfl ⟨by decide, rfl⟩ ⟨Nat.le_of_ble_eq_true rfl, Nat.le_of_ble_eq_true rfl⟩ rfl rfl rfl rfl
theorem s105_20 : mm_wp d 105 20 [l0, l1, l2, l3, l4, l5, l6, l7, l8] (.long w :: st) h Q ↔ mm_wp d 105 22 [l0, l1, l2, l3, l4, l5, l6, .long w, mm_j] st h Q := wp_lstore rfl rfl
theorem s105_22 : mm_wp d 105 22 [l0, l1, l2, l3, l4, l5, l6, .long w, l8] st h Q ↔ mm_wp d 105 24 [l0, l1, l2, l3, l4, l5, l6, .long w, l8] (.long w :: st) h Q := wp_lload rfl rfl
theorem s105_24 : mm_wp d 105 24 ls st h Q ↔ mm_wp d 105 25 ls (.long (1 : Int64) :: st) h Q := wp_lconst rfl rfl
theorem s105_25 : mm_wp d 105 25 ls (.long w2 :: .long w :: st) h Q ↔ mm_wp d 105 26 ls (.int (if w2 < w then 1 else if w = w2 then 0 else -1) :: st) h Q := wp_lcmp rfl
theorem s105_26 : mm_wp d 105 26 ls (.int x :: st) h Q ↔ if x ≤ 0 then mm_wp d 105 37 ls st h Q else mm_wp d 105 29 ls st h Q := wp_ifle rfl rfl
theorem s105_29 : mm_wp d 105 29 [l0, l1, l2, l3, l4, .long w, l6, l7, l8] st h Q ↔ mm_wp d 105 31 [l0, l1, l2, l3, l4, .long w, l6, l7, l8] (.long w :: st) h Q := wp_lload rfl rfl
theorem s105_31 : mm_wp d 105 31 [l0, l1, l2, l3, l4, l5, l6, .long w, l8] st h Q ↔ mm_wp d 105 33 [l0, l1, l2, l3, l4, l5, l6, .long w, l8] (.long w :: st) h Q := wp_lload rfl rfl
theorem s105_33 : mm_wp d 105 33 ls (.long w2 :: .long w :: st) h Q ↔ ¬ w2 = 0 ∧ mm_wp d 105 34 ls (.long (w / w2) :: st) h Q := wp_ldiv rfl
theorem s105_34 : mm_wp d 105 34 ls st h Q ↔ mm_wp d 105 39 ls st h Q := wp_goto rfl rfl
theorem s105_37 : mm_wp d 105 37 [l0, l1, l2, l3, l4, .long w, l6, l7, l8] st h Q ↔ mm_wp d 105 39 [l0, l1, l2, l3, l4, .long w, l6, l7, l8] (.long w :: st) h Q := wp_lload rfl rfl
theorem s105_39 : mm_wp d 105 39 ls (.long w :: st) h Q ↔ Q (.inl (some (.long w))) h := wp_lret rfl rfl
/-! 106: java/lang/Math.abs(J)J -/
theorem s106_0 : mm_wp d 106 0 [.long w, l1] st h Q ↔ mm_wp d 106 1 [.long w, l1] (.long w :: st) h Q := wp_lload_n rfl rfl
theorem s106_1 : mm_wp d 106 1 ls st h Q ↔ mm_wp d 106 2 ls (.long (0 : Int64) :: st) h Q := wp_lconst rfl rfl
theorem s106_2 : mm_wp d 106 2 ls (.long w2 :: .long w :: st) h Q ↔ mm_wp d 106 3 ls (.int (if w2 < w then 1 else if w = w2 then 0 else -1) :: st) h Q := wp_lcmp rfl
theorem s106_3 : mm_wp d 106 3 ls (.int x :: st) h Q ↔ if 0 ≤ x then mm_wp d 106 11 ls st h Q else mm_wp d 106 6 ls st h Q := wp_ifge rfl rfl
theorem s106_6 : mm_wp d 106 6 [.long w, l1] st h Q ↔ mm_wp d 106 7 [.long w, l1] (.long w :: st) h Q := wp_lload_n rfl rfl
theorem s106_7 : mm_wp d 106 7 ls (.long w :: st) h Q ↔ mm_wp d 106 8 ls (.long (-w) :: st) h Q := wp_lneg rfl
theorem s106_8 : mm_wp d 106 8 ls st h Q ↔ mm_wp d 106 12 ls st h Q := wp_goto rfl rfl
theorem s106_11 : mm_wp d 106 11 [.long w, l1] st h Q ↔ mm_wp d 106 12 [.long w, l1] (.long w :: st) h Q := wp_lload_n rfl rfl
theorem s106_12 : mm_wp d 106 12 ls (.long w :: st) h Q ↔ Q (.inl (some (.long w))) h := wp_lret rfl rfl
/-! 107: LoadRoom$Axles.commonDivisor(JJ)J -/
theorem s107_0 : mm_wp d 107 0 [.long w, l1, l2, l3, l4, l5, l6, l7, l8, l9, l10] st h Q ↔ mm_wp d 107 1 [.long w, l1, l2, l3, l4, l5, l6, l7, l8, l9, l10] (.long w :: st) h Q := wp_lload_n rfl rfl
theorem s107_1 : mm_wp d 107 1 [l0, l1, l2, l3, l4, l5, l6, l7, l8, l9, l10] (.long w :: st) h Q ↔ mm_wp d 107 3 [l0, l1, l2, l3, .long w, mm_j, l6, l7, l8, l9, l10] st h Q := wp_lstore rfl rfl
theorem s107_3 : mm_wp d 107 3 [l0, l1, .long w, l3, l4, l5, l6, l7, l8, l9, l10] st h Q ↔ mm_wp d 107 4 [l0, l1, .long w, l3, l4, l5, l6, l7, l8, l9, l10] (.long w :: st) h Q := wp_lload_n rfl rfl
theorem s107_4 : mm_wp d 107 4 [l0, l1, l2, l3, l4, l5, l6, l7, l8, l9, l10] (.long w :: st) h Q ↔ mm_wp d 107 6 [l0, l1, l2, l3, l4, l5, .long w, mm_j, l8, l9, l10] st h Q := wp_lstore rfl rfl
theorem s107_6 : mm_wp d 107 6 ls st h Q ↔ mm_wp d 107 7 ls (.int (0 : Int32) :: st) h Q := wp_iconst rfl rfl
theorem s107_7 : mm_wp d 107 7 [l0, l1, l2, l3, l4, l5, l6, l7, l8, l9, l10] (.int x :: st) h Q ↔ mm_wp d 107 9 [l0, l1, l2, l3, l4, l5, l6, l7, .int x, l9, l10] st h Q := wp_istore rfl rfl
theorem s107_9 : mm_wp d 107 9 [l0, l1, l2, l3, l4, l5, l6, l7, .int x, l9, l10] st h Q ↔ mm_wp d 107 11 [l0, l1, l2, l3, l4, l5, l6, l7, .int x, l9, l10] (.int x :: st) h Q := wp_iload rfl rfl
theorem s107_11 : mm_wp d 107 11 ls st h Q ↔ mm_wp d 107 14 ls (.int (1000 : Int32) :: st) h Q := wp_sipush rfl rfl
theorem s107_14 : mm_wp d 107 14 ls (.int x2 :: .int x :: st) h Q ↔ if x2 ≤ x then mm_wp d 107 45 ls st h Q else mm_wp d 107 17 ls st h Q := wp_icmpge rfl rfl
theorem s107_17 : mm_wp d 107 17 [l0, l1, l2, l3, l4, l5, .long w, l7, l8, l9, l10] st h Q ↔ mm_wp d 107 19 [l0, l1, l2, l3, l4, l5, .long w, l7, l8, l9, l10] (.long w :: st) h Q := wp_lload rfl rfl
theorem s107_19 : mm_wp d 107 19 ls st h Q ↔ mm_wp d 107 20 ls (.long (0 : Int64) :: st) h Q := wp_lconst rfl rfl
theorem s107_20 : mm_wp d 107 20 ls (.long w2 :: .long w :: st) h Q ↔ mm_wp d 107 21 ls (.int (if w2 < w then 1 else if w = w2 then 0 else -1) :: st) h Q := wp_lcmp rfl
theorem s107_21 : mm_wp d 107 21 ls (.int x :: st) h Q ↔ if x = 0 then mm_wp d 107 45 ls st h Q else mm_wp d 107 24 ls st h Q := wp_ifeq rfl rfl
theorem s107_24 : mm_wp d 107 24 [l0, l1, l2, l3, .long w, l5, l6, l7, l8, l9, l10] st h Q ↔ mm_wp d 107 26 [l0, l1, l2, l3, .long w, l5, l6, l7, l8, l9, l10] (.long w :: st) h Q := wp_lload rfl rfl
theorem s107_26 : mm_wp d 107 26 [l0, l1, l2, l3, l4, l5, .long w, l7, l8, l9, l10] st h Q ↔ mm_wp d 107 28 [l0, l1, l2, l3, l4, l5, .long w, l7, l8, l9, l10] (.long w :: st) h Q := wp_lload rfl rfl
theorem s107_28 : mm_wp d 107 28 ls (.long w2 :: .long w :: st) h Q ↔ ¬ w2 = 0 ∧ mm_wp d 107 29 ls (.long (w - w / w2 * w2) :: st) h Q := wp_lrem rfl
theorem s107_29 : mm_wp d 107 29 [l0, l1, l2, l3, l4, l5, l6, l7, l8, l9, l10] (.long w :: st) h Q ↔ mm_wp d 107 31 [l0, l1, l2, l3, l4, l5, l6, l7, l8, .long w, mm_j] st h Q := wp_lstore rfl rfl
theorem s107_31 : mm_wp d 107 31 [l0, l1, l2, l3, l4, l5, .long w, l7, l8, l9, l10] st h Q ↔ mm_wp d 107 33 [l0, l1, l2, l3, l4, l5, .long w, l7, l8, l9, l10] (.long w :: st) h Q := wp_lload rfl rfl
theorem s107_33 : mm_wp d 107 33 [l0, l1, l2, l3, l4, l5, l6, l7, l8, l9, l10] (.long w :: st) h Q ↔ mm_wp d 107 35 [l0, l1, l2, l3, .long w, mm_j, l6, l7, l8, l9, l10] st h Q := wp_lstore rfl rfl
theorem s107_35 : mm_wp d 107 35 [l0, l1, l2, l3, l4, l5, l6, l7, l8, .long w, l10] st h Q ↔ mm_wp d 107 37 [l0, l1, l2, l3, l4, l5, l6, l7, l8, .long w, l10] (.long w :: st) h Q := wp_lload rfl rfl
theorem s107_37 : mm_wp d 107 37 [l0, l1, l2, l3, l4, l5, l6, l7, l8, l9, l10] (.long w :: st) h Q ↔ mm_wp d 107 39 [l0, l1, l2, l3, l4, l5, .long w, mm_j, l8, l9, l10] st h Q := wp_lstore rfl rfl
theorem s107_39 : mm_wp d 107 39 [l0, l1, l2, l3, l4, l5, l6, l7, .int x, l9, l10] st h Q ↔ mm_wp d 107 42 [l0, l1, l2, l3, l4, l5, l6, l7, .int (x + (1 : Int32)), l9, l10] st h Q := wp_iinc rfl rfl rfl rfl
theorem s107_42 : mm_wp d 107 42 ls st h Q ↔ mm_wp d 107 9 ls st h Q := wp_goto rfl rfl
theorem s107_45 : mm_wp d 107 45 [l0, l1, l2, l3, .long w, l5, l6, l7, l8, l9, l10] st h Q ↔ mm_wp d 107 47 [l0, l1, l2, l3, .long w, l5, l6, l7, l8, l9, l10] (.long w :: st) h Q := wp_lload rfl rfl
theorem s107_47 : mm_wp d 107 47 ls (.long w :: st) h Q ↔ Q (.inl (some (.long w))) h := wp_lret rfl rfl
/-! 108: LoadRoomModel.<init>(III)V -/
theorem s108_0 : mm_wp d 108 0 [.ref a, l1, l2, l3] st h Q ↔ mm_wp d 108 1 [.ref a, l1, l2, l3] (.ref a :: st) h Q := wp_aloadR_n rfl rfl
theorem s108_1 : mm_wp d 108 1 ls (.ref a :: []) h Q ↔ mm_wp d 108 4 ls [] h Q := wp_objInit rfl rfl (Nat.le_of_ble_eq_true rfl)
theorem s108_4 : mm_wp d 108 4 [.ref a, l1, l2, l3] st h Q ↔ mm_wp d 108 5 [.ref a, l1, l2, l3] (.ref a :: st) h Q := wp_aloadR_n rfl rfl
theorem s108_5 : mm_wp d 108 5 ls st h Q ↔ mm_wp d 108 6 ls (.int (3 : Int32) :: st) h Q := wp_iconst rfl rfl
theorem s108_6 : mm_wp d 108 6 ls (.int x :: st) h Q ↔ (0 ≤ x ∧ x ≤ 1000) ∧ mm_wp d 108 8 ls (.ref (mm_n h) :: st) (mm_nw h 20 x.toNatClampNeg x.toNatClampNeg) Q := wp_newI rfl
theorem s108_8 : mm_wp d 108 8 ls (.ref b :: .ref a :: st) h Q ↔ (mm_s h a).1 = 10 ∧ mm_wp d 108 11 ls st (mm_pr h a 1 (some b)) Q := wp_putR rfl rfl
theorem s108_11 : mm_wp d 108 11 [.ref a, l1, l2, l3] st h Q ↔ mm_wp d 108 12 [.ref a, l1, l2, l3] (.ref a :: st) h Q := wp_aloadR_n rfl rfl
theorem s108_12 : mm_wp d 108 12 ls st h Q ↔ mm_wp d 108 14 ls (.int (24 : Int32) :: st) h Q := wp_bipush rfl rfl
theorem s108_14 : mm_wp d 108 14 ls (.int x :: st) h Q ↔ (0 ≤ x ∧ x ≤ 1000) ∧ mm_wp d 108 16 ls (.ref (mm_n h) :: st) (mm_nw h 20 x.toNatClampNeg x.toNatClampNeg) Q := wp_newI rfl
theorem s108_16 : mm_wp d 108 16 ls (.ref b :: .ref a :: st) h Q ↔ (mm_s h a).1 = 10 ∧ mm_wp d 108 19 ls st (mm_pr h a 3 (some b)) Q := wp_putR rfl rfl
theorem s108_19 : mm_wp d 108 19 [.ref a, l1, l2, l3] st h Q ↔ mm_wp d 108 20 [.ref a, l1, l2, l3] (.ref a :: st) h Q := wp_aloadR_n rfl rfl
theorem s108_20 : mm_wp d 108 20 ls st h Q ↔ mm_wp d 108 22 ls (.int (8 : Int32) :: st) h Q := wp_bipush rfl rfl
theorem s108_22 : mm_wp d 108 22 ls (.int x :: st) h Q ↔ (0 ≤ x ∧ x ≤ 1000) ∧ mm_wp d 108 24 ls (.ref (mm_n h) :: st) (mm_nw h 20 x.toNatClampNeg x.toNatClampNeg) Q := wp_newI rfl
theorem s108_24 : mm_wp d 108 24 ls (.ref b :: .ref a :: st) h Q ↔ (mm_s h a).1 = 10 ∧ mm_wp d 108 27 ls st (mm_pr h a 4 (some b)) Q := wp_putR rfl rfl
theorem s108_27 : mm_wp d 108 27 [.ref a, l1, l2, l3] st h Q ↔ mm_wp d 108 28 [.ref a, l1, l2, l3] (.ref a :: st) h Q := wp_aloadR_n rfl rfl
theorem s108_28 : mm_wp d 108 28 ls st h Q ↔ mm_wp d 108 30 ls (.int (8 : Int32) :: st) h Q := wp_bipush rfl rfl
theorem s108_30 : mm_wp d 108 30 ls (.int x :: st) h Q ↔ (0 ≤ x ∧ x ≤ 1000) ∧ mm_wp d 108 32 ls (.ref (mm_n h) :: st) (mm_nw h 20 x.toNatClampNeg x.toNatClampNeg) Q := wp_newI rfl
theorem s108_32 : mm_wp d 108 32 ls (.ref b :: .ref a :: st) h Q ↔ (mm_s h a).1 = 10 ∧ mm_wp d 108 35 ls st (mm_pr h a 5 (some b)) Q := wp_putR rfl rfl
theorem s108_35 : mm_wp d 108 35 [.ref a, l1, l2, l3] st h Q ↔ mm_wp d 108 36 [.ref a, l1, l2, l3] (.ref a :: st) h Q := wp_aloadR_n rfl rfl
theorem s108_36 : mm_wp d 108 36 ls st h Q ↔ mm_wp d 108 38 ls (.int (8 : Int32) :: st) h Q := wp_bipush rfl rfl
theorem s108_38 : mm_wp d 108 38 ls (.int x :: st) h Q ↔ (0 ≤ x ∧ x ≤ 1000) ∧ mm_wp d 108 40 ls (.ref (mm_n h) :: st) (mm_nw h 20 x.toNatClampNeg x.toNatClampNeg) Q := wp_newI rfl
theorem s108_40 : mm_wp d 108 40 ls (.ref b :: .ref a :: st) h Q ↔ (mm_s h a).1 = 10 ∧ mm_wp d 108 43 ls st (mm_pr h a 6 (some b)) Q := wp_putR rfl rfl
theorem s108_43 : mm_wp d 108 43 [.ref a, l1, l2, l3] st h Q ↔ mm_wp d 108 44 [.ref a, l1, l2, l3] (.ref a :: st) h Q := wp_aloadR_n rfl rfl
theorem s108_44 : mm_wp d 108 44 ls st h Q ↔ mm_wp d 108 46 ls (.int (8 : Int32) :: st) h Q := wp_bipush rfl rfl
theorem s108_46 : mm_wp d 108 46 ls (.int x :: st) h Q ↔ (0 ≤ x ∧ x ≤ 1000) ∧ mm_wp d 108 48 ls (.ref (mm_n h) :: st) (mm_nw h 20 x.toNatClampNeg x.toNatClampNeg) Q := wp_newI rfl
theorem s108_48 : mm_wp d 108 48 ls (.ref b :: .ref a :: st) h Q ↔ (mm_s h a).1 = 10 ∧ mm_wp d 108 51 ls st (mm_pr h a 7 (some b)) Q := wp_putR rfl rfl
theorem s108_51 : mm_wp d 108 51 [.ref a, l1, l2, l3] st h Q ↔ mm_wp d 108 52 [.ref a, l1, l2, l3] (.ref a :: st) h Q := wp_aloadR_n rfl rfl
theorem s108_52 : mm_wp d 108 52 ls st h Q ↔ mm_wp d 108 54 ls (.int (8 : Int32) :: st) h Q := wp_bipush rfl rfl
theorem s108_54 : mm_wp d 108 54 ls (.int x :: st) h Q ↔ (0 ≤ x ∧ x ≤ 1000) ∧ mm_wp d 108 56 ls (.ref (mm_n h) :: st) (mm_nw h 20 x.toNatClampNeg x.toNatClampNeg) Q := wp_newI rfl
theorem s108_56 : mm_wp d 108 56 ls (.ref b :: .ref a :: st) h Q ↔ (mm_s h a).1 = 10 ∧ mm_wp d 108 59 ls st (mm_pr h a 9 (some b)) Q := wp_putR rfl rfl
theorem s108_59 : mm_wp d 108 59 [.ref a, l1, l2, l3] st h Q ↔ mm_wp d 108 60 [.ref a, l1, l2, l3] (.ref a :: st) h Q := wp_aloadR_n rfl rfl
theorem s108_60 : mm_wp d 108 60 ls st h Q ↔ mm_wp d 108 62 ls (.int (8 : Int32) :: st) h Q := wp_bipush rfl rfl
theorem s108_62 : mm_wp d 108 62 ls (.int x :: st) h Q ↔ (0 ≤ x ∧ x ≤ 1000) ∧ mm_wp d 108 64 ls (.ref (mm_n h) :: st) (mm_nw h 20 x.toNatClampNeg x.toNatClampNeg) Q := wp_newI rfl
theorem s108_64 : mm_wp d 108 64 ls (.ref b :: .ref a :: st) h Q ↔ (mm_s h a).1 = 10 ∧ mm_wp d 108 67 ls st (mm_pr h a 10 (some b)) Q := wp_putR rfl rfl
theorem s108_67 : mm_wp d 108 67 [.ref a, l1, l2, l3] st h Q ↔ mm_wp d 108 68 [.ref a, l1, l2, l3] (.ref a :: st) h Q := wp_aloadR_n rfl rfl
theorem s108_68 : mm_wp d 108 68 ls st h Q ↔ mm_wp d 108 70 ls (.int (24 : Int32) :: st) h Q := wp_bipush rfl rfl
theorem s108_70 : mm_wp d 108 70 ls (.int x :: st) h Q ↔ (0 ≤ x ∧ x ≤ 1000) ∧ mm_wp d 108 72 ls (.ref (mm_n h) :: st) (mm_nw h 20 x.toNatClampNeg x.toNatClampNeg) Q := wp_newI rfl
theorem s108_72 : mm_wp d 108 72 ls (.ref b :: .ref a :: st) h Q ↔ (mm_s h a).1 = 10 ∧ mm_wp d 108 75 ls st (mm_pr h a 11 (some b)) Q := wp_putR rfl rfl
theorem s108_75 : mm_wp d 108 75 [.ref a, l1, l2, l3] st h Q ↔ mm_wp d 108 76 [.ref a, l1, l2, l3] (.ref a :: st) h Q := wp_aloadR_n rfl rfl
theorem s108_76 : mm_wp d 108 76 ls st h Q ↔ mm_wp d 108 78 ls (.int (24 : Int32) :: st) h Q := wp_bipush rfl rfl
theorem s108_78 : mm_wp d 108 78 ls (.int x :: st) h Q ↔ (0 ≤ x ∧ x ≤ 1000) ∧ mm_wp d 108 80 ls (.ref (mm_n h) :: st) (mm_nw h 20 x.toNatClampNeg x.toNatClampNeg) Q := wp_newI rfl
theorem s108_80 : mm_wp d 108 80 ls (.ref b :: .ref a :: st) h Q ↔ (mm_s h a).1 = 10 ∧ mm_wp d 108 83 ls st (mm_pr h a 12 (some b)) Q := wp_putR rfl rfl
theorem s108_83 : mm_wp d 108 83 [.ref a, l1, l2, l3] st h Q ↔ mm_wp d 108 84 [.ref a, l1, l2, l3] (.ref a :: st) h Q := wp_aloadR_n rfl rfl
theorem s108_84 : mm_wp d 108 84 ls st h Q ↔ mm_wp d 108 86 ls (.int (8 : Int32) :: st) h Q := wp_bipush rfl rfl
theorem s108_86 : mm_wp d 108 86 ls (.int x :: st) h Q ↔ (0 ≤ x ∧ x ≤ 1000) ∧ mm_wp d 108 88 ls (.ref (mm_n h) :: st) (mm_nw h 20 x.toNatClampNeg x.toNatClampNeg) Q := wp_newI rfl
theorem s108_88 : mm_wp d 108 88 ls (.ref b :: .ref a :: st) h Q ↔ (mm_s h a).1 = 10 ∧ mm_wp d 108 91 ls st (mm_pr h a 13 (some b)) Q := wp_putR rfl rfl
theorem s108_91 : mm_wp d 108 91 [.ref a, l1, l2, l3] st h Q ↔ mm_wp d 108 92 [.ref a, l1, l2, l3] (.ref a :: st) h Q := wp_aloadR_n rfl rfl
theorem s108_92 : mm_wp d 108 92 ls st h Q ↔ mm_wp d 108 94 ls (.int (8 : Int32) :: st) h Q := wp_bipush rfl rfl
theorem s108_94 : mm_wp d 108 94 ls (.int x :: st) h Q ↔ (0 ≤ x ∧ x ≤ 1000) ∧ mm_wp d 108 96 ls (.ref (mm_n h) :: st) (mm_nw h 22 x.toNatClampNeg x.toNatClampNeg) Q := wp_newZ rfl
theorem s108_96 : mm_wp d 108 96 ls (.ref b :: .ref a :: st) h Q ↔ (mm_s h a).1 = 10 ∧ mm_wp d 108 99 ls st (mm_pr h a 14 (some b)) Q := wp_putR rfl rfl
theorem s108_99 : mm_wp d 108 99 [.ref a, l1, l2, l3] st h Q ↔ mm_wp d 108 100 [.ref a, l1, l2, l3] (.ref a :: st) h Q := wp_aloadR_n rfl rfl
theorem s108_100 : mm_wp d 108 100 ls st h Q ↔ mm_wp d 108 102 ls (.int (9 : Int32) :: st) h Q := wp_bipush rfl rfl
theorem s108_102 : mm_wp d 108 102 ls (.int x :: st) h Q ↔ (0 ≤ x ∧ x ≤ 1000) ∧ mm_wp d 108 104 ls (.ref (mm_n h) :: st) (mm_nw h 20 x.toNatClampNeg x.toNatClampNeg) Q := wp_newI rfl
theorem s108_104 : mm_wp d 108 104 ls (.ref b :: .ref a :: st) h Q ↔ (mm_s h a).1 = 10 ∧ mm_wp d 108 107 ls st (mm_pr h a 15 (some b)) Q := wp_putR rfl rfl
theorem s108_107 : mm_wp d 108 107 [.ref a, l1, l2, l3] st h Q ↔ mm_wp d 108 108 [.ref a, l1, l2, l3] (.ref a :: st) h Q := wp_aloadR_n rfl rfl
theorem s108_108 : mm_wp d 108 108 ls st h Q ↔ mm_wp d 108 110 ls (.int (9 : Int32) :: st) h Q := wp_bipush rfl rfl
theorem s108_110 : mm_wp d 108 110 ls (.int x :: st) h Q ↔ (0 ≤ x ∧ x ≤ 1000) ∧ mm_wp d 108 112 ls (.ref (mm_n h) :: st) (mm_nw h 20 x.toNatClampNeg x.toNatClampNeg) Q := wp_newI rfl
theorem s108_112 : mm_wp d 108 112 ls (.ref b :: .ref a :: st) h Q ↔ (mm_s h a).1 = 10 ∧ mm_wp d 108 115 ls st (mm_pr h a 16 (some b)) Q := wp_putR rfl rfl
theorem s108_115 : mm_wp d 108 115 [.ref a, l1, l2, l3] st h Q ↔ mm_wp d 108 116 [.ref a, l1, l2, l3] (.ref a :: st) h Q := wp_aloadR_n rfl rfl
theorem s108_116 : mm_wp d 108 116 ls st h Q ↔ mm_wp d 108 118 ls (.int (9 : Int32) :: st) h Q := wp_bipush rfl rfl
theorem s108_118 : mm_wp d 108 118 ls (.int x :: st) h Q ↔ (0 ≤ x ∧ x ≤ 1000) ∧ mm_wp d 108 120 ls (.ref (mm_n h) :: st) (mm_nw h 20 x.toNatClampNeg x.toNatClampNeg) Q := wp_newI rfl
theorem s108_120 : mm_wp d 108 120 ls (.ref b :: .ref a :: st) h Q ↔ (mm_s h a).1 = 10 ∧ mm_wp d 108 123 ls st (mm_pr h a 17 (some b)) Q := wp_putR rfl rfl
theorem s108_123 : mm_wp d 108 123 [.ref a, l1, l2, l3] st h Q ↔ mm_wp d 108 124 [.ref a, l1, l2, l3] (.ref a :: st) h Q := wp_aloadR_n rfl rfl
theorem s108_124 : mm_wp d 108 124 ls st h Q ↔ mm_wp d 108 127 ls (.int (243 : Int32) :: st) h Q := wp_sipush rfl rfl
theorem s108_127 : mm_wp d 108 127 ls (.int x :: st) h Q ↔ (0 ≤ x ∧ x ≤ 1000) ∧ mm_wp d 108 129 ls (.ref (mm_n h) :: st) (mm_nw h 20 x.toNatClampNeg x.toNatClampNeg) Q := wp_newI rfl
theorem s108_129 : mm_wp d 108 129 ls (.ref b :: .ref a :: st) h Q ↔ (mm_s h a).1 = 10 ∧ mm_wp d 108 132 ls st (mm_pr h a 18 (some b)) Q := wp_putR rfl rfl
theorem s108_132 : mm_wp d 108 132 [.ref a, l1, l2, l3] st h Q ↔ mm_wp d 108 133 [.ref a, l1, l2, l3] (.ref a :: st) h Q := wp_aloadR_n rfl rfl
theorem s108_133 : mm_wp d 108 133 ls st h Q ↔ mm_wp d 108 135 ls (.int (27 : Int32) :: st) h Q := wp_bipush rfl rfl
theorem s108_135 : mm_wp d 108 135 ls (.int x :: st) h Q ↔ (0 ≤ x ∧ x ≤ 1000) ∧ mm_wp d 108 137 ls (.ref (mm_n h) :: st) (mm_nw h 20 x.toNatClampNeg x.toNatClampNeg) Q := wp_newI rfl
theorem s108_137 : mm_wp d 108 137 ls (.ref b :: .ref a :: st) h Q ↔ (mm_s h a).1 = 10 ∧ mm_wp d 108 140 ls st (mm_pr h a 19 (some b)) Q := wp_putR rfl rfl
theorem s108_140 : mm_wp d 108 140 [.ref a, l1, l2, l3] st h Q ↔ mm_wp d 108 141 [.ref a, l1, l2, l3] (.ref a :: st) h Q := wp_aloadR_n rfl rfl
theorem s108_141 : mm_wp d 108 141 ls st h Q ↔ mm_wp d 108 143 ls (.int (8 : Int32) :: st) h Q := wp_bipush rfl rfl
theorem s108_143 : mm_wp d 108 143 ls (.int x :: st) h Q ↔ (0 ≤ x ∧ x ≤ 1000) ∧ mm_wp d 108 145 ls (.ref (mm_n h) :: st) (mm_nw h 20 x.toNatClampNeg x.toNatClampNeg) Q := wp_newI rfl
theorem s108_145 : mm_wp d 108 145 ls (.ref b :: .ref a :: st) h Q ↔ (mm_s h a).1 = 10 ∧ mm_wp d 108 148 ls st (mm_pr h a 26 (some b)) Q := wp_putR rfl rfl
theorem s108_148 : mm_wp d 108 148 [.ref a, l1, l2, l3] st h Q ↔ mm_wp d 108 149 [.ref a, l1, l2, l3] (.ref a :: st) h Q := wp_aloadR_n rfl rfl
theorem s108_149 : mm_wp d 108 149 ls st h Q ↔ mm_wp d 108 151 ls (.int (8 : Int32) :: st) h Q := wp_bipush rfl rfl
theorem s108_151 : mm_wp d 108 151 ls (.int x :: st) h Q ↔ (0 ≤ x ∧ x ≤ 1000) ∧ mm_wp d 108 153 ls (.ref (mm_n h) :: st) (mm_nw h 20 x.toNatClampNeg x.toNatClampNeg) Q := wp_newI rfl
theorem s108_153 : mm_wp d 108 153 ls (.ref b :: .ref a :: st) h Q ↔ (mm_s h a).1 = 10 ∧ mm_wp d 108 156 ls st (mm_pr h a 27 (some b)) Q := wp_putR rfl rfl
theorem s108_156 : mm_wp d 108 156 [.ref a, l1, l2, l3] st h Q ↔ mm_wp d 108 157 [.ref a, l1, l2, l3] (.ref a :: st) h Q := wp_aloadR_n rfl rfl
theorem s108_157 : mm_wp d 108 157 ls st h Q ↔ mm_wp d 108 159 ls (.int (24 : Int32) :: st) h Q := wp_bipush rfl rfl
theorem s108_159 : mm_wp d 108 159 ls (.int x :: st) h Q ↔ (0 ≤ x ∧ x ≤ 1000) ∧ mm_wp d 108 161 ls (.ref (mm_n h) :: st) (mm_nw h 20 x.toNatClampNeg x.toNatClampNeg) Q := wp_newI rfl
theorem s108_161 : mm_wp d 108 161 ls (.ref b :: .ref a :: st) h Q ↔ (mm_s h a).1 = 10 ∧ mm_wp d 108 164 ls st (mm_pr h a 28 (some b)) Q := wp_putR rfl rfl
theorem s108_164 : mm_wp d 108 164 [.ref a, l1, l2, l3] st h Q ↔ mm_wp d 108 165 [.ref a, l1, l2, l3] (.ref a :: st) h Q := wp_aloadR_n rfl rfl
theorem s108_165 : mm_wp d 108 165 ls st h Q ↔ mm_wp d 108 167 ls (.int (24 : Int32) :: st) h Q := wp_bipush rfl rfl
theorem s108_167 : mm_wp d 108 167 ls (.int x :: st) h Q ↔ (0 ≤ x ∧ x ≤ 1000) ∧ mm_wp d 108 169 ls (.ref (mm_n h) :: st) (mm_nw h 20 x.toNatClampNeg x.toNatClampNeg) Q := wp_newI rfl
theorem s108_169 : mm_wp d 108 169 ls (.ref b :: .ref a :: st) h Q ↔ (mm_s h a).1 = 10 ∧ mm_wp d 108 172 ls st (mm_pr h a 29 (some b)) Q := wp_putR rfl rfl
theorem s108_172 : mm_wp d 108 172 [.ref a, l1, l2, l3] st h Q ↔ mm_wp d 108 173 [.ref a, l1, l2, l3] (.ref a :: st) h Q := wp_aloadR_n rfl rfl
theorem s108_173 : mm_wp d 108 173 ls st h Q ↔ mm_wp d 108 175 ls (.int (8 : Int32) :: st) h Q := wp_bipush rfl rfl
theorem s108_175 : mm_wp d 108 175 ls (.int x :: st) h Q ↔ (0 ≤ x ∧ x ≤ 1000) ∧ mm_wp d 108 177 ls (.ref (mm_n h) :: st) (mm_nw h 20 x.toNatClampNeg x.toNatClampNeg) Q := wp_newI rfl
theorem s108_177 : mm_wp d 108 177 ls (.ref b :: .ref a :: st) h Q ↔ (mm_s h a).1 = 10 ∧ mm_wp d 108 180 ls st (mm_pr h a 30 (some b)) Q := wp_putR rfl rfl
theorem s108_180 : mm_wp d 108 180 [.ref a, l1, l2, l3] st h Q ↔ mm_wp d 108 181 [.ref a, l1, l2, l3] (.ref a :: st) h Q := wp_aloadR_n rfl rfl
theorem s108_181 : mm_wp d 108 181 ls st h Q ↔ mm_wp d 108 183 ls (.int (6 : Int32) :: st) h Q := wp_bipush rfl rfl
theorem s108_183 : mm_wp d 108 183 ls (.int x :: st) h Q ↔ (0 ≤ x ∧ x ≤ 1000) ∧ mm_wp d 108 185 ls (.ref (mm_n h) :: st) (mm_nw h 20 x.toNatClampNeg x.toNatClampNeg) Q := wp_newI rfl
theorem s108_185 : mm_wp d 108 185 ls (.ref b :: .ref a :: st) h Q ↔ (mm_s h a).1 = 10 ∧ mm_wp d 108 188 ls st (mm_pr h a 32 (some b)) Q := wp_putR rfl rfl
theorem s108_188 : mm_wp d 108 188 [.ref a, l1, l2, l3] st h Q ↔ mm_wp d 108 189 [.ref a, l1, l2, l3] (.ref a :: st) h Q := wp_aloadR_n rfl rfl
theorem s108_189 : mm_wp d 108 189 ls st h Q ↔ mm_wp d 108 190 ls (.int (3 : Int32) :: st) h Q := wp_iconst rfl rfl
theorem s108_190 : mm_wp d 108 190 ls (.int x :: st) h Q ↔ (0 ≤ x ∧ x ≤ 1000) ∧ mm_wp d 108 192 ls (.ref (mm_n h) :: st) (mm_nw h 20 x.toNatClampNeg x.toNatClampNeg) Q := wp_newI rfl
theorem s108_192 : mm_wp d 108 192 ls (.ref b :: .ref a :: st) h Q ↔ (mm_s h a).1 = 10 ∧ mm_wp d 108 195 ls st (mm_pr h a 33 (some b)) Q := wp_putR rfl rfl
theorem s108_195 : mm_wp d 108 195 [.ref a, l1, l2, l3] st h Q ↔ mm_wp d 108 196 [.ref a, l1, l2, l3] (.ref a :: st) h Q := wp_aloadR_n rfl rfl
theorem s108_196 : mm_wp d 108 196 ls (.ref a :: st) h Q ↔ (mm_s h a).1 = 10 ∧ mm_wp d 108 199 ls (mm_o (mm_r h a 1) :: st) h Q := wp_getR rfl rfl
theorem s108_199 : mm_wp d 108 199 ls st h Q ↔ mm_wp d 108 200 ls (.int (0 : Int32) :: st) h Q := wp_iconst rfl rfl
theorem s108_200 : mm_wp d 108 200 [l0, .int x, l2, l3] st h Q ↔ mm_wp d 108 201 [l0, .int x, l2, l3] (.int x :: st) h Q := wp_iload_n rfl rfl
theorem s108_201 : mm_wp (d + 1) 108 201 ls [.int x, t1, t0] h Q ↔ mm_wp d 109 0 [.int x] [] h (mm_bk (d + 1) 108 201 ls [t1, t0] Q) := wp_static rfl rfl ⟨by decide, rfl⟩ ⟨Nat.le_of_ble_eq_true rfl, Nat.le_of_ble_eq_true rfl⟩ rfl rfl rfl rfl
theorem s108_204 : mm_wp d 108 204 ls (.int x2 :: .int x :: .ref a :: st) h Q ↔ ((mm_s h a).1 = 20 ∧ ¬ a = 0 ∧ mm_in x (mm_s h a).2 = true) ∧ mm_wp d 108 205 ls st (mm_pi h a x.toNatClampNeg x2) Q := wp_iastore rfl
theorem s108_205 : mm_wp d 108 205 [.ref a, l1, l2, l3] st h Q ↔ mm_wp d 108 206 [.ref a, l1, l2, l3] (.ref a :: st) h Q := wp_aloadR_n rfl rfl
theorem s108_206 : mm_wp d 108 206 ls (.ref a :: st) h Q ↔ (mm_s h a).1 = 10 ∧ mm_wp d 108 209 ls (mm_o (mm_r h a 1) :: st) h Q := wp_getR rfl rfl
theorem s108_209 : mm_wp d 108 209 ls st h Q ↔ mm_wp d 108 210 ls (.int (1 : Int32) :: st) h Q := wp_iconst rfl rfl
theorem s108_210 : mm_wp d 108 210 [l0, l1, .int x, l3] st h Q ↔ mm_wp d 108 211 [l0, l1, .int x, l3] (.int x :: st) h Q := wp_iload_n rfl rfl
theorem s108_211 : mm_wp (d + 1) 108 211 ls [.int x, t1, t0] h Q ↔ mm_wp d 109 0 [.int x] [] h (mm_bk (d + 1) 108 211 ls [t1, t0] Q) := wp_static rfl rfl ⟨by decide, rfl⟩ ⟨Nat.le_of_ble_eq_true rfl, Nat.le_of_ble_eq_true rfl⟩ rfl rfl rfl rfl
theorem s108_214 : mm_wp d 108 214 ls (.int x2 :: .int x :: .ref a :: st) h Q ↔ ((mm_s h a).1 = 20 ∧ ¬ a = 0 ∧ mm_in x (mm_s h a).2 = true) ∧ mm_wp d 108 215 ls st (mm_pi h a x.toNatClampNeg x2) Q := wp_iastore rfl
theorem s108_215 : mm_wp d 108 215 [.ref a, l1, l2, l3] st h Q ↔ mm_wp d 108 216 [.ref a, l1, l2, l3] (.ref a :: st) h Q := wp_aloadR_n rfl rfl
theorem s108_216 : mm_wp d 108 216 ls (.ref a :: st) h Q ↔ (mm_s h a).1 = 10 ∧ mm_wp d 108 219 ls (mm_o (mm_r h a 1) :: st) h Q := wp_getR rfl rfl
theorem s108_219 : mm_wp d 108 219 ls st h Q ↔ mm_wp d 108 220 ls (.int (2 : Int32) :: st) h Q := wp_iconst rfl rfl
theorem s108_220 : mm_wp d 108 220 [l0, l1, l2, .int x] st h Q ↔ mm_wp d 108 221 [l0, l1, l2, .int x] (.int x :: st) h Q := wp_iload_n rfl rfl
theorem s108_221 : mm_wp (d + 1) 108 221 ls [.int x, t1, t0] h Q ↔ mm_wp d 109 0 [.int x] [] h (mm_bk (d + 1) 108 221 ls [t1, t0] Q) := wp_static rfl rfl ⟨by decide, rfl⟩ ⟨Nat.le_of_ble_eq_true rfl, Nat.le_of_ble_eq_true rfl⟩ rfl rfl rfl rfl
theorem s108_224 : mm_wp d 108 224 ls (.int x2 :: .int x :: .ref a :: st) h Q ↔ ((mm_s h a).1 = 20 ∧ ¬ a = 0 ∧ mm_in x (mm_s h a).2 = true) ∧ mm_wp d 108 225 ls st (mm_pi h a x.toNatClampNeg x2) Q := wp_iastore rfl
theorem s108_225 : mm_wp d 108 225 ls st h Q ↔ Q (.inl none) h := wp_vret rfl rfl
/-! 109: LoadRoomModel.brought(I)I -/
theorem s109_0 : mm_wp d 109 0 [.int x] st h Q ↔ mm_wp d 109 1 [.int x] (.int x :: st) h Q := wp_iload_n rfl rfl
theorem s109_1 : mm_wp d 109 1 ls st h Q ↔ mm_wp d 109 2 ls (.int (1 : Int32) :: st) h Q := wp_iconst rfl rfl
theorem s109_2 : mm_wp d 109 2 ls (.int x2 :: .int x :: st) h Q ↔ if x2 ≤ x then mm_wp d 109 9 ls st h Q else mm_wp d 109 5 ls st h Q := wp_icmpge rfl rfl
theorem s109_5 : mm_wp d 109 5 ls st h Q ↔ mm_wp d 109 6 ls (.int (1 : Int32) :: st) h Q := wp_iconst rfl rfl
theorem s109_6 : mm_wp d 109 6 ls st h Q ↔ mm_wp d 109 23 ls st h Q := wp_goto rfl rfl
theorem s109_9 : mm_wp d 109 9 [.int x] st h Q ↔ mm_wp d 109 10 [.int x] (.int x :: st) h Q := wp_iload_n rfl rfl
theorem s109_10 : mm_wp d 109 10 ls st h Q ↔ mm_wp d 109 13 ls (.int (200 : Int32) :: st) h Q := wp_sipush rfl rfl
theorem s109_13 : mm_wp d 109 13 ls (.int x2 :: .int x :: st) h Q ↔ if x ≤ x2 then mm_wp d 109 22 ls st h Q else mm_wp d 109 16 ls st h Q := wp_icmple rfl rfl
theorem s109_16 : mm_wp d 109 16 ls st h Q ↔ mm_wp d 109 19 ls (.int (200 : Int32) :: st) h Q := wp_sipush rfl rfl
theorem s109_19 : mm_wp d 109 19 ls st h Q ↔ mm_wp d 109 23 ls st h Q := wp_goto rfl rfl
theorem s109_22 : mm_wp d 109 22 [.int x] st h Q ↔ mm_wp d 109 23 [.int x] (.int x :: st) h Q := wp_iload_n rfl rfl
theorem s109_23 : mm_wp d 109 23 ls (.int x :: st) h Q ↔ Q (.inl (some (.int x))) h := wp_iret rfl rfl
/-! 110: LoadRoomModel.thrown()I -/
theorem s110_0 : mm_wp d 110 0 [.ref a] st h Q ↔ mm_wp d 110 1 [.ref a] (.ref a :: st) h Q := wp_aloadR_n rfl rfl
theorem s110_1 : mm_wp d 110 1 ls (.ref a :: st) h Q ↔ (mm_s h a).1 = 10 ∧ mm_wp d 110 4 ls (.int (mm_i h a 0) :: st) h Q := wp_getI rfl rfl (by decide) (by decide)
theorem s110_4 : mm_wp d 110 4 ls (.int x :: st) h Q ↔ Q (.inl (some (.int x))) h := wp_iret rfl rfl
/-! 111: LoadRoomModel.piece(IIII)I -/
theorem s111_0 : mm_wp d 111 0 [l0, .int x, l2, l3, l4, l5] st h Q ↔ mm_wp d 111 1 [l0, .int x, l2, l3, l4, l5] (.int x :: st) h Q := wp_iload_n rfl rfl
theorem s111_1 : mm_wp d 111 1 ls st h Q ↔ mm_wp d 111 2 ls (.int (1 : Int32) :: st) h Q := wp_iconst rfl rfl
theorem s111_2 : mm_wp d 111 2 ls st h Q ↔ mm_wp d 111 5 ls (.int (200 : Int32) :: st) h Q := wp_sipush rfl rfl
theorem s111_5 : mm_wp (d + 1) 111 5 ls [.int x3, .int x2, .int x] h Q ↔ mm_wp d 112 0 [.int x, .int x2, .int x3] [] h (mm_bk (d + 1) 111 5 ls [] Q) := wp_static rfl rfl ⟨by decide, rfl⟩ ⟨Nat.le_of_ble_eq_true rfl, Nat.le_of_ble_eq_true rfl⟩ rfl rfl rfl rfl
theorem s111_8 : mm_wp d 111 8 ls (.int x :: st) h Q ↔ if x = 0 then mm_wp d 111 49 ls st h Q else mm_wp d 111 11 ls st h Q := wp_ifeq rfl rfl
theorem s111_11 : mm_wp d 111 11 [l0, l1, .int x, l3, l4, l5] st h Q ↔ mm_wp d 111 12 [l0, l1, .int x, l3, l4, l5] (.int x :: st) h Q := wp_iload_n rfl rfl
theorem s111_12 : mm_wp d 111 12 ls st h Q ↔ mm_wp d 111 13 ls (.int (1 : Int32) :: st) h Q := wp_iconst rfl rfl
theorem s111_13 : mm_wp d 111 13 ls st h Q ↔ mm_wp d 111 16 ls (.int (200 : Int32) :: st) h Q := wp_sipush rfl rfl
theorem s111_16 : mm_wp (d + 1) 111 16 ls [.int x3, .int x2, .int x] h Q ↔ mm_wp d 112 0 [.int x, .int x2, .int x3] [] h (mm_bk (d + 1) 111 16 ls [] Q) := wp_static rfl rfl ⟨by decide, rfl⟩ ⟨Nat.le_of_ble_eq_true rfl, Nat.le_of_ble_eq_true rfl⟩ rfl rfl rfl rfl
theorem s111_19 : mm_wp d 111 19 ls (.int x :: st) h Q ↔ if x = 0 then mm_wp d 111 49 ls st h Q else mm_wp d 111 22 ls st h Q := wp_ifeq rfl rfl
theorem s111_22 : mm_wp d 111 22 [l0, l1, l2, .int x, l4, l5] st h Q ↔ mm_wp d 111 23 [l0, l1, l2, .int x, l4, l5] (.int x :: st) h Q := wp_iload_n rfl rfl
theorem s111_23 : mm_wp d 111 23 ls st h Q ↔ mm_wp d 111 24 ls (.int (1 : Int32) :: st) h Q := wp_iconst rfl rfl
theorem s111_24 : mm_wp d 111 24 ls st h Q ↔ mm_wp d 111 27 ls (.int (200 : Int32) :: st) h Q := wp_sipush rfl rfl
theorem s111_27 : mm_wp (d + 1) 111 27 ls [.int x3, .int x2, .int x] h Q ↔ mm_wp d 112 0 [.int x, .int x2, .int x3] [] h (mm_bk (d + 1) 111 27 ls [] Q) := wp_static rfl rfl ⟨by decide, rfl⟩ ⟨Nat.le_of_ble_eq_true rfl, Nat.le_of_ble_eq_true rfl⟩ rfl rfl rfl rfl
theorem s111_30 : mm_wp d 111 30 ls (.int x :: st) h Q ↔ if x = 0 then mm_wp d 111 49 ls st h Q else mm_wp d 111 33 ls st h Q := wp_ifeq rfl rfl
theorem s111_33 : mm_wp d 111 33 [l0, l1, l2, l3, .int x, l5] st h Q ↔ mm_wp d 111 35 [l0, l1, l2, l3, .int x, l5] (.int x :: st) h Q := wp_iload rfl rfl
theorem s111_35 : mm_wp d 111 35 ls st h Q ↔ mm_wp d 111 36 ls (.int (1 : Int32) :: st) h Q := wp_iconst rfl rfl
theorem s111_36 : mm_wp d 111 36 ls st h Q ↔ mm_wp d 111 39 ls (.int (10000 : Int32) :: st) h Q := wp_sipush rfl rfl
theorem s111_39 : mm_wp (d + 1) 111 39 ls [.int x3, .int x2, .int x] h Q ↔ mm_wp d 112 0 [.int x, .int x2, .int x3] [] h (mm_bk (d + 1) 111 39 ls [] Q) := wp_static rfl rfl ⟨by decide, rfl⟩ ⟨Nat.le_of_ble_eq_true rfl, Nat.le_of_ble_eq_true rfl⟩ rfl rfl rfl rfl
theorem s111_42 : mm_wp d 111 42 ls (.int x :: st) h Q ↔ if x = 0 then mm_wp d 111 49 ls st h Q else mm_wp d 111 45 ls st h Q := wp_ifeq rfl rfl
theorem s111_45 : mm_wp d 111 45 ls st h Q ↔ mm_wp d 111 46 ls (.int (1 : Int32) :: st) h Q := wp_iconst rfl rfl
theorem s111_46 : mm_wp d 111 46 ls st h Q ↔ mm_wp d 111 50 ls st h Q := wp_goto rfl rfl
theorem s111_49 : mm_wp d 111 49 ls st h Q ↔ mm_wp d 111 50 ls (.int (0 : Int32) :: st) h Q := wp_iconst rfl rfl
theorem s111_50 : mm_wp d 111 50 [l0, l1, l2, l3, l4, l5] (.int x :: st) h Q ↔ mm_wp d 111 52 [l0, l1, l2, l3, l4, .int x] st h Q := wp_istore rfl rfl
theorem s111_52 : mm_wp d 111 52 [.ref a, l1, l2, l3, l4, l5] st h Q ↔ mm_wp d 111 53 [.ref a, l1, l2, l3, l4, l5] (.ref a :: st) h Q := wp_aloadR_n rfl rfl
theorem s111_53 : mm_wp d 111 53 [l0, l1, l2, l3, l4, .int x] st h Q ↔ mm_wp d 111 55 [l0, l1, l2, l3, l4, .int x] (.int x :: st) h Q := wp_iload rfl rfl
theorem s111_55 : mm_wp d 111 55 ls (.int x :: st) h Q ↔ if x = 0 then mm_wp d 111 58 ls st h Q else mm_wp d 111 62 ls st h Q := wp_ifne rfl rfl
theorem s111_58 : mm_wp d 111 58 ls st h Q ↔ mm_wp d 111 59 ls (.int (1 : Int32) :: st) h Q := wp_iconst rfl rfl
theorem s111_59 : mm_wp d 111 59 ls st h Q ↔ mm_wp d 111 76 ls st h Q := wp_goto rfl rfl
theorem s111_62 : mm_wp d 111 62 [.ref a, l1, l2, l3, l4, l5] st h Q ↔ mm_wp d 111 63 [.ref a, l1, l2, l3, l4, l5] (.ref a :: st) h Q := wp_aloadR_n rfl rfl
theorem s111_63 : mm_wp d 111 63 ls (.ref a :: st) h Q ↔ (mm_s h a).1 = 10 ∧ mm_wp d 111 66 ls (.int (mm_i h a 2) :: st) h Q := wp_getI rfl rfl (by decide) (by decide)
theorem s111_66 : mm_wp d 111 66 ls st h Q ↔ mm_wp d 111 68 ls (.int (8 : Int32) :: st) h Q := wp_bipush rfl rfl
theorem s111_68 : mm_wp d 111 68 ls (.int x2 :: .int x :: st) h Q ↔ if x = x2 then mm_wp d 111 71 ls st h Q else mm_wp d 111 75 ls st h Q := wp_icmpne rfl rfl
theorem s111_71 : mm_wp d 111 71 ls st h Q ↔ mm_wp d 111 72 ls (.int (2 : Int32) :: st) h Q := wp_iconst rfl rfl
theorem s111_72 : mm_wp d 111 72 ls st h Q ↔ mm_wp d 111 76 ls st h Q := wp_goto rfl rfl
theorem s111_75 : mm_wp d 111 75 ls st h Q ↔ mm_wp d 111 76 ls (.int (0 : Int32) :: st) h Q := wp_iconst rfl rfl
theorem s111_76 : mm_wp d 111 76 ls (.int x :: .ref a :: st) h Q ↔ (mm_s h a).1 = 10 ∧ mm_wp d 111 79 ls st (mm_pi h a 0 x) Q := wp_putI rfl rfl
theorem s111_79 : mm_wp d 111 79 [.ref a, l1, l2, l3, l4, l5] st h Q ↔ mm_wp d 111 80 [.ref a, l1, l2, l3, l4, l5] (.ref a :: st) h Q := wp_aloadR_n rfl rfl
theorem s111_80 : mm_wp d 111 80 ls (.ref a :: st) h Q ↔ (mm_s h a).1 = 10 ∧ mm_wp d 111 83 ls (.int (mm_i h a 0) :: st) h Q := wp_getI rfl rfl (by decide) (by decide)
theorem s111_83 : mm_wp d 111 83 ls (.int x :: st) h Q ↔ if x ≤ 0 then mm_wp d 111 88 ls st h Q else mm_wp d 111 86 ls st h Q := wp_ifle rfl rfl
theorem s111_86 : mm_wp d 111 86 ls st h Q ↔ mm_wp d 111 87 ls (.int (0 : Int32) :: st) h Q := wp_iconst rfl rfl
theorem s111_87 : mm_wp d 111 87 ls (.int x :: st) h Q ↔ Q (.inl (some (.int x))) h := wp_iret rfl rfl
theorem s111_88 : mm_wp d 111 88 [.ref a, l1, l2, l3, l4, l5] st h Q ↔ mm_wp d 111 89 [.ref a, l1, l2, l3, l4, l5] (.ref a :: st) h Q := wp_aloadR_n rfl rfl
theorem s111_89 : mm_wp d 111 89 ls (.ref a :: st) h Q ↔ (mm_s h a).1 = 10 ∧ mm_wp d 111 92 ls (mm_o (mm_r h a 3) :: st) h Q := wp_getR rfl rfl
theorem s111_92 : mm_wp d 111 92 ls st h Q ↔ mm_wp d 111 93 ls (.int (3 : Int32) :: st) h Q := wp_iconst rfl rfl
theorem s111_93 : mm_wp d 111 93 [.ref a, l1, l2, l3, l4, l5] st h Q ↔ mm_wp d 111 94 [.ref a, l1, l2, l3, l4, l5] (.ref a :: st) h Q := wp_aloadR_n rfl rfl
theorem s111_94 : mm_wp d 111 94 ls (.ref a :: st) h Q ↔ (mm_s h a).1 = 10 ∧ mm_wp d 111 97 ls (.int (mm_i h a 2) :: st) h Q := wp_getI rfl rfl (by decide) (by decide)
theorem s111_97 : mm_wp d 111 97 ls (.int x2 :: .int x :: st) h Q ↔ mm_wp d 111 98 ls (.int (x * x2) :: st) h Q := wp_imul rfl
theorem s111_98 : mm_wp d 111 98 [l0, .int x, l2, l3, l4, l5] st h Q ↔ mm_wp d 111 99 [l0, .int x, l2, l3, l4, l5] (.int x :: st) h Q := wp_iload_n rfl rfl
theorem s111_99 : mm_wp d 111 99 ls (.int x2 :: .int x :: .ref a :: st) h Q ↔ ((mm_s h a).1 = 20 ∧ ¬ a = 0 ∧ mm_in x (mm_s h a).2 = true) ∧ mm_wp d 111 100 ls st (mm_pi h a x.toNatClampNeg x2) Q := wp_iastore rfl
theorem s111_100 : mm_wp d 111 100 [.ref a, l1, l2, l3, l4, l5] st h Q ↔ mm_wp d 111 101 [.ref a, l1, l2, l3, l4, l5] (.ref a :: st) h Q := wp_aloadR_n rfl rfl
theorem s111_101 : mm_wp d 111 101 ls (.ref a :: st) h Q ↔ (mm_s h a).1 = 10 ∧ mm_wp d 111 104 ls (mm_o (mm_r h a 3) :: st) h Q := wp_getR rfl rfl
theorem s111_104 : mm_wp d 111 104 ls st h Q ↔ mm_wp d 111 105 ls (.int (3 : Int32) :: st) h Q := wp_iconst rfl rfl
theorem s111_105 : mm_wp d 111 105 [.ref a, l1, l2, l3, l4, l5] st h Q ↔ mm_wp d 111 106 [.ref a, l1, l2, l3, l4, l5] (.ref a :: st) h Q := wp_aloadR_n rfl rfl
theorem s111_106 : mm_wp d 111 106 ls (.ref a :: st) h Q ↔ (mm_s h a).1 = 10 ∧ mm_wp d 111 109 ls (.int (mm_i h a 2) :: st) h Q := wp_getI rfl rfl (by decide) (by decide)
theorem s111_109 : mm_wp d 111 109 ls (.int x2 :: .int x :: st) h Q ↔ mm_wp d 111 110 ls (.int (x * x2) :: st) h Q := wp_imul rfl
theorem s111_110 : mm_wp d 111 110 ls st h Q ↔ mm_wp d 111 111 ls (.int (1 : Int32) :: st) h Q := wp_iconst rfl rfl
theorem s111_111 : mm_wp d 111 111 ls (.int x2 :: .int x :: st) h Q ↔ mm_wp d 111 112 ls (.int (x + x2) :: st) h Q := wp_iadd rfl
theorem s111_112 : mm_wp d 111 112 [l0, l1, .int x, l3, l4, l5] st h Q ↔ mm_wp d 111 113 [l0, l1, .int x, l3, l4, l5] (.int x :: st) h Q := wp_iload_n rfl rfl
theorem s111_113 : mm_wp d 111 113 ls (.int x2 :: .int x :: .ref a :: st) h Q ↔ ((mm_s h a).1 = 20 ∧ ¬ a = 0 ∧ mm_in x (mm_s h a).2 = true) ∧ mm_wp d 111 114 ls st (mm_pi h a x.toNatClampNeg x2) Q := wp_iastore rfl
theorem s111_114 : mm_wp d 111 114 [.ref a, l1, l2, l3, l4, l5] st h Q ↔ mm_wp d 111 115 [.ref a, l1, l2, l3, l4, l5] (.ref a :: st) h Q := wp_aloadR_n rfl rfl
theorem s111_115 : mm_wp d 111 115 ls (.ref a :: st) h Q ↔ (mm_s h a).1 = 10 ∧ mm_wp d 111 118 ls (mm_o (mm_r h a 3) :: st) h Q := wp_getR rfl rfl
theorem s111_118 : mm_wp d 111 118 ls st h Q ↔ mm_wp d 111 119 ls (.int (3 : Int32) :: st) h Q := wp_iconst rfl rfl
theorem s111_119 : mm_wp d 111 119 [.ref a, l1, l2, l3, l4, l5] st h Q ↔ mm_wp d 111 120 [.ref a, l1, l2, l3, l4, l5] (.ref a :: st) h Q := wp_aloadR_n rfl rfl
theorem s111_120 : mm_wp d 111 120 ls (.ref a :: st) h Q ↔ (mm_s h a).1 = 10 ∧ mm_wp d 111 123 ls (.int (mm_i h a 2) :: st) h Q := wp_getI rfl rfl (by decide) (by decide)
theorem s111_123 : mm_wp d 111 123 ls (.int x2 :: .int x :: st) h Q ↔ mm_wp d 111 124 ls (.int (x * x2) :: st) h Q := wp_imul rfl
theorem s111_124 : mm_wp d 111 124 ls st h Q ↔ mm_wp d 111 125 ls (.int (2 : Int32) :: st) h Q := wp_iconst rfl rfl
theorem s111_125 : mm_wp d 111 125 ls (.int x2 :: .int x :: st) h Q ↔ mm_wp d 111 126 ls (.int (x + x2) :: st) h Q := wp_iadd rfl
theorem s111_126 : mm_wp d 111 126 [l0, l1, l2, .int x, l4, l5] st h Q ↔ mm_wp d 111 127 [l0, l1, l2, .int x, l4, l5] (.int x :: st) h Q := wp_iload_n rfl rfl
theorem s111_127 : mm_wp d 111 127 ls (.int x2 :: .int x :: .ref a :: st) h Q ↔ ((mm_s h a).1 = 20 ∧ ¬ a = 0 ∧ mm_in x (mm_s h a).2 = true) ∧ mm_wp d 111 128 ls st (mm_pi h a x.toNatClampNeg x2) Q := wp_iastore rfl
theorem s111_128 : mm_wp d 111 128 [.ref a, l1, l2, l3, l4, l5] st h Q ↔ mm_wp d 111 129 [.ref a, l1, l2, l3, l4, l5] (.ref a :: st) h Q := wp_aloadR_n rfl rfl
theorem s111_129 : mm_wp d 111 129 ls (.ref a :: st) h Q ↔ (mm_s h a).1 = 10 ∧ mm_wp d 111 132 ls (mm_o (mm_r h a 4) :: st) h Q := wp_getR rfl rfl
theorem s111_132 : mm_wp d 111 132 [.ref a, l1, l2, l3, l4, l5] st h Q ↔ mm_wp d 111 133 [.ref a, l1, l2, l3, l4, l5] (.ref a :: st) h Q := wp_aloadR_n rfl rfl
theorem s111_133 : mm_wp d 111 133 ls (.ref a :: st) h Q ↔ (mm_s h a).1 = 10 ∧ mm_wp d 111 136 ls (.int (mm_i h a 2) :: st) h Q := wp_getI rfl rfl (by decide) (by decide)
theorem s111_136 : mm_wp d 111 136 [l0, l1, l2, l3, .int x, l5] st h Q ↔ mm_wp d 111 138 [l0, l1, l2, l3, .int x, l5] (.int x :: st) h Q := wp_iload rfl rfl
theorem s111_138 : mm_wp d 111 138 ls (.int x2 :: .int x :: .ref a :: st) h Q ↔ ((mm_s h a).1 = 20 ∧ ¬ a = 0 ∧ mm_in x (mm_s h a).2 = true) ∧ mm_wp d 111 139 ls st (mm_pi h a x.toNatClampNeg x2) Q := wp_iastore rfl
theorem s111_139 : mm_wp d 111 139 [.ref a, l1, l2, l3, l4, l5] st h Q ↔ mm_wp d 111 140 [.ref a, l1, l2, l3, l4, l5] (.ref a :: st) h Q := wp_aloadR_n rfl rfl
theorem s111_140 : mm_wp d 111 140 ls (.ref a :: st) h Q ↔ (mm_s h a).1 = 10 ∧ mm_wp d 111 143 ls (mm_o (mm_r h a 5) :: st) h Q := wp_getR rfl rfl
theorem s111_143 : mm_wp d 111 143 [.ref a, l1, l2, l3, l4, l5] st h Q ↔ mm_wp d 111 144 [.ref a, l1, l2, l3, l4, l5] (.ref a :: st) h Q := wp_aloadR_n rfl rfl
theorem s111_144 : mm_wp d 111 144 ls (.ref a :: st) h Q ↔ (mm_s h a).1 = 10 ∧ mm_wp d 111 147 ls (.int (mm_i h a 2) :: st) h Q := wp_getI rfl rfl (by decide) (by decide)
theorem s111_147 : mm_wp d 111 147 ls st h Q ↔ mm_wp d 111 148 ls (.int (0 : Int32) :: st) h Q := wp_iconst rfl rfl
theorem s111_148 : mm_wp d 111 148 ls (.int x2 :: .int x :: .ref a :: st) h Q ↔ ((mm_s h a).1 = 20 ∧ ¬ a = 0 ∧ mm_in x (mm_s h a).2 = true) ∧ mm_wp d 111 149 ls st (mm_pi h a x.toNatClampNeg x2) Q := wp_iastore rfl
theorem s111_149 : mm_wp d 111 149 [.ref a, l1, l2, l3, l4, l5] st h Q ↔ mm_wp d 111 150 [.ref a, l1, l2, l3, l4, l5] (.ref a :: st) h Q := wp_aloadR_n rfl rfl
theorem s111_150 : mm_wp d 111 150 ls (.ref a :: st) h Q ↔ (mm_s h a).1 = 10 ∧ mm_wp d 111 153 ls (mm_o (mm_r h a 6) :: st) h Q := wp_getR rfl rfl
theorem s111_153 : mm_wp d 111 153 [.ref a, l1, l2, l3, l4, l5] st h Q ↔ mm_wp d 111 154 [.ref a, l1, l2, l3, l4, l5] (.ref a :: st) h Q := wp_aloadR_n rfl rfl
theorem s111_154 : mm_wp d 111 154 ls (.ref a :: st) h Q ↔ (mm_s h a).1 = 10 ∧ mm_wp d 111 157 ls (.int (mm_i h a 2) :: st) h Q := wp_getI rfl rfl (by decide) (by decide)
theorem s111_157 : mm_wp d 111 157 ls st h Q ↔ mm_wp d 111 158 ls (.int (0 : Int32) :: st) h Q := wp_iconst rfl rfl
theorem s111_158 : mm_wp d 111 158 ls (.int x2 :: .int x :: .ref a :: st) h Q ↔ ((mm_s h a).1 = 20 ∧ ¬ a = 0 ∧ mm_in x (mm_s h a).2 = true) ∧ mm_wp d 111 159 ls st (mm_pi h a x.toNatClampNeg x2) Q := wp_iastore rfl
theorem s111_159 : mm_wp d 111 159 [.ref a, l1, l2, l3, l4, l5] st h Q ↔ mm_wp d 111 160 [.ref a, l1, l2, l3, l4, l5] (.ref a :: st) h Q := wp_aloadR_n rfl rfl
theorem s111_160 : mm_wp d 111 160 ls (.ref a :: st) h Q ↔ (mm_s h a).1 = 10 ∧ mm_wp d 111 163 ls (mm_o (mm_r h a 7) :: st) h Q := wp_getR rfl rfl
theorem s111_163 : mm_wp d 111 163 [.ref a, l1, l2, l3, l4, l5] st h Q ↔ mm_wp d 111 164 [.ref a, l1, l2, l3, l4, l5] (.ref a :: st) h Q := wp_aloadR_n rfl rfl
theorem s111_164 : mm_wp d 111 164 ls (.ref a :: st) h Q ↔ (mm_s h a).1 = 10 ∧ mm_wp d 111 167 ls (.int (mm_i h a 2) :: st) h Q := wp_getI rfl rfl (by decide) (by decide)
theorem s111_167 : mm_wp d 111 167 ls st h Q ↔ mm_wp d 111 169 ls (.int (100000 : Int32) :: st) h Q := wp_ldcI rfl rfl
theorem s111_169 : mm_wp d 111 169 ls (.int x2 :: .int x :: .ref a :: st) h Q ↔ ((mm_s h a).1 = 20 ∧ ¬ a = 0 ∧ mm_in x (mm_s h a).2 = true) ∧ mm_wp d 111 170 ls st (mm_pi h a x.toNatClampNeg x2) Q := wp_iastore rfl
theorem s111_170 : mm_wp d 111 170 [.ref a, l1, l2, l3, l4, l5] st h Q ↔ mm_wp d 111 171 [.ref a, l1, l2, l3, l4, l5] (.ref a :: st) h Q := wp_aloadR_n rfl rfl
theorem s111_171 : mm_wp d 111 171 ls (.ref a :: st) h Q ↔ mm_wp d 111 172 ls (.ref a :: .ref a :: st) h Q := wp_dupR rfl
theorem s111_172 : mm_wp d 111 172 ls (.ref a :: st) h Q ↔ (mm_s h a).1 = 10 ∧ mm_wp d 111 175 ls (.int (mm_i h a 2) :: st) h Q := wp_getI rfl rfl (by decide) (by decide)
theorem s111_175 : mm_wp d 111 175 ls st h Q ↔ mm_wp d 111 176 ls (.int (1 : Int32) :: st) h Q := wp_iconst rfl rfl
theorem s111_176 : mm_wp d 111 176 ls (.int x2 :: .int x :: st) h Q ↔ mm_wp d 111 177 ls (.int (x + x2) :: st) h Q := wp_iadd rfl
theorem s111_177 : mm_wp d 111 177 ls (.int x :: .ref a :: st) h Q ↔ (mm_s h a).1 = 10 ∧ mm_wp d 111 180 ls st (mm_pi h a 2 x) Q := wp_putI rfl rfl
theorem s111_180 : mm_wp d 111 180 [.ref a, l1, l2, l3, l4, l5] st h Q ↔ mm_wp d 111 181 [.ref a, l1, l2, l3, l4, l5] (.ref a :: st) h Q := wp_aloadR_n rfl rfl
theorem s111_181 : mm_wp (d + 1) 111 181 ls [.ref a] h Q ↔ (mm_s h a).1 = 10 ∧ mm_wp d 113 0 [.ref a] [] h (mm_bk (d + 1) 111 181 ls [] Q) := wp_virtual rfl rfl ⟨by decide, rfl⟩ ⟨Nat.le_of_ble_eq_true rfl, Nat.le_of_ble_eq_true rfl⟩ rfl rfl rfl rfl rfl rfl
theorem s111_184 : mm_wp d 111 184 [.ref a, l1, l2, l3, l4, l5] st h Q ↔ mm_wp d 111 185 [.ref a, l1, l2, l3, l4, l5] (.ref a :: st) h Q := wp_aloadR_n rfl rfl
theorem s111_185 : mm_wp d 111 185 ls (.ref a :: st) h Q ↔ (mm_s h a).1 = 10 ∧ mm_wp d 111 188 ls (.int (mm_i h a 2) :: st) h Q := wp_getI rfl rfl (by decide) (by decide)
theorem s111_188 : mm_wp d 111 188 ls st h Q ↔ mm_wp d 111 189 ls (.int (1 : Int32) :: st) h Q := wp_iconst rfl rfl
theorem s111_189 : mm_wp d 111 189 ls (.int x2 :: .int x :: st) h Q ↔ mm_wp d 111 190 ls (.int (x - x2) :: st) h Q := wp_isub rfl
theorem s111_190 : mm_wp d 111 190 ls (.int x :: st) h Q ↔ Q (.inl (some (.int x))) h := wp_iret rfl rfl
/-! 112: LoadRoomModel.within(III)Z -/
theorem s112_0 : mm_wp d 112 0 [.int x, l1, l2] st h Q ↔ mm_wp d 112 1 [.int x, l1, l2] (.int x :: st) h Q := wp_iload_n rfl rfl
theorem s112_1 : mm_wp d 112 1 [l0, .int x, l2] st h Q ↔ mm_wp d 112 2 [l0, .int x, l2] (.int x :: st) h Q := wp_iload_n rfl rfl
theorem s112_2 : mm_wp d 112 2 ls (.int x2 :: .int x :: st) h Q ↔ if x < x2 then mm_wp d 112 14 ls st h Q else mm_wp d 112 5 ls st h Q := wp_icmplt rfl rfl
theorem s112_5 : mm_wp d 112 5 [.int x, l1, l2] st h Q ↔ mm_wp d 112 6 [.int x, l1, l2] (.int x :: st) h Q := wp_iload_n rfl rfl
theorem s112_6 : mm_wp d 112 6 [l0, l1, .int x] st h Q ↔ mm_wp d 112 7 [l0, l1, .int x] (.int x :: st) h Q := wp_iload_n rfl rfl
theorem s112_7 : mm_wp d 112 7 ls (.int x2 :: .int x :: st) h Q ↔ if x2 < x then mm_wp d 112 14 ls st h Q else mm_wp d 112 10 ls st h Q := wp_icmpgt rfl rfl
theorem s112_10 : mm_wp d 112 10 ls st h Q ↔ mm_wp d 112 11 ls (.int (1 : Int32) :: st) h Q := wp_iconst rfl rfl
theorem s112_11 : mm_wp d 112 11 ls st h Q ↔ mm_wp d 112 15 ls st h Q := wp_goto rfl rfl
theorem s112_14 : mm_wp d 112 14 ls st h Q ↔ mm_wp d 112 15 ls (.int (0 : Int32) :: st) h Q := wp_iconst rfl rfl
theorem s112_15 : mm_wp d 112 15 ls (.int x :: st) h Q ↔ (x = 0 ∨ x = 1) ∧ Q (.inl (some (.int x))) h := wp_zret rfl rfl
/-! 113: LoadRoomModel.unpack()V -/
theorem s113_0 : mm_wp d 113 0 [.ref a] st h Q ↔ mm_wp d 113 1 [.ref a] (.ref a :: st) h Q := wp_aloadR_n rfl rfl
theorem s113_1 : mm_wp d 113 1 ls st h Q ↔ mm_wp d 113 2 ls (.int (0 : Int32) :: st) h Q := wp_iconst rfl rfl
theorem s113_2 : mm_wp d 113 2 ls (.int x :: .ref a :: st) h Q ↔ (mm_s h a).1 = 10 ∧ (x = 0 ∨ x = 1) ∧ mm_wp d 113 5 ls st (mm_pi h a 20 x) Q := wp_putZ rfl rfl
theorem s113_5 : mm_wp d 113 5 [.ref a] st h Q ↔ mm_wp d 113 6 [.ref a] (.ref a :: st) h Q := wp_aloadR_n rfl rfl
theorem s113_6 : mm_wp d 113 6 ls st h Q ↔ mm_wp d 113 7 ls (.int (0 : Int32) :: st) h Q := wp_iconst rfl rfl
theorem s113_7 : mm_wp d 113 7 ls (.int x :: .ref a :: st) h Q ↔ (mm_s h a).1 = 10 ∧ mm_wp d 113 10 ls st (mm_pi h a 23 x) Q := wp_putI rfl rfl
theorem s113_10 : mm_wp d 113 10 [.ref a] st h Q ↔ mm_wp d 113 11 [.ref a] (.ref a :: st) h Q := wp_aloadR_n rfl rfl
theorem s113_11 : mm_wp d 113 11 ls st h Q ↔ mm_wp d 113 12 ls (.long (0 : Int64) :: st) h Q := wp_lconst rfl rfl
theorem s113_12 : mm_wp d 113 12 ls (.long w :: .ref a :: st) h Q ↔ (mm_s h a).1 = 10 ∧ mm_wp d 113 15 ls st (mm_pl h a 24 w) Q := wp_putL rfl rfl
theorem s113_15 : mm_wp d 113 15 [.ref a] st h Q ↔ mm_wp d 113 16 [.ref a] (.ref a :: st) h Q := wp_aloadR_n rfl rfl
theorem s113_16 : mm_wp d 113 16 ls st h Q ↔ mm_wp d 113 17 ls (.long (0 : Int64) :: st) h Q := wp_lconst rfl rfl
theorem s113_17 : mm_wp d 113 17 ls (.long w :: .ref a :: st) h Q ↔ (mm_s h a).1 = 10 ∧ mm_wp d 113 20 ls st (mm_pl h a 25 w) Q := wp_putL rfl rfl
theorem s113_20 : mm_wp d 113 20 ls st h Q ↔ Q (.inl none) h := wp_vret rfl rfl
/-! 114: LoadRoomModel.turn(II)I -/
theorem s114_0 : mm_wp d 114 0 [.ref a, l1, l2, l3] st h Q ↔ mm_wp d 114 1 [.ref a, l1, l2, l3] (.ref a :: st) h Q := wp_aloadR_n rfl rfl
theorem s114_1 : mm_wp d 114 1 [.ref a, l1, l2, l3] st h Q ↔ mm_wp d 114 2 [.ref a, l1, l2, l3] (.ref a :: st) h Q := wp_aloadR_n rfl rfl
theorem s114_2 : mm_wp d 114 2 [l0, .int x, l2, l3] st h Q ↔ mm_wp d 114 3 [l0, .int x, l2, l3] (.int x :: st) h Q := wp_iload_n rfl rfl
theorem s114_3 : mm_wp (d + 1) 114 3 ls [.int x2, .ref a, t0] h Q ↔ (mm_s h a).1 = 10 ∧ mm_wp d 115 0 [.ref a, .int x2] [] h (mm_bk (d + 1) 114 3 ls [t0] Q) := wp_virtual rfl rfl ⟨by decide, rfl⟩ ⟨Nat.le_of_ble_eq_true rfl, Nat.le_of_ble_eq_true rfl⟩ rfl rfl rfl rfl rfl rfl
theorem s114_6 : mm_wp d 114 6 ls (.int x :: st) h Q ↔ if x = 0 then mm_wp d 114 9 ls st h Q else mm_wp d 114 13 ls st h Q := wp_ifne rfl rfl
theorem s114_9 : mm_wp d 114 9 ls st h Q ↔ mm_wp d 114 10 ls (.int (1 : Int32) :: st) h Q := wp_iconst rfl rfl
theorem s114_10 : mm_wp d 114 10 ls st h Q ↔ mm_wp d 114 27 ls st h Q := wp_goto rfl rfl
theorem s114_13 : mm_wp d 114 13 [l0, l1, .int x, l3] st h Q ↔ mm_wp d 114 14 [l0, l1, .int x, l3] (.int x :: st) h Q := wp_iload_n rfl rfl
theorem s114_14 : mm_wp d 114 14 ls st h Q ↔ mm_wp d 114 15 ls (.int (0 : Int32) :: st) h Q := wp_iconst rfl rfl
theorem s114_15 : mm_wp d 114 15 ls st h Q ↔ mm_wp d 114 16 ls (.int (3 : Int32) :: st) h Q := wp_iconst rfl rfl
theorem s114_16 : mm_wp (d + 1) 114 16 ls [.int x3, .int x2, .int x, t0] h Q ↔ mm_wp d 112 0 [.int x, .int x2, .int x3] [] h (mm_bk (d + 1) 114 16 ls [t0] Q) := wp_static rfl rfl ⟨by decide, rfl⟩ ⟨Nat.le_of_ble_eq_true rfl, Nat.le_of_ble_eq_true rfl⟩ rfl rfl rfl rfl
theorem s114_19 : mm_wp d 114 19 ls (.int x :: st) h Q ↔ if x = 0 then mm_wp d 114 26 ls st h Q else mm_wp d 114 22 ls st h Q := wp_ifeq rfl rfl
theorem s114_22 : mm_wp d 114 22 ls st h Q ↔ mm_wp d 114 23 ls (.int (0 : Int32) :: st) h Q := wp_iconst rfl rfl
theorem s114_23 : mm_wp d 114 23 ls st h Q ↔ mm_wp d 114 27 ls st h Q := wp_goto rfl rfl
theorem s114_26 : mm_wp d 114 26 ls st h Q ↔ mm_wp d 114 27 ls (.int (2 : Int32) :: st) h Q := wp_iconst rfl rfl
theorem s114_27 : mm_wp d 114 27 ls (.int x :: .ref a :: st) h Q ↔ (mm_s h a).1 = 10 ∧ mm_wp d 114 30 ls st (mm_pi h a 0 x) Q := wp_putI rfl rfl
theorem s114_30 : mm_wp d 114 30 [.ref a, l1, l2, l3] st h Q ↔ mm_wp d 114 31 [.ref a, l1, l2, l3] (.ref a :: st) h Q := wp_aloadR_n rfl rfl
theorem s114_31 : mm_wp d 114 31 ls (.ref a :: st) h Q ↔ (mm_s h a).1 = 10 ∧ mm_wp d 114 34 ls (.int (mm_i h a 0) :: st) h Q := wp_getI rfl rfl (by decide) (by decide)
theorem s114_34 : mm_wp d 114 34 ls (.int x :: st) h Q ↔ if x ≤ 0 then mm_wp d 114 39 ls st h Q else mm_wp d 114 37 ls st h Q := wp_ifle rfl rfl
theorem s114_37 : mm_wp d 114 37 ls st h Q ↔ mm_wp d 114 38 ls (.int (0 : Int32) :: st) h Q := wp_iconst rfl rfl
theorem s114_38 : mm_wp d 114 38 ls (.int x :: st) h Q ↔ Q (.inl (some (.int x))) h := wp_iret rfl rfl
theorem s114_39 : mm_wp d 114 39 [.ref a, l1, l2, l3] st h Q ↔ mm_wp d 114 40 [.ref a, l1, l2, l3] (.ref a :: st) h Q := wp_aloadR_n rfl rfl
theorem s114_40 : mm_wp d 114 40 ls (.ref a :: st) h Q ↔ (mm_s h a).1 = 10 ∧ mm_wp d 114 43 ls (mm_o (mm_r h a 5) :: st) h Q := wp_getR rfl rfl
theorem s114_43 : mm_wp d 114 43 [l0, .int x, l2, l3] st h Q ↔ mm_wp d 114 44 [l0, .int x, l2, l3] (.int x :: st) h Q := wp_iload_n rfl rfl
theorem s114_44 : mm_wp d 114 44 ls (.int x :: .ref a :: st) h Q ↔ ((mm_s h a).1 = 20 ∧ mm_in x (mm_s h a).2 = true) ∧ mm_wp d 114 45 ls (.int (mm_i h a x.toNatClampNeg) :: st) h Q := wp_iaload rfl
theorem s114_45 : mm_wp d 114 45 [l0, l1, l2, l3] (.int x :: st) h Q ↔ mm_wp d 114 46 [l0, l1, l2, .int x] st h Q := wp_istore_n rfl rfl
theorem s114_46 : mm_wp d 114 46 [.ref a, l1, l2, l3] st h Q ↔ mm_wp d 114 47 [.ref a, l1, l2, l3] (.ref a :: st) h Q := wp_aloadR_n rfl rfl
theorem s114_47 : mm_wp d 114 47 ls (.ref a :: st) h Q ↔ (mm_s h a).1 = 10 ∧ mm_wp d 114 50 ls (mm_o (mm_r h a 5) :: st) h Q := wp_getR rfl rfl
theorem s114_50 : mm_wp d 114 50 [l0, .int x, l2, l3] st h Q ↔ mm_wp d 114 51 [l0, .int x, l2, l3] (.int x :: st) h Q := wp_iload_n rfl rfl
theorem s114_51 : mm_wp d 114 51 [l0, l1, .int x, l3] st h Q ↔ mm_wp d 114 52 [l0, l1, .int x, l3] (.int x :: st) h Q := wp_iload_n rfl rfl
theorem s114_52 : mm_wp d 114 52 ls (.int x2 :: .int x :: .ref a :: st) h Q ↔ ((mm_s h a).1 = 20 ∧ ¬ a = 0 ∧ mm_in x (mm_s h a).2 = true) ∧ mm_wp d 114 53 ls st (mm_pi h a x.toNatClampNeg x2) Q := wp_iastore rfl
theorem s114_53 : mm_wp d 114 53 [.ref a, l1, l2, l3] st h Q ↔ mm_wp d 114 54 [.ref a, l1, l2, l3] (.ref a :: st) h Q := wp_aloadR_n rfl rfl
theorem s114_54 : mm_wp (d + 1) 114 54 ls [.ref a] h Q ↔ (mm_s h a).1 = 10 ∧ mm_wp d 113 0 [.ref a] [] h (mm_bk (d + 1) 114 54 ls [] Q) := wp_virtual rfl rfl ⟨by decide, rfl⟩ ⟨Nat.le_of_ble_eq_true rfl, Nat.le_of_ble_eq_true rfl⟩ rfl rfl rfl rfl rfl rfl
theorem s114_57 : mm_wp d 114 57 [l0, l1, l2, .int x] st h Q ↔ mm_wp d 114 58 [l0, l1, l2, .int x] (.int x :: st) h Q := wp_iload_n rfl rfl
theorem s114_58 : mm_wp d 114 58 ls (.int x :: st) h Q ↔ Q (.inl (some (.int x))) h := wp_iret rfl rfl
/-! 115: LoadRoomModel.isPiece(I)Z -/
theorem s115_0 : mm_wp d 115 0 [l0, .int x] st h Q ↔ mm_wp d 115 1 [l0, .int x] (.int x :: st) h Q := wp_iload_n rfl rfl
theorem s115_1 : mm_wp d 115 1 ls st h Q ↔ mm_wp d 115 2 ls (.int (0 : Int32) :: st) h Q := wp_iconst rfl rfl
theorem s115_2 : mm_wp d 115 2 [.ref a, l1] st h Q ↔ mm_wp d 115 3 [.ref a, l1] (.ref a :: st) h Q := wp_aloadR_n rfl rfl
theorem s115_3 : mm_wp d 115 3 ls (.ref a :: st) h Q ↔ (mm_s h a).1 = 10 ∧ mm_wp d 115 6 ls (.int (mm_i h a 2) :: st) h Q := wp_getI rfl rfl (by decide) (by decide)
theorem s115_6 : mm_wp d 115 6 ls st h Q ↔ mm_wp d 115 7 ls (.int (1 : Int32) :: st) h Q := wp_iconst rfl rfl
theorem s115_7 : mm_wp d 115 7 ls (.int x2 :: .int x :: st) h Q ↔ mm_wp d 115 8 ls (.int (x - x2) :: st) h Q := wp_isub rfl
theorem s115_8 : mm_wp (d + 1) 115 8 ls [.int x3, .int x2, .int x] h Q ↔ mm_wp d 112 0 [.int x, .int x2, .int x3] [] h (mm_bk (d + 1) 115 8 ls [] Q) := wp_static rfl rfl ⟨by decide, rfl⟩ ⟨Nat.le_of_ble_eq_true rfl, Nat.le_of_ble_eq_true rfl⟩ rfl rfl rfl rfl
theorem s115_11 : mm_wp d 115 11 ls (.int x :: st) h Q ↔ (x = 0 ∨ x = 1) ∧ Q (.inl (some (.int x))) h := wp_zret rfl rfl
/-! 116: LoadRoomModel.order(II)I -/
theorem s116_0 : mm_wp d 116 0 [.ref a, l1, l2, l3] st h Q ↔ mm_wp d 116 1 [.ref a, l1, l2, l3] (.ref a :: st) h Q := wp_aloadR_n rfl rfl
theorem s116_1 : mm_wp d 116 1 [.ref a, l1, l2, l3] st h Q ↔ mm_wp d 116 2 [.ref a, l1, l2, l3] (.ref a :: st) h Q := wp_aloadR_n rfl rfl
theorem s116_2 : mm_wp d 116 2 [l0, .int x, l2, l3] st h Q ↔ mm_wp d 116 3 [l0, .int x, l2, l3] (.int x :: st) h Q := wp_iload_n rfl rfl
theorem s116_3 : mm_wp (d + 1) 116 3 ls [.int x2, .ref a, t0] h Q ↔ (mm_s h a).1 = 10 ∧ mm_wp d 115 0 [.ref a, .int x2] [] h (mm_bk (d + 1) 116 3 ls [t0] Q) := wp_virtual rfl rfl ⟨by decide, rfl⟩ ⟨Nat.le_of_ble_eq_true rfl, Nat.le_of_ble_eq_true rfl⟩ rfl rfl rfl rfl rfl rfl
theorem s116_6 : mm_wp d 116 6 ls (.int x :: st) h Q ↔ if x = 0 then mm_wp d 116 9 ls st h Q else mm_wp d 116 13 ls st h Q := wp_ifne rfl rfl
theorem s116_9 : mm_wp d 116 9 ls st h Q ↔ mm_wp d 116 10 ls (.int (1 : Int32) :: st) h Q := wp_iconst rfl rfl
theorem s116_10 : mm_wp d 116 10 ls st h Q ↔ mm_wp d 116 28 ls st h Q := wp_goto rfl rfl
theorem s116_13 : mm_wp d 116 13 [l0, l1, .int x, l3] st h Q ↔ mm_wp d 116 14 [l0, l1, .int x, l3] (.int x :: st) h Q := wp_iload_n rfl rfl
theorem s116_14 : mm_wp d 116 14 ls st h Q ↔ mm_wp d 116 15 ls (.int (0 : Int32) :: st) h Q := wp_iconst rfl rfl
theorem s116_15 : mm_wp d 116 15 ls st h Q ↔ mm_wp d 116 17 ls (.int (9 : Int32) :: st) h Q := wp_bipush rfl rfl
theorem s116_17 : mm_wp (d + 1) 116 17 ls [.int x3, .int x2, .int x, t0] h Q ↔ mm_wp d 112 0 [.int x, .int x2, .int x3] [] h (mm_bk (d + 1) 116 17 ls [t0] Q) := wp_static rfl rfl ⟨by decide, rfl⟩ ⟨Nat.le_of_ble_eq_true rfl, Nat.le_of_ble_eq_true rfl⟩ rfl rfl rfl rfl
theorem s116_20 : mm_wp d 116 20 ls (.int x :: st) h Q ↔ if x = 0 then mm_wp d 116 27 ls st h Q else mm_wp d 116 23 ls st h Q := wp_ifeq rfl rfl
theorem s116_23 : mm_wp d 116 23 ls st h Q ↔ mm_wp d 116 24 ls (.int (0 : Int32) :: st) h Q := wp_iconst rfl rfl
theorem s116_24 : mm_wp d 116 24 ls st h Q ↔ mm_wp d 116 28 ls st h Q := wp_goto rfl rfl
theorem s116_27 : mm_wp d 116 27 ls st h Q ↔ mm_wp d 116 28 ls (.int (2 : Int32) :: st) h Q := wp_iconst rfl rfl
theorem s116_28 : mm_wp d 116 28 ls (.int x :: .ref a :: st) h Q ↔ (mm_s h a).1 = 10 ∧ mm_wp d 116 31 ls st (mm_pi h a 0 x) Q := wp_putI rfl rfl
theorem s116_31 : mm_wp d 116 31 [.ref a, l1, l2, l3] st h Q ↔ mm_wp d 116 32 [.ref a, l1, l2, l3] (.ref a :: st) h Q := wp_aloadR_n rfl rfl
theorem s116_32 : mm_wp d 116 32 ls (.ref a :: st) h Q ↔ (mm_s h a).1 = 10 ∧ mm_wp d 116 35 ls (.int (mm_i h a 0) :: st) h Q := wp_getI rfl rfl (by decide) (by decide)
theorem s116_35 : mm_wp d 116 35 ls (.int x :: st) h Q ↔ if x ≤ 0 then mm_wp d 116 40 ls st h Q else mm_wp d 116 38 ls st h Q := wp_ifle rfl rfl
theorem s116_38 : mm_wp d 116 38 ls st h Q ↔ mm_wp d 116 39 ls (.int (0 : Int32) :: st) h Q := wp_iconst rfl rfl
theorem s116_39 : mm_wp d 116 39 ls (.int x :: st) h Q ↔ Q (.inl (some (.int x))) h := wp_iret rfl rfl
theorem s116_40 : mm_wp d 116 40 [.ref a, l1, l2, l3] st h Q ↔ mm_wp d 116 41 [.ref a, l1, l2, l3] (.ref a :: st) h Q := wp_aloadR_n rfl rfl
theorem s116_41 : mm_wp d 116 41 ls (.ref a :: st) h Q ↔ (mm_s h a).1 = 10 ∧ mm_wp d 116 44 ls (mm_o (mm_r h a 6) :: st) h Q := wp_getR rfl rfl
theorem s116_44 : mm_wp d 116 44 [l0, .int x, l2, l3] st h Q ↔ mm_wp d 116 45 [l0, .int x, l2, l3] (.int x :: st) h Q := wp_iload_n rfl rfl
theorem s116_45 : mm_wp d 116 45 ls (.int x :: .ref a :: st) h Q ↔ ((mm_s h a).1 = 20 ∧ mm_in x (mm_s h a).2 = true) ∧ mm_wp d 116 46 ls (.int (mm_i h a x.toNatClampNeg) :: st) h Q := wp_iaload rfl
theorem s116_46 : mm_wp d 116 46 [l0, l1, l2, l3] (.int x :: st) h Q ↔ mm_wp d 116 47 [l0, l1, l2, .int x] st h Q := wp_istore_n rfl rfl
theorem s116_47 : mm_wp d 116 47 [.ref a, l1, l2, l3] st h Q ↔ mm_wp d 116 48 [.ref a, l1, l2, l3] (.ref a :: st) h Q := wp_aloadR_n rfl rfl
theorem s116_48 : mm_wp d 116 48 ls (.ref a :: st) h Q ↔ (mm_s h a).1 = 10 ∧ mm_wp d 116 51 ls (mm_o (mm_r h a 6) :: st) h Q := wp_getR rfl rfl
theorem s116_51 : mm_wp d 116 51 [l0, .int x, l2, l3] st h Q ↔ mm_wp d 116 52 [l0, .int x, l2, l3] (.int x :: st) h Q := wp_iload_n rfl rfl
theorem s116_52 : mm_wp d 116 52 [l0, l1, .int x, l3] st h Q ↔ mm_wp d 116 53 [l0, l1, .int x, l3] (.int x :: st) h Q := wp_iload_n rfl rfl
theorem s116_53 : mm_wp d 116 53 ls (.int x2 :: .int x :: .ref a :: st) h Q ↔ ((mm_s h a).1 = 20 ∧ ¬ a = 0 ∧ mm_in x (mm_s h a).2 = true) ∧ mm_wp d 116 54 ls st (mm_pi h a x.toNatClampNeg x2) Q := wp_iastore rfl
theorem s116_54 : mm_wp d 116 54 [.ref a, l1, l2, l3] st h Q ↔ mm_wp d 116 55 [.ref a, l1, l2, l3] (.ref a :: st) h Q := wp_aloadR_n rfl rfl
theorem s116_55 : mm_wp (d + 1) 116 55 ls [.ref a] h Q ↔ (mm_s h a).1 = 10 ∧ mm_wp d 113 0 [.ref a] [] h (mm_bk (d + 1) 116 55 ls [] Q) := wp_virtual rfl rfl ⟨by decide, rfl⟩ ⟨Nat.le_of_ble_eq_true rfl, Nat.le_of_ble_eq_true rfl⟩ rfl rfl rfl rfl rfl rfl
theorem s116_58 : mm_wp d 116 58 [l0, l1, l2, .int x] st h Q ↔ mm_wp d 116 59 [l0, l1, l2, .int x] (.int x :: st) h Q := wp_iload_n rfl rfl
theorem s116_59 : mm_wp d 116 59 ls (.int x :: st) h Q ↔ Q (.inl (some (.int x))) h := wp_iret rfl rfl
/-! 117: LoadRoomModel.limit(II)I -/
theorem s117_0 : mm_wp d 117 0 [.ref a, l1, l2, l3] st h Q ↔ mm_wp d 117 1 [.ref a, l1, l2, l3] (.ref a :: st) h Q := wp_aloadR_n rfl rfl
theorem s117_1 : mm_wp d 117 1 [.ref a, l1, l2, l3] st h Q ↔ mm_wp d 117 2 [.ref a, l1, l2, l3] (.ref a :: st) h Q := wp_aloadR_n rfl rfl
theorem s117_2 : mm_wp d 117 2 [l0, .int x, l2, l3] st h Q ↔ mm_wp d 117 3 [l0, .int x, l2, l3] (.int x :: st) h Q := wp_iload_n rfl rfl
theorem s117_3 : mm_wp (d + 1) 117 3 ls [.int x2, .ref a, t0] h Q ↔ (mm_s h a).1 = 10 ∧ mm_wp d 115 0 [.ref a, .int x2] [] h (mm_bk (d + 1) 117 3 ls [t0] Q) := wp_virtual rfl rfl ⟨by decide, rfl⟩ ⟨Nat.le_of_ble_eq_true rfl, Nat.le_of_ble_eq_true rfl⟩ rfl rfl rfl rfl rfl rfl
theorem s117_6 : mm_wp d 117 6 ls (.int x :: st) h Q ↔ if x = 0 then mm_wp d 117 9 ls st h Q else mm_wp d 117 13 ls st h Q := wp_ifne rfl rfl
theorem s117_9 : mm_wp d 117 9 ls st h Q ↔ mm_wp d 117 10 ls (.int (1 : Int32) :: st) h Q := wp_iconst rfl rfl
theorem s117_10 : mm_wp d 117 10 ls st h Q ↔ mm_wp d 117 28 ls st h Q := wp_goto rfl rfl
theorem s117_13 : mm_wp d 117 13 [l0, l1, .int x, l3] st h Q ↔ mm_wp d 117 14 [l0, l1, .int x, l3] (.int x :: st) h Q := wp_iload_n rfl rfl
theorem s117_14 : mm_wp d 117 14 ls st h Q ↔ mm_wp d 117 15 ls (.int (0 : Int32) :: st) h Q := wp_iconst rfl rfl
theorem s117_15 : mm_wp d 117 15 ls st h Q ↔ mm_wp d 117 17 ls (.int (100000 : Int32) :: st) h Q := wp_ldcI rfl rfl
theorem s117_17 : mm_wp (d + 1) 117 17 ls [.int x3, .int x2, .int x, t0] h Q ↔ mm_wp d 112 0 [.int x, .int x2, .int x3] [] h (mm_bk (d + 1) 117 17 ls [t0] Q) := wp_static rfl rfl ⟨by decide, rfl⟩ ⟨Nat.le_of_ble_eq_true rfl, Nat.le_of_ble_eq_true rfl⟩ rfl rfl rfl rfl
theorem s117_20 : mm_wp d 117 20 ls (.int x :: st) h Q ↔ if x = 0 then mm_wp d 117 27 ls st h Q else mm_wp d 117 23 ls st h Q := wp_ifeq rfl rfl
theorem s117_23 : mm_wp d 117 23 ls st h Q ↔ mm_wp d 117 24 ls (.int (0 : Int32) :: st) h Q := wp_iconst rfl rfl
theorem s117_24 : mm_wp d 117 24 ls st h Q ↔ mm_wp d 117 28 ls st h Q := wp_goto rfl rfl
theorem s117_27 : mm_wp d 117 27 ls st h Q ↔ mm_wp d 117 28 ls (.int (2 : Int32) :: st) h Q := wp_iconst rfl rfl
theorem s117_28 : mm_wp d 117 28 ls (.int x :: .ref a :: st) h Q ↔ (mm_s h a).1 = 10 ∧ mm_wp d 117 31 ls st (mm_pi h a 0 x) Q := wp_putI rfl rfl
theorem s117_31 : mm_wp d 117 31 [.ref a, l1, l2, l3] st h Q ↔ mm_wp d 117 32 [.ref a, l1, l2, l3] (.ref a :: st) h Q := wp_aloadR_n rfl rfl
theorem s117_32 : mm_wp d 117 32 ls (.ref a :: st) h Q ↔ (mm_s h a).1 = 10 ∧ mm_wp d 117 35 ls (.int (mm_i h a 0) :: st) h Q := wp_getI rfl rfl (by decide) (by decide)
theorem s117_35 : mm_wp d 117 35 ls (.int x :: st) h Q ↔ if x ≤ 0 then mm_wp d 117 40 ls st h Q else mm_wp d 117 38 ls st h Q := wp_ifle rfl rfl
theorem s117_38 : mm_wp d 117 38 ls st h Q ↔ mm_wp d 117 39 ls (.int (0 : Int32) :: st) h Q := wp_iconst rfl rfl
theorem s117_39 : mm_wp d 117 39 ls (.int x :: st) h Q ↔ Q (.inl (some (.int x))) h := wp_iret rfl rfl
theorem s117_40 : mm_wp d 117 40 [.ref a, l1, l2, l3] st h Q ↔ mm_wp d 117 41 [.ref a, l1, l2, l3] (.ref a :: st) h Q := wp_aloadR_n rfl rfl
theorem s117_41 : mm_wp d 117 41 ls (.ref a :: st) h Q ↔ (mm_s h a).1 = 10 ∧ mm_wp d 117 44 ls (mm_o (mm_r h a 7) :: st) h Q := wp_getR rfl rfl
theorem s117_44 : mm_wp d 117 44 [l0, .int x, l2, l3] st h Q ↔ mm_wp d 117 45 [l0, .int x, l2, l3] (.int x :: st) h Q := wp_iload_n rfl rfl
theorem s117_45 : mm_wp d 117 45 ls (.int x :: .ref a :: st) h Q ↔ ((mm_s h a).1 = 20 ∧ mm_in x (mm_s h a).2 = true) ∧ mm_wp d 117 46 ls (.int (mm_i h a x.toNatClampNeg) :: st) h Q := wp_iaload rfl
theorem s117_46 : mm_wp d 117 46 [l0, l1, l2, l3] (.int x :: st) h Q ↔ mm_wp d 117 47 [l0, l1, l2, .int x] st h Q := wp_istore_n rfl rfl
theorem s117_47 : mm_wp d 117 47 [.ref a, l1, l2, l3] st h Q ↔ mm_wp d 117 48 [.ref a, l1, l2, l3] (.ref a :: st) h Q := wp_aloadR_n rfl rfl
theorem s117_48 : mm_wp d 117 48 ls (.ref a :: st) h Q ↔ (mm_s h a).1 = 10 ∧ mm_wp d 117 51 ls (mm_o (mm_r h a 7) :: st) h Q := wp_getR rfl rfl
theorem s117_51 : mm_wp d 117 51 [l0, .int x, l2, l3] st h Q ↔ mm_wp d 117 52 [l0, .int x, l2, l3] (.int x :: st) h Q := wp_iload_n rfl rfl
theorem s117_52 : mm_wp d 117 52 [l0, l1, .int x, l3] st h Q ↔ mm_wp d 117 53 [l0, l1, .int x, l3] (.int x :: st) h Q := wp_iload_n rfl rfl
theorem s117_53 : mm_wp d 117 53 ls (.int x2 :: .int x :: .ref a :: st) h Q ↔ ((mm_s h a).1 = 20 ∧ ¬ a = 0 ∧ mm_in x (mm_s h a).2 = true) ∧ mm_wp d 117 54 ls st (mm_pi h a x.toNatClampNeg x2) Q := wp_iastore rfl
theorem s117_54 : mm_wp d 117 54 [.ref a, l1, l2, l3] st h Q ↔ mm_wp d 117 55 [.ref a, l1, l2, l3] (.ref a :: st) h Q := wp_aloadR_n rfl rfl
theorem s117_55 : mm_wp (d + 1) 117 55 ls [.ref a] h Q ↔ (mm_s h a).1 = 10 ∧ mm_wp d 113 0 [.ref a] [] h (mm_bk (d + 1) 117 55 ls [] Q) := wp_virtual rfl rfl ⟨by decide, rfl⟩ ⟨Nat.le_of_ble_eq_true rfl, Nat.le_of_ble_eq_true rfl⟩ rfl rfl rfl rfl rfl rfl
theorem s117_58 : mm_wp d 117 58 [l0, l1, l2, .int x] st h Q ↔ mm_wp d 117 59 [l0, l1, l2, .int x] (.int x :: st) h Q := wp_iload_n rfl rfl
theorem s117_59 : mm_wp d 117 59 ls (.int x :: st) h Q ↔ Q (.inl (some (.int x))) h := wp_iret rfl rfl
/-! 118: LoadRoomModel.fits(I)I -/
theorem s118_0 : mm_wp d 118 0 [.ref a, l1] st h Q ↔ mm_wp d 118 1 [.ref a, l1] (.ref a :: st) h Q := wp_aloadR_n rfl rfl
theorem s118_1 : mm_wp d 118 1 [.ref a, l1] st h Q ↔ mm_wp d 118 2 [.ref a, l1] (.ref a :: st) h Q := wp_aloadR_n rfl rfl
theorem s118_2 : mm_wp d 118 2 [l0, .int x] st h Q ↔ mm_wp d 118 3 [l0, .int x] (.int x :: st) h Q := wp_iload_n rfl rfl
theorem s118_3 : mm_wp (d + 1) 118 3 ls [.int x2, .ref a, t0] h Q ↔ (mm_s h a).1 = 10 ∧ mm_wp d 115 0 [.ref a, .int x2] [] h (mm_bk (d + 1) 118 3 ls [t0] Q) := wp_virtual rfl rfl ⟨by decide, rfl⟩ ⟨Nat.le_of_ble_eq_true rfl, Nat.le_of_ble_eq_true rfl⟩ rfl rfl rfl rfl rfl rfl
theorem s118_6 : mm_wp d 118 6 ls (.int x :: st) h Q ↔ if x = 0 then mm_wp d 118 13 ls st h Q else mm_wp d 118 9 ls st h Q := wp_ifeq rfl rfl
theorem s118_9 : mm_wp d 118 9 ls st h Q ↔ mm_wp d 118 10 ls (.int (0 : Int32) :: st) h Q := wp_iconst rfl rfl
theorem s118_10 : mm_wp d 118 10 ls st h Q ↔ mm_wp d 118 14 ls st h Q := wp_goto rfl rfl
theorem s118_13 : mm_wp d 118 13 ls st h Q ↔ mm_wp d 118 14 ls (.int (1 : Int32) :: st) h Q := wp_iconst rfl rfl
theorem s118_14 : mm_wp d 118 14 ls (.int x :: .ref a :: st) h Q ↔ (mm_s h a).1 = 10 ∧ mm_wp d 118 17 ls st (mm_pi h a 0 x) Q := wp_putI rfl rfl
theorem s118_17 : mm_wp d 118 17 [.ref a, l1] st h Q ↔ mm_wp d 118 18 [.ref a, l1] (.ref a :: st) h Q := wp_aloadR_n rfl rfl
theorem s118_18 : mm_wp d 118 18 ls (.ref a :: st) h Q ↔ (mm_s h a).1 = 10 ∧ mm_wp d 118 21 ls (.int (mm_i h a 0) :: st) h Q := wp_getI rfl rfl (by decide) (by decide)
theorem s118_21 : mm_wp d 118 21 ls (.int x :: st) h Q ↔ if x ≤ 0 then mm_wp d 118 28 ls st h Q else mm_wp d 118 24 ls st h Q := wp_ifle rfl rfl
theorem s118_24 : mm_wp d 118 24 ls st h Q ↔ mm_wp d 118 25 ls (.int (0 : Int32) :: st) h Q := wp_iconst rfl rfl
theorem s118_25 : mm_wp d 118 25 ls st h Q ↔ mm_wp d 118 33 ls st h Q := wp_goto rfl rfl
theorem s118_28 : mm_wp d 118 28 [.ref a, l1] st h Q ↔ mm_wp d 118 29 [.ref a, l1] (.ref a :: st) h Q := wp_aloadR_n rfl rfl
theorem s118_29 : mm_wp d 118 29 [l0, .int x] st h Q ↔ mm_wp d 118 30 [l0, .int x] (.int x :: st) h Q := wp_iload_n rfl rfl
theorem s118_30 : mm_wp (d + 1) 118 30 ls [.int x2, .ref a] h Q ↔ (mm_s h a).1 = 10 ∧ mm_wp d 119 0 [.ref a, .int x2, mm_j, mm_j] [] h (mm_bk (d + 1) 118 30 ls [] Q) := wp_virtual rfl rfl ⟨by decide, rfl⟩ ⟨Nat.le_of_ble_eq_true rfl, Nat.le_of_ble_eq_true rfl⟩ rfl rfl rfl rfl rfl rfl
theorem s118_33 : mm_wp d 118 33 ls (.int x :: st) h Q ↔ Q (.inl (some (.int x))) h := wp_iret rfl rfl
/-! 119: LoadRoomModel.fitting(I)I -/
theorem s119_0 : mm_wp d 119 0 ls st h Q ↔ mm_wp d 119 1 ls (.int (0 : Int32) :: st) h Q := wp_iconst rfl rfl
theorem s119_1 : mm_wp d 119 1 [l0, l1, l2, l3] (.int x :: st) h Q ↔ mm_wp d 119 2 [l0, l1, .int x, l3] st h Q := wp_istore_n rfl rfl
theorem s119_2 : mm_wp d 119 2 ls st h Q ↔ mm_wp d 119 3 ls (.int (0 : Int32) :: st) h Q := wp_iconst rfl rfl
theorem s119_3 : mm_wp d 119 3 [l0, l1, l2, l3] (.int x :: st) h Q ↔ mm_wp d 119 4 [l0, l1, l2, .int x] st h Q := wp_istore_n rfl rfl
theorem s119_4 : mm_wp d 119 4 [l0, l1, l2, .int x] st h Q ↔ mm_wp d 119 5 [l0, l1, l2, .int x] (.int x :: st) h Q := wp_iload_n rfl rfl
theorem s119_5 : mm_wp d 119 5 ls st h Q ↔ mm_wp d 119 7 ls (.int (6 : Int32) :: st) h Q := wp_bipush rfl rfl
theorem s119_7 : mm_wp d 119 7 ls (.int x2 :: .int x :: st) h Q ↔ if x2 ≤ x then mm_wp d 119 33 ls st h Q else mm_wp d 119 10 ls st h Q := wp_icmpge rfl rfl
theorem s119_10 : mm_wp d 119 10 [l0, l1, .int x, l3] st h Q ↔ mm_wp d 119 11 [l0, l1, .int x, l3] (.int x :: st) h Q := wp_iload_n rfl rfl
theorem s119_11 : mm_wp d 119 11 [.ref a, l1, l2, l3] st h Q ↔ mm_wp d 119 12 [.ref a, l1, l2, l3] (.ref a :: st) h Q := wp_aloadR_n rfl rfl
theorem s119_12 : mm_wp d 119 12 [l0, .int x, l2, l3] st h Q ↔ mm_wp d 119 13 [l0, .int x, l2, l3] (.int x :: st) h Q := wp_iload_n rfl rfl
theorem s119_13 : mm_wp d 119 13 [l0, l1, l2, .int x] st h Q ↔ mm_wp d 119 14 [l0, l1, l2, .int x] (.int x :: st) h Q := wp_iload_n rfl rfl
theorem s119_14 : mm_wp (d + 1) 119 14 ls [.int x3, .int x2, .ref a, t0] h Q ↔ (mm_s h a).1 = 10 ∧ mm_wp d 120 0 [.ref a, .int x2, .int x3, mm_j, mm_j] [] h (mm_bk (d + 1) 119 14 ls [t0] Q) := wp_virtual rfl rfl ⟨by decide, rfl⟩ ⟨Nat.le_of_ble_eq_true rfl, Nat.le_of_ble_eq_true rfl⟩ rfl rfl rfl rfl rfl rfl
theorem s119_17 : mm_wp d 119 17 ls (.int x :: st) h Q ↔ if x = 0 then mm_wp d 119 24 ls st h Q else mm_wp d 119 20 ls st h Q := wp_ifeq rfl rfl
theorem s119_20 : mm_wp d 119 20 ls st h Q ↔ mm_wp d 119 21 ls (.int (1 : Int32) :: st) h Q := wp_iconst rfl rfl
theorem s119_21 : mm_wp d 119 21 ls st h Q ↔ mm_wp d 119 25 ls st h Q := wp_goto rfl rfl
theorem s119_24 : mm_wp d 119 24 ls st h Q ↔ mm_wp d 119 25 ls (.int (0 : Int32) :: st) h Q := wp_iconst rfl rfl
theorem s119_25 : mm_wp d 119 25 ls (.int x2 :: .int x :: st) h Q ↔ mm_wp d 119 26 ls (.int (x + x2) :: st) h Q := wp_iadd rfl
theorem s119_26 : mm_wp d 119 26 [l0, l1, l2, l3] (.int x :: st) h Q ↔ mm_wp d 119 27 [l0, l1, .int x, l3] st h Q := wp_istore_n rfl rfl
theorem s119_27 : mm_wp d 119 27 [l0, l1, l2, .int x] st h Q ↔ mm_wp d 119 30 [l0, l1, l2, .int (x + (1 : Int32))] st h Q := wp_iinc rfl rfl rfl rfl
theorem s119_30 : mm_wp d 119 30 ls st h Q ↔ mm_wp d 119 4 ls st h Q := wp_goto rfl rfl
theorem s119_33 : mm_wp d 119 33 [l0, l1, .int x, l3] st h Q ↔ mm_wp d 119 34 [l0, l1, .int x, l3] (.int x :: st) h Q := wp_iload_n rfl rfl
theorem s119_34 : mm_wp d 119 34 ls (.int x :: st) h Q ↔ Q (.inl (some (.int x))) h := wp_iret rfl rfl
/-! 120: LoadRoomModel.turnFits(II)Z -/
theorem s120_0 : mm_wp d 120 0 [.ref a, l1, l2, l3, l4] st h Q ↔ mm_wp d 120 1 [.ref a, l1, l2, l3, l4] (.ref a :: st) h Q := wp_aloadR_n rfl rfl
theorem s120_1 : mm_wp d 120 1 [l0, .int x, l2, l3, l4] st h Q ↔ mm_wp d 120 2 [l0, .int x, l2, l3, l4] (.int x :: st) h Q := wp_iload_n rfl rfl
theorem s120_2 : mm_wp d 120 2 [l0, l1, .int x, l3, l4] st h Q ↔ mm_wp d 120 3 [l0, l1, .int x, l3, l4] (.int x :: st) h Q := wp_iload_n rfl rfl
theorem s120_3 : mm_wp (d + 1) 120 3 ls [.int x3, .int x2, .ref a] h Q ↔ (mm_s h a).1 = 10 ∧ mm_wp d 121 0 [.ref a, .int x2, .int x3] [] h (mm_bk (d + 1) 120 3 ls [] Q) := wp_virtual rfl rfl ⟨by decide, rfl⟩ ⟨Nat.le_of_ble_eq_true rfl, Nat.le_of_ble_eq_true rfl⟩ rfl rfl rfl rfl rfl rfl
theorem s120_6 : mm_wp d 120 6 [l0, l1, l2, l3, l4] (.int x :: st) h Q ↔ mm_wp d 120 7 [l0, l1, l2, .int x, l4] st h Q := wp_istore_n rfl rfl
theorem s120_7 : mm_wp d 120 7 ls st h Q ↔ mm_wp d 120 8 ls (.int (0 : Int32) :: st) h Q := wp_iconst rfl rfl
theorem s120_8 : mm_wp d 120 8 [l0, l1, l2, l3, l4] (.int x :: st) h Q ↔ mm_wp d 120 10 [l0, l1, l2, l3, .int x] st h Q := wp_istore rfl rfl
theorem s120_10 : mm_wp d 120 10 [l0, l1, l2, l3, .int x] st h Q ↔ mm_wp d 120 12 [l0, l1, l2, l3, .int x] (.int x :: st) h Q := wp_iload rfl rfl
theorem s120_12 : mm_wp d 120 12 [l0, l1, .int x, l3, l4] st h Q ↔ mm_wp d 120 13 [l0, l1, .int x, l3, l4] (.int x :: st) h Q := wp_iload_n rfl rfl
theorem s120_13 : mm_wp d 120 13 ls (.int x2 :: .int x :: st) h Q ↔ if x2 ≤ x then mm_wp d 120 53 ls st h Q else mm_wp d 120 16 ls st h Q := wp_icmpge rfl rfl
theorem s120_16 : mm_wp d 120 16 [l0, l1, l2, .int x, l4] st h Q ↔ mm_wp d 120 17 [l0, l1, l2, .int x, l4] (.int x :: st) h Q := wp_iload_n rfl rfl
theorem s120_17 : mm_wp d 120 17 ls (.int x :: st) h Q ↔ if x = 0 then mm_wp d 120 45 ls st h Q else mm_wp d 120 20 ls st h Q := wp_ifeq rfl rfl
theorem s120_20 : mm_wp d 120 20 [.ref a, l1, l2, l3, l4] st h Q ↔ mm_wp d 120 21 [.ref a, l1, l2, l3, l4] (.ref a :: st) h Q := wp_aloadR_n rfl rfl
theorem s120_21 : mm_wp d 120 21 [l0, .int x, l2, l3, l4] st h Q ↔ mm_wp d 120 22 [l0, .int x, l2, l3, l4] (.int x :: st) h Q := wp_iload_n rfl rfl
theorem s120_22 : mm_wp d 120 22 [l0, l1, l2, l3, .int x] st h Q ↔ mm_wp d 120 24 [l0, l1, l2, l3, .int x] (.int x :: st) h Q := wp_iload rfl rfl
theorem s120_24 : mm_wp (d + 1) 120 24 ls [.int x3, .int x2, .ref a] h Q ↔ (mm_s h a).1 = 10 ∧ mm_wp d 121 0 [.ref a, .int x2, .int x3] [] h (mm_bk (d + 1) 120 24 ls [] Q) := wp_virtual rfl rfl ⟨by decide, rfl⟩ ⟨Nat.le_of_ble_eq_true rfl, Nat.le_of_ble_eq_true rfl⟩ rfl rfl rfl rfl rfl rfl
theorem s120_27 : mm_wp d 120 27 ls (.int x :: st) h Q ↔ if x = 0 then mm_wp d 120 41 ls st h Q else mm_wp d 120 30 ls st h Q := wp_ifeq rfl rfl
theorem s120_30 : mm_wp d 120 30 [.ref a, l1, l2, l3, l4] st h Q ↔ mm_wp d 120 31 [.ref a, l1, l2, l3, l4] (.ref a :: st) h Q := wp_aloadR_n rfl rfl
theorem s120_31 : mm_wp d 120 31 [l0, .int x, l2, l3, l4] st h Q ↔ mm_wp d 120 32 [l0, .int x, l2, l3, l4] (.int x :: st) h Q := wp_iload_n rfl rfl
theorem s120_32 : mm_wp d 120 32 [l0, l1, .int x, l3, l4] st h Q ↔ mm_wp d 120 33 [l0, l1, .int x, l3, l4] (.int x :: st) h Q := wp_iload_n rfl rfl
theorem s120_33 : mm_wp d 120 33 [l0, l1, l2, l3, .int x] st h Q ↔ mm_wp d 120 35 [l0, l1, l2, l3, .int x] (.int x :: st) h Q := wp_iload rfl rfl
theorem s120_35 : mm_wp (d + 1) 120 35 ls [.int x4, .int x3, .int x2, .ref a] h Q ↔ (mm_s h a).1 = 10 ∧ mm_wp d 122 0 [.ref a, .int x2, .int x3, .int x4, mm_j, mm_j] [] h (mm_bk (d + 1) 120 35 ls [] Q) := wp_virtual rfl rfl ⟨by decide, rfl⟩ ⟨Nat.le_of_ble_eq_true rfl, Nat.le_of_ble_eq_true rfl⟩ rfl rfl rfl rfl rfl rfl
theorem s120_38 : mm_wp d 120 38 ls (.int x :: st) h Q ↔ if x = 0 then mm_wp d 120 41 ls st h Q else mm_wp d 120 45 ls st h Q := wp_ifne rfl rfl
theorem s120_41 : mm_wp d 120 41 ls st h Q ↔ mm_wp d 120 42 ls (.int (1 : Int32) :: st) h Q := wp_iconst rfl rfl
theorem s120_42 : mm_wp d 120 42 ls st h Q ↔ mm_wp d 120 46 ls st h Q := wp_goto rfl rfl
theorem s120_45 : mm_wp d 120 45 ls st h Q ↔ mm_wp d 120 46 ls (.int (0 : Int32) :: st) h Q := wp_iconst rfl rfl
theorem s120_46 : mm_wp d 120 46 [l0, l1, l2, l3, l4] (.int x :: st) h Q ↔ mm_wp d 120 47 [l0, l1, l2, .int x, l4] st h Q := wp_istore_n rfl rfl
theorem s120_47 : mm_wp d 120 47 [l0, l1, l2, l3, .int x] st h Q ↔ mm_wp d 120 50 [l0, l1, l2, l3, .int (x + (1 : Int32))] st h Q := wp_iinc rfl rfl rfl rfl
theorem s120_50 : mm_wp d 120 50 ls st h Q ↔ mm_wp d 120 10 ls st h Q := wp_goto rfl rfl
theorem s120_53 : mm_wp d 120 53 ls st h Q ↔ mm_wp d 120 54 ls (.int (0 : Int32) :: st) h Q := wp_iconst rfl rfl
theorem s120_54 : mm_wp d 120 54 [l0, l1, l2, l3, l4] (.int x :: st) h Q ↔ mm_wp d 120 56 [l0, l1, l2, l3, .int x] st h Q := wp_istore rfl rfl
theorem s120_56 : mm_wp d 120 56 [l0, l1, l2, l3, .int x] st h Q ↔ mm_wp d 120 58 [l0, l1, l2, l3, .int x] (.int x :: st) h Q := wp_iload rfl rfl
theorem s120_58 : mm_wp d 120 58 ls st h Q ↔ mm_wp d 120 59 ls (.int (3 : Int32) :: st) h Q := wp_iconst rfl rfl
theorem s120_59 : mm_wp d 120 59 ls (.int x2 :: .int x :: st) h Q ↔ if x2 ≤ x then mm_wp d 120 117 ls st h Q else mm_wp d 120 62 ls st h Q := wp_icmpge rfl rfl
theorem s120_62 : mm_wp d 120 62 [.ref a, l1, l2, l3, l4] st h Q ↔ mm_wp d 120 63 [.ref a, l1, l2, l3, l4] (.ref a :: st) h Q := wp_aloadR_n rfl rfl
theorem s120_63 : mm_wp d 120 63 ls (.ref a :: st) h Q ↔ (mm_s h a).1 = 10 ∧ mm_wp d 120 66 ls (mm_o (mm_r h a 33) :: st) h Q := wp_getR rfl rfl
theorem s120_66 : mm_wp d 120 66 [l0, l1, l2, l3, .int x] st h Q ↔ mm_wp d 120 68 [l0, l1, l2, l3, .int x] (.int x :: st) h Q := wp_iload rfl rfl
theorem s120_68 : mm_wp d 120 68 [.ref a, l1, l2, l3, l4] st h Q ↔ mm_wp d 120 69 [.ref a, l1, l2, l3, l4] (.ref a :: st) h Q := wp_aloadR_n rfl rfl
theorem s120_69 : mm_wp d 120 69 ls (.ref a :: st) h Q ↔ (mm_s h a).1 = 10 ∧ mm_wp d 120 72 ls (mm_o (mm_r h a 3) :: st) h Q := wp_getR rfl rfl
theorem s120_72 : mm_wp d 120 72 ls st h Q ↔ mm_wp d 120 73 ls (.int (3 : Int32) :: st) h Q := wp_iconst rfl rfl
theorem s120_73 : mm_wp d 120 73 [l0, .int x, l2, l3, l4] st h Q ↔ mm_wp d 120 74 [l0, .int x, l2, l3, l4] (.int x :: st) h Q := wp_iload_n rfl rfl
theorem s120_74 : mm_wp d 120 74 ls (.int x2 :: .int x :: st) h Q ↔ mm_wp d 120 75 ls (.int (x * x2) :: st) h Q := wp_imul rfl
theorem s120_75 : mm_wp d 120 75 [l0, l1, .int x, l3, l4] st h Q ↔ mm_wp d 120 76 [l0, l1, .int x, l3, l4] (.int x :: st) h Q := wp_iload_n rfl rfl
theorem s120_76 : mm_wp d 120 76 [l0, l1, l2, l3, .int x] st h Q ↔ mm_wp d 120 78 [l0, l1, l2, l3, .int x] (.int x :: st) h Q := wp_iload rfl rfl
theorem s120_78 : mm_wp (d + 1) 120 78 ls [.int x2, .int x, t3, t2, t1, t0] h Q ↔ mm_wp d 123 0 [.int x, .int x2] [] h (mm_bk (d + 1) 120 78 ls [t3, t2, t1, t0] Q) := wp_static rfl rfl ⟨by decide, rfl⟩ ⟨Nat.le_of_ble_eq_true rfl, Nat.le_of_ble_eq_true rfl⟩ rfl rfl rfl rfl
theorem s120_81 : mm_wp d 120 81 ls (.int x2 :: .int x :: st) h Q ↔ mm_wp d 120 82 ls (.int (x + x2) :: st) h Q := wp_iadd rfl
theorem s120_82 : mm_wp d 120 82 ls (.int x :: .ref a :: st) h Q ↔ ((mm_s h a).1 = 20 ∧ mm_in x (mm_s h a).2 = true) ∧ mm_wp d 120 83 ls (.int (mm_i h a x.toNatClampNeg) :: st) h Q := wp_iaload rfl
theorem s120_83 : mm_wp d 120 83 ls (.int x2 :: .int x :: .ref a :: st) h Q ↔ ((mm_s h a).1 = 20 ∧ ¬ a = 0 ∧ mm_in x (mm_s h a).2 = true) ∧ mm_wp d 120 84 ls st (mm_pi h a x.toNatClampNeg x2) Q := wp_iastore rfl
theorem s120_84 : mm_wp d 120 84 [l0, l1, l2, .int x, l4] st h Q ↔ mm_wp d 120 85 [l0, l1, l2, .int x, l4] (.int x :: st) h Q := wp_iload_n rfl rfl
theorem s120_85 : mm_wp d 120 85 ls (.int x :: st) h Q ↔ if x = 0 then mm_wp d 120 109 ls st h Q else mm_wp d 120 88 ls st h Q := wp_ifeq rfl rfl
theorem s120_88 : mm_wp d 120 88 [.ref a, l1, l2, l3, l4] st h Q ↔ mm_wp d 120 89 [.ref a, l1, l2, l3, l4] (.ref a :: st) h Q := wp_aloadR_n rfl rfl
theorem s120_89 : mm_wp d 120 89 ls (.ref a :: st) h Q ↔ (mm_s h a).1 = 10 ∧ mm_wp d 120 92 ls (mm_o (mm_r h a 33) :: st) h Q := wp_getR rfl rfl
theorem s120_92 : mm_wp d 120 92 [l0, l1, l2, l3, .int x] st h Q ↔ mm_wp d 120 94 [l0, l1, l2, l3, .int x] (.int x :: st) h Q := wp_iload rfl rfl
theorem s120_94 : mm_wp d 120 94 ls (.int x :: .ref a :: st) h Q ↔ ((mm_s h a).1 = 20 ∧ mm_in x (mm_s h a).2 = true) ∧ mm_wp d 120 95 ls (.int (mm_i h a x.toNatClampNeg) :: st) h Q := wp_iaload rfl
theorem s120_95 : mm_wp d 120 95 [.ref a, l1, l2, l3, l4] st h Q ↔ mm_wp d 120 96 [.ref a, l1, l2, l3, l4] (.ref a :: st) h Q := wp_aloadR_n rfl rfl
theorem s120_96 : mm_wp d 120 96 ls (.ref a :: st) h Q ↔ (mm_s h a).1 = 10 ∧ mm_wp d 120 99 ls (mm_o (mm_r h a 1) :: st) h Q := wp_getR rfl rfl
theorem s120_99 : mm_wp d 120 99 [l0, l1, l2, l3, .int x] st h Q ↔ mm_wp d 120 101 [l0, l1, l2, l3, .int x] (.int x :: st) h Q := wp_iload rfl rfl
theorem s120_101 : mm_wp d 120 101 ls (.int x :: .ref a :: st) h Q ↔ ((mm_s h a).1 = 20 ∧ mm_in x (mm_s h a).2 = true) ∧ mm_wp d 120 102 ls (.int (mm_i h a x.toNatClampNeg) :: st) h Q := wp_iaload rfl
theorem s120_102 : mm_wp d 120 102 ls (.int x2 :: .int x :: st) h Q ↔ if x2 < x then mm_wp d 120 109 ls st h Q else mm_wp d 120 105 ls st h Q := wp_icmpgt rfl rfl
theorem s120_105 : mm_wp d 120 105 ls st h Q ↔ mm_wp d 120 106 ls (.int (1 : Int32) :: st) h Q := wp_iconst rfl rfl
theorem s120_106 : mm_wp d 120 106 ls st h Q ↔ mm_wp d 120 110 ls st h Q := wp_goto rfl rfl
theorem s120_109 : mm_wp d 120 109 ls st h Q ↔ mm_wp d 120 110 ls (.int (0 : Int32) :: st) h Q := wp_iconst rfl rfl
theorem s120_110 : mm_wp d 120 110 [l0, l1, l2, l3, l4] (.int x :: st) h Q ↔ mm_wp d 120 111 [l0, l1, l2, .int x, l4] st h Q := wp_istore_n rfl rfl
theorem s120_111 : mm_wp d 120 111 [l0, l1, l2, l3, .int x] st h Q ↔ mm_wp d 120 114 [l0, l1, l2, l3, .int (x + (1 : Int32))] st h Q := wp_iinc rfl rfl rfl rfl
theorem s120_114 : mm_wp d 120 114 ls st h Q ↔ mm_wp d 120 56 ls st h Q := wp_goto rfl rfl
theorem s120_117 : mm_wp d 120 117 [l0, l1, l2, .int x, l4] st h Q ↔ mm_wp d 120 118 [l0, l1, l2, .int x, l4] (.int x :: st) h Q := wp_iload_n rfl rfl
theorem s120_118 : mm_wp d 120 118 ls (.int x :: st) h Q ↔ (x = 0 ∨ x = 1) ∧ Q (.inl (some (.int x))) h := wp_zret rfl rfl
/-! 121: LoadRoomModel.isAllowed(II)Z -/
theorem s121_0 : mm_wp d 121 0 [l0, l1, .int x] st h Q ↔ mm_wp d 121 1 [l0, l1, .int x] (.int x :: st) h Q := wp_iload_n rfl rfl
theorem s121_1 : mm_wp d 121 1 ls (.int x :: st) h Q ↔ if x = 0 then mm_wp d 121 34 ls st h Q else mm_wp d 121 4 ls st h Q := wp_ifeq rfl rfl
theorem s121_4 : mm_wp d 121 4 [l0, l1, .int x] st h Q ↔ mm_wp d 121 5 [l0, l1, .int x] (.int x :: st) h Q := wp_iload_n rfl rfl
theorem s121_5 : mm_wp d 121 5 ls st h Q ↔ mm_wp d 121 6 ls (.int (1 : Int32) :: st) h Q := wp_iconst rfl rfl
theorem s121_6 : mm_wp d 121 6 ls (.int x2 :: .int x :: st) h Q ↔ if x = x2 then mm_wp d 121 9 ls st h Q else mm_wp d 121 24 ls st h Q := wp_icmpne rfl rfl
theorem s121_9 : mm_wp d 121 9 [.ref a, l1, l2] st h Q ↔ mm_wp d 121 10 [.ref a, l1, l2] (.ref a :: st) h Q := wp_aloadR_n rfl rfl
theorem s121_10 : mm_wp d 121 10 ls (.ref a :: st) h Q ↔ (mm_s h a).1 = 10 ∧ mm_wp d 121 13 ls (mm_o (mm_r h a 5) :: st) h Q := wp_getR rfl rfl
theorem s121_13 : mm_wp d 121 13 [l0, .int x, l2] st h Q ↔ mm_wp d 121 14 [l0, .int x, l2] (.int x :: st) h Q := wp_iload_n rfl rfl
theorem s121_14 : mm_wp d 121 14 ls (.int x :: .ref a :: st) h Q ↔ ((mm_s h a).1 = 20 ∧ mm_in x (mm_s h a).2 = true) ∧ mm_wp d 121 15 ls (.int (mm_i h a x.toNatClampNeg) :: st) h Q := wp_iaload rfl
theorem s121_15 : mm_wp d 121 15 ls st h Q ↔ mm_wp d 121 16 ls (.int (1 : Int32) :: st) h Q := wp_iconst rfl rfl
theorem s121_16 : mm_wp d 121 16 ls (.int x2 :: .int x :: st) h Q ↔ mm_wp d 121 17 ls (.int (x &&& x2) :: st) h Q := wp_iand rfl
theorem s121_17 : mm_wp d 121 17 ls st h Q ↔ mm_wp d 121 18 ls (.int (1 : Int32) :: st) h Q := wp_iconst rfl rfl
theorem s121_18 : mm_wp d 121 18 ls (.int x2 :: .int x :: st) h Q ↔ if x = x2 then mm_wp d 121 21 ls st h Q else mm_wp d 121 38 ls st h Q := wp_icmpne rfl rfl
theorem s121_21 : mm_wp d 121 21 ls st h Q ↔ mm_wp d 121 34 ls st h Q := wp_goto rfl rfl
theorem s121_24 : mm_wp d 121 24 [.ref a, l1, l2] st h Q ↔ mm_wp d 121 25 [.ref a, l1, l2] (.ref a :: st) h Q := wp_aloadR_n rfl rfl
theorem s121_25 : mm_wp d 121 25 ls (.ref a :: st) h Q ↔ (mm_s h a).1 = 10 ∧ mm_wp d 121 28 ls (mm_o (mm_r h a 5) :: st) h Q := wp_getR rfl rfl
theorem s121_28 : mm_wp d 121 28 [l0, .int x, l2] st h Q ↔ mm_wp d 121 29 [l0, .int x, l2] (.int x :: st) h Q := wp_iload_n rfl rfl
theorem s121_29 : mm_wp d 121 29 ls (.int x :: .ref a :: st) h Q ↔ ((mm_s h a).1 = 20 ∧ mm_in x (mm_s h a).2 = true) ∧ mm_wp d 121 30 ls (.int (mm_i h a x.toNatClampNeg) :: st) h Q := wp_iaload rfl
theorem s121_30 : mm_wp d 121 30 ls st h Q ↔ mm_wp d 121 31 ls (.int (1 : Int32) :: st) h Q := wp_iconst rfl rfl
theorem s121_31 : mm_wp d 121 31 ls (.int x2 :: .int x :: st) h Q ↔ if x ≤ x2 then mm_wp d 121 38 ls st h Q else mm_wp d 121 34 ls st h Q := wp_icmple rfl rfl
theorem s121_34 : mm_wp d 121 34 ls st h Q ↔ mm_wp d 121 35 ls (.int (1 : Int32) :: st) h Q := wp_iconst rfl rfl
theorem s121_35 : mm_wp d 121 35 ls st h Q ↔ mm_wp d 121 39 ls st h Q := wp_goto rfl rfl
theorem s121_38 : mm_wp d 121 38 ls st h Q ↔ mm_wp d 121 39 ls (.int (0 : Int32) :: st) h Q := wp_iconst rfl rfl
theorem s121_39 : mm_wp d 121 39 ls (.int x :: st) h Q ↔ (x = 0 ∨ x = 1) ∧ Q (.inl (some (.int x))) h := wp_zret rfl rfl
/-! 122: LoadRoomModel.isLike(III)Z -/
theorem s122_0 : mm_wp d 122 0 ls st h Q ↔ mm_wp d 122 1 ls (.int (1 : Int32) :: st) h Q := wp_iconst rfl rfl
theorem s122_1 : mm_wp d 122 1 [l0, l1, l2, l3, l4, l5] (.int x :: st) h Q ↔ mm_wp d 122 3 [l0, l1, l2, l3, .int x, l5] st h Q := wp_istore rfl rfl
theorem s122_3 : mm_wp d 122 3 ls st h Q ↔ mm_wp d 122 4 ls (.int (0 : Int32) :: st) h Q := wp_iconst rfl rfl
theorem s122_4 : mm_wp d 122 4 [l0, l1, l2, l3, l4, l5] (.int x :: st) h Q ↔ mm_wp d 122 6 [l0, l1, l2, l3, l4, .int x] st h Q := wp_istore rfl rfl
theorem s122_6 : mm_wp d 122 6 [l0, l1, l2, l3, l4, .int x] st h Q ↔ mm_wp d 122 8 [l0, l1, l2, l3, l4, .int x] (.int x :: st) h Q := wp_iload rfl rfl
theorem s122_8 : mm_wp d 122 8 ls st h Q ↔ mm_wp d 122 9 ls (.int (3 : Int32) :: st) h Q := wp_iconst rfl rfl
theorem s122_9 : mm_wp d 122 9 ls (.int x2 :: .int x :: st) h Q ↔ if x2 ≤ x then mm_wp d 122 63 ls st h Q else mm_wp d 122 12 ls st h Q := wp_icmpge rfl rfl
theorem s122_12 : mm_wp d 122 12 [l0, l1, l2, l3, .int x, l5] st h Q ↔ mm_wp d 122 14 [l0, l1, l2, l3, .int x, l5] (.int x :: st) h Q := wp_iload rfl rfl
theorem s122_14 : mm_wp d 122 14 ls (.int x :: st) h Q ↔ if x = 0 then mm_wp d 122 54 ls st h Q else mm_wp d 122 17 ls st h Q := wp_ifeq rfl rfl
theorem s122_17 : mm_wp d 122 17 [.ref a, l1, l2, l3, l4, l5] st h Q ↔ mm_wp d 122 18 [.ref a, l1, l2, l3, l4, l5] (.ref a :: st) h Q := wp_aloadR_n rfl rfl
theorem s122_18 : mm_wp d 122 18 ls (.ref a :: st) h Q ↔ (mm_s h a).1 = 10 ∧ mm_wp d 122 21 ls (mm_o (mm_r h a 3) :: st) h Q := wp_getR rfl rfl
theorem s122_21 : mm_wp d 122 21 ls st h Q ↔ mm_wp d 122 22 ls (.int (3 : Int32) :: st) h Q := wp_iconst rfl rfl
theorem s122_22 : mm_wp d 122 22 [l0, .int x, l2, l3, l4, l5] st h Q ↔ mm_wp d 122 23 [l0, .int x, l2, l3, l4, l5] (.int x :: st) h Q := wp_iload_n rfl rfl
theorem s122_23 : mm_wp d 122 23 ls (.int x2 :: .int x :: st) h Q ↔ mm_wp d 122 24 ls (.int (x * x2) :: st) h Q := wp_imul rfl
theorem s122_24 : mm_wp d 122 24 [l0, l1, .int x, l3, l4, l5] st h Q ↔ mm_wp d 122 25 [l0, l1, .int x, l3, l4, l5] (.int x :: st) h Q := wp_iload_n rfl rfl
theorem s122_25 : mm_wp d 122 25 [l0, l1, l2, l3, l4, .int x] st h Q ↔ mm_wp d 122 27 [l0, l1, l2, l3, l4, .int x] (.int x :: st) h Q := wp_iload rfl rfl
theorem s122_27 : mm_wp (d + 1) 122 27 ls [.int x2, .int x, t1, t0] h Q ↔ mm_wp d 123 0 [.int x, .int x2] [] h (mm_bk (d + 1) 122 27 ls [t1, t0] Q) := wp_static rfl rfl ⟨by decide, rfl⟩ ⟨Nat.le_of_ble_eq_true rfl, Nat.le_of_ble_eq_true rfl⟩ rfl rfl rfl rfl
theorem s122_30 : mm_wp d 122 30 ls (.int x2 :: .int x :: st) h Q ↔ mm_wp d 122 31 ls (.int (x + x2) :: st) h Q := wp_iadd rfl
theorem s122_31 : mm_wp d 122 31 ls (.int x :: .ref a :: st) h Q ↔ ((mm_s h a).1 = 20 ∧ mm_in x (mm_s h a).2 = true) ∧ mm_wp d 122 32 ls (.int (mm_i h a x.toNatClampNeg) :: st) h Q := wp_iaload rfl
theorem s122_32 : mm_wp d 122 32 [.ref a, l1, l2, l3, l4, l5] st h Q ↔ mm_wp d 122 33 [.ref a, l1, l2, l3, l4, l5] (.ref a :: st) h Q := wp_aloadR_n rfl rfl
theorem s122_33 : mm_wp d 122 33 ls (.ref a :: st) h Q ↔ (mm_s h a).1 = 10 ∧ mm_wp d 122 36 ls (mm_o (mm_r h a 3) :: st) h Q := wp_getR rfl rfl
theorem s122_36 : mm_wp d 122 36 ls st h Q ↔ mm_wp d 122 37 ls (.int (3 : Int32) :: st) h Q := wp_iconst rfl rfl
theorem s122_37 : mm_wp d 122 37 [l0, .int x, l2, l3, l4, l5] st h Q ↔ mm_wp d 122 38 [l0, .int x, l2, l3, l4, l5] (.int x :: st) h Q := wp_iload_n rfl rfl
theorem s122_38 : mm_wp d 122 38 ls (.int x2 :: .int x :: st) h Q ↔ mm_wp d 122 39 ls (.int (x * x2) :: st) h Q := wp_imul rfl
theorem s122_39 : mm_wp d 122 39 [l0, l1, l2, .int x, l4, l5] st h Q ↔ mm_wp d 122 40 [l0, l1, l2, .int x, l4, l5] (.int x :: st) h Q := wp_iload_n rfl rfl
theorem s122_40 : mm_wp d 122 40 [l0, l1, l2, l3, l4, .int x] st h Q ↔ mm_wp d 122 42 [l0, l1, l2, l3, l4, .int x] (.int x :: st) h Q := wp_iload rfl rfl
theorem s122_42 : mm_wp (d + 1) 122 42 ls [.int x2, .int x, t2, t1, t0] h Q ↔ mm_wp d 123 0 [.int x, .int x2] [] h (mm_bk (d + 1) 122 42 ls [t2, t1, t0] Q) := wp_static rfl rfl ⟨by decide, rfl⟩ ⟨Nat.le_of_ble_eq_true rfl, Nat.le_of_ble_eq_true rfl⟩ rfl rfl rfl rfl
theorem s122_45 : mm_wp d 122 45 ls (.int x2 :: .int x :: st) h Q ↔ mm_wp d 122 46 ls (.int (x + x2) :: st) h Q := wp_iadd rfl
theorem s122_46 : mm_wp d 122 46 ls (.int x :: .ref a :: st) h Q ↔ ((mm_s h a).1 = 20 ∧ mm_in x (mm_s h a).2 = true) ∧ mm_wp d 122 47 ls (.int (mm_i h a x.toNatClampNeg) :: st) h Q := wp_iaload rfl
theorem s122_47 : mm_wp d 122 47 ls (.int x2 :: .int x :: st) h Q ↔ if x = x2 then mm_wp d 122 50 ls st h Q else mm_wp d 122 54 ls st h Q := wp_icmpne rfl rfl
theorem s122_50 : mm_wp d 122 50 ls st h Q ↔ mm_wp d 122 51 ls (.int (1 : Int32) :: st) h Q := wp_iconst rfl rfl
theorem s122_51 : mm_wp d 122 51 ls st h Q ↔ mm_wp d 122 55 ls st h Q := wp_goto rfl rfl
theorem s122_54 : mm_wp d 122 54 ls st h Q ↔ mm_wp d 122 55 ls (.int (0 : Int32) :: st) h Q := wp_iconst rfl rfl
theorem s122_55 : mm_wp d 122 55 [l0, l1, l2, l3, l4, l5] (.int x :: st) h Q ↔ mm_wp d 122 57 [l0, l1, l2, l3, .int x, l5] st h Q := wp_istore rfl rfl
theorem s122_57 : mm_wp d 122 57 [l0, l1, l2, l3, l4, .int x] st h Q ↔ mm_wp d 122 60 [l0, l1, l2, l3, l4, .int (x + (1 : Int32))] st h Q := wp_iinc rfl rfl rfl rfl
theorem s122_60 : mm_wp d 122 60 ls st h Q ↔ mm_wp d 122 6 ls st h Q := wp_goto rfl rfl
theorem s122_63 : mm_wp d 122 63 [l0, l1, l2, l3, .int x, l5] st h Q ↔ mm_wp d 122 65 [l0, l1, l2, l3, .int x, l5] (.int x :: st) h Q := wp_iload rfl rfl
theorem s122_65 : mm_wp d 122 65 ls (.int x :: st) h Q ↔ (x = 0 ∨ x = 1) ∧ Q (.inl (some (.int x))) h := wp_zret rfl rfl
/-! 123: LoadRoomModel.axisOf(II)I -/
theorem s123_0 : mm_wp d 123 0 [.int x, l1] st h Q ↔ mm_wp d 123 1 [.int x, l1] (.int x :: st) h Q := wp_iload_n rfl rfl
theorem s123_1d (hx : x.toInt < 0 ∨ 4 < x.toInt) : mm_wp d 123 1 ls (.int x :: st) h Q ↔ mm_wp d 123 79 ls st h Q := wp_tabOut rfl hx rfl
theorem s123_1_0 : mm_wp d 123 1 ls (.int (0 : Int32) :: st) h Q ↔ mm_wp d 123 36 ls st h Q := wp_tabIn rfl (by decide) rfl
theorem s123_1_1 : mm_wp d 123 1 ls (.int (1 : Int32) :: st) h Q ↔ mm_wp d 123 38 ls st h Q := wp_tabIn rfl (by decide) rfl
theorem s123_1_2 : mm_wp d 123 1 ls (.int (2 : Int32) :: st) h Q ↔ mm_wp d 123 42 ls st h Q := wp_tabIn rfl (by decide) rfl
theorem s123_1_3 : mm_wp d 123 1 ls (.int (3 : Int32) :: st) h Q ↔ mm_wp d 123 55 ls st h Q := wp_tabIn rfl (by decide) rfl
theorem s123_1_4 : mm_wp d 123 1 ls (.int (4 : Int32) :: st) h Q ↔ mm_wp d 123 67 ls st h Q := wp_tabIn rfl (by decide) rfl
theorem s123_36 : mm_wp d 123 36 [l0, .int x] st h Q ↔ mm_wp d 123 37 [l0, .int x] (.int x :: st) h Q := wp_iload_n rfl rfl
theorem s123_37 : mm_wp d 123 37 ls (.int x :: st) h Q ↔ Q (.inl (some (.int x))) h := wp_iret rfl rfl
theorem s123_38 : mm_wp d 123 38 ls st h Q ↔ mm_wp d 123 39 ls (.int (2 : Int32) :: st) h Q := wp_iconst rfl rfl
theorem s123_39 : mm_wp d 123 39 [l0, .int x] st h Q ↔ mm_wp d 123 40 [l0, .int x] (.int x :: st) h Q := wp_iload_n rfl rfl
theorem s123_40 : mm_wp d 123 40 ls (.int x2 :: .int x :: st) h Q ↔ mm_wp d 123 41 ls (.int (x - x2) :: st) h Q := wp_isub rfl
theorem s123_41 : mm_wp d 123 41 ls (.int x :: st) h Q ↔ Q (.inl (some (.int x))) h := wp_iret rfl rfl
theorem s123_42 : mm_wp d 123 42 [l0, .int x] st h Q ↔ mm_wp d 123 43 [l0, .int x] (.int x :: st) h Q := wp_iload_n rfl rfl
theorem s123_43 : mm_wp d 123 43 ls st h Q ↔ mm_wp d 123 44 ls (.int (2 : Int32) :: st) h Q := wp_iconst rfl rfl
theorem s123_44 : mm_wp d 123 44 ls (.int x2 :: .int x :: st) h Q ↔ if x = x2 then mm_wp d 123 47 ls st h Q else mm_wp d 123 51 ls st h Q := wp_icmpne rfl rfl
theorem s123_47 : mm_wp d 123 47 ls st h Q ↔ mm_wp d 123 48 ls (.int (2 : Int32) :: st) h Q := wp_iconst rfl rfl
theorem s123_48 : mm_wp d 123 48 ls st h Q ↔ mm_wp d 123 54 ls st h Q := wp_goto rfl rfl
theorem s123_51 : mm_wp d 123 51 ls st h Q ↔ mm_wp d 123 52 ls (.int (1 : Int32) :: st) h Q := wp_iconst rfl rfl
theorem s123_52 : mm_wp d 123 52 [l0, .int x] st h Q ↔ mm_wp d 123 53 [l0, .int x] (.int x :: st) h Q := wp_iload_n rfl rfl
theorem s123_53 : mm_wp d 123 53 ls (.int x2 :: .int x :: st) h Q ↔ mm_wp d 123 54 ls (.int (x - x2) :: st) h Q := wp_isub rfl
theorem s123_54 : mm_wp d 123 54 ls (.int x :: st) h Q ↔ Q (.inl (some (.int x))) h := wp_iret rfl rfl
theorem s123_55 : mm_wp d 123 55 [l0, .int x] st h Q ↔ mm_wp d 123 56 [l0, .int x] (.int x :: st) h Q := wp_iload_n rfl rfl
theorem s123_56 : mm_wp d 123 56 ls (.int x :: st) h Q ↔ if x = 0 then mm_wp d 123 59 ls st h Q else mm_wp d 123 63 ls st h Q := wp_ifne rfl rfl
theorem s123_59 : mm_wp d 123 59 ls st h Q ↔ mm_wp d 123 60 ls (.int (2 : Int32) :: st) h Q := wp_iconst rfl rfl
theorem s123_60 : mm_wp d 123 60 ls st h Q ↔ mm_wp d 123 66 ls st h Q := wp_goto rfl rfl
theorem s123_63 : mm_wp d 123 63 [l0, .int x] st h Q ↔ mm_wp d 123 64 [l0, .int x] (.int x :: st) h Q := wp_iload_n rfl rfl
theorem s123_64 : mm_wp d 123 64 ls st h Q ↔ mm_wp d 123 65 ls (.int (1 : Int32) :: st) h Q := wp_iconst rfl rfl
theorem s123_65 : mm_wp d 123 65 ls (.int x2 :: .int x :: st) h Q ↔ mm_wp d 123 66 ls (.int (x - x2) :: st) h Q := wp_isub rfl
theorem s123_66 : mm_wp d 123 66 ls (.int x :: st) h Q ↔ Q (.inl (some (.int x))) h := wp_iret rfl rfl
theorem s123_67 : mm_wp d 123 67 [l0, .int x] st h Q ↔ mm_wp d 123 68 [l0, .int x] (.int x :: st) h Q := wp_iload_n rfl rfl
theorem s123_68 : mm_wp d 123 68 ls (.int x :: st) h Q ↔ if x = 0 then mm_wp d 123 71 ls st h Q else mm_wp d 123 75 ls st h Q := wp_ifne rfl rfl
theorem s123_71 : mm_wp d 123 71 ls st h Q ↔ mm_wp d 123 72 ls (.int (0 : Int32) :: st) h Q := wp_iconst rfl rfl
theorem s123_72 : mm_wp d 123 72 ls st h Q ↔ mm_wp d 123 78 ls st h Q := wp_goto rfl rfl
theorem s123_75 : mm_wp d 123 75 ls st h Q ↔ mm_wp d 123 76 ls (.int (3 : Int32) :: st) h Q := wp_iconst rfl rfl
theorem s123_76 : mm_wp d 123 76 [l0, .int x] st h Q ↔ mm_wp d 123 77 [l0, .int x] (.int x :: st) h Q := wp_iload_n rfl rfl
theorem s123_77 : mm_wp d 123 77 ls (.int x2 :: .int x :: st) h Q ↔ mm_wp d 123 78 ls (.int (x - x2) :: st) h Q := wp_isub rfl
theorem s123_78 : mm_wp d 123 78 ls (.int x :: st) h Q ↔ Q (.inl (some (.int x))) h := wp_iret rfl rfl
theorem s123_79 : mm_wp d 123 79 [l0, .int x] st h Q ↔ mm_wp d 123 80 [l0, .int x] (.int x :: st) h Q := wp_iload_n rfl rfl
theorem s123_80 : mm_wp d 123 80 ls st h Q ↔ mm_wp d 123 81 ls (.int (2 : Int32) :: st) h Q := wp_iconst rfl rfl
theorem s123_81 : mm_wp d 123 81 ls (.int x2 :: .int x :: st) h Q ↔ if x = x2 then mm_wp d 123 84 ls st h Q else mm_wp d 123 88 ls st h Q := wp_icmpne rfl rfl
theorem s123_84 : mm_wp d 123 84 ls st h Q ↔ mm_wp d 123 85 ls (.int (0 : Int32) :: st) h Q := wp_iconst rfl rfl
theorem s123_85 : mm_wp d 123 85 ls st h Q ↔ mm_wp d 123 91 ls st h Q := wp_goto rfl rfl
theorem s123_88 : mm_wp d 123 88 [l0, .int x] st h Q ↔ mm_wp d 123 89 [l0, .int x] (.int x :: st) h Q := wp_iload_n rfl rfl
theorem s123_89 : mm_wp d 123 89 ls st h Q ↔ mm_wp d 123 90 ls (.int (1 : Int32) :: st) h Q := wp_iconst rfl rfl
theorem s123_90 : mm_wp d 123 90 ls (.int x2 :: .int x :: st) h Q ↔ mm_wp d 123 91 ls (.int (x + x2) :: st) h Q := wp_iadd rfl
theorem s123_91 : mm_wp d 123 91 ls (.int x :: st) h Q ↔ Q (.inl (some (.int x))) h := wp_iret rfl rfl
/-! 124: LoadRoomModel.bound()I -/
theorem s124_0 : mm_wp d 124 0 [.ref a, l1, l2] st h Q ↔ mm_wp d 124 1 [.ref a, l1, l2] (.ref a :: st) h Q := wp_aloadR_n rfl rfl
theorem s124_1 : mm_wp d 124 1 ls st h Q ↔ mm_wp d 124 2 ls (.int (0 : Int32) :: st) h Q := wp_iconst rfl rfl
theorem s124_2 : mm_wp d 124 2 ls (.int x :: .ref a :: st) h Q ↔ (mm_s h a).1 = 10 ∧ mm_wp d 124 5 ls st (mm_pi h a 0 x) Q := wp_putI rfl rfl
theorem s124_5 : mm_wp d 124 5 ls st h Q ↔ mm_wp d 124 6 ls (.int (0 : Int32) :: st) h Q := wp_iconst rfl rfl
theorem s124_6 : mm_wp d 124 6 [l0, l1, l2] (.int x :: st) h Q ↔ mm_wp d 124 7 [l0, .int x, l2] st h Q := wp_istore_n rfl rfl
theorem s124_7 : mm_wp d 124 7 ls st h Q ↔ mm_wp d 124 8 ls (.int (0 : Int32) :: st) h Q := wp_iconst rfl rfl
theorem s124_8 : mm_wp d 124 8 [l0, l1, l2] (.int x :: st) h Q ↔ mm_wp d 124 9 [l0, l1, .int x] st h Q := wp_istore_n rfl rfl
theorem s124_9 : mm_wp d 124 9 [l0, l1, .int x] st h Q ↔ mm_wp d 124 10 [l0, l1, .int x] (.int x :: st) h Q := wp_iload_n rfl rfl
theorem s124_10 : mm_wp d 124 10 [.ref a, l1, l2] st h Q ↔ mm_wp d 124 11 [.ref a, l1, l2] (.ref a :: st) h Q := wp_aloadR_n rfl rfl
theorem s124_11 : mm_wp d 124 11 ls (.ref a :: st) h Q ↔ (mm_s h a).1 = 10 ∧ mm_wp d 124 14 ls (.int (mm_i h a 2) :: st) h Q := wp_getI rfl rfl (by decide) (by decide)
theorem s124_14 : mm_wp d 124 14 ls (.int x2 :: .int x :: st) h Q ↔ if x2 ≤ x then mm_wp d 124 43 ls st h Q else mm_wp d 124 17 ls st h Q := wp_icmpge rfl rfl
theorem s124_17 : mm_wp d 124 17 [l0, .int x, l2] st h Q ↔ mm_wp d 124 18 [l0, .int x, l2] (.int x :: st) h Q := wp_iload_n rfl rfl
theorem s124_18 : mm_wp d 124 18 [.ref a, l1, l2] st h Q ↔ mm_wp d 124 19 [.ref a, l1, l2] (.ref a :: st) h Q := wp_aloadR_n rfl rfl
theorem s124_19 : mm_wp d 124 19 [l0, l1, .int x] st h Q ↔ mm_wp d 124 20 [l0, l1, .int x] (.int x :: st) h Q := wp_iload_n rfl rfl
theorem s124_20 : mm_wp (d + 1) 124 20 ls [.int x2, .ref a, t0] h Q ↔ (mm_s h a).1 = 10 ∧ mm_wp d 119 0 [.ref a, .int x2, mm_j, mm_j] [] h (mm_bk (d + 1) 124 20 ls [t0] Q) := wp_virtual rfl rfl ⟨by decide, rfl⟩ ⟨Nat.le_of_ble_eq_true rfl, Nat.le_of_ble_eq_true rfl⟩ rfl rfl rfl rfl rfl rfl
theorem s124_23 : mm_wp d 124 23 ls (.int x :: st) h Q ↔ if x ≤ 0 then mm_wp d 124 34 ls st h Q else mm_wp d 124 26 ls st h Q := wp_ifle rfl rfl
theorem s124_26 : mm_wp d 124 26 [.ref a, l1, l2] st h Q ↔ mm_wp d 124 27 [.ref a, l1, l2] (.ref a :: st) h Q := wp_aloadR_n rfl rfl
theorem s124_27 : mm_wp d 124 27 [l0, l1, .int x] st h Q ↔ mm_wp d 124 28 [l0, l1, .int x] (.int x :: st) h Q := wp_iload_n rfl rfl
theorem s124_28 : mm_wp (d + 1) 124 28 ls [.int x2, .ref a, t0] h Q ↔ (mm_s h a).1 = 10 ∧ mm_wp d 125 0 [.ref a, .int x2] [] h (mm_bk (d + 1) 124 28 ls [t0] Q) := wp_virtual rfl rfl ⟨by decide, rfl⟩ ⟨Nat.le_of_ble_eq_true rfl, Nat.le_of_ble_eq_true rfl⟩ rfl rfl rfl rfl rfl rfl
theorem s124_31 : mm_wp d 124 31 ls st h Q ↔ mm_wp d 124 35 ls st h Q := wp_goto rfl rfl
theorem s124_34 : mm_wp d 124 34 ls st h Q ↔ mm_wp d 124 35 ls (.int (0 : Int32) :: st) h Q := wp_iconst rfl rfl
theorem s124_35 : mm_wp d 124 35 ls (.int x2 :: .int x :: st) h Q ↔ mm_wp d 124 36 ls (.int (x + x2) :: st) h Q := wp_iadd rfl
theorem s124_36 : mm_wp d 124 36 [l0, l1, l2] (.int x :: st) h Q ↔ mm_wp d 124 37 [l0, .int x, l2] st h Q := wp_istore_n rfl rfl
theorem s124_37 : mm_wp d 124 37 [l0, l1, .int x] st h Q ↔ mm_wp d 124 40 [l0, l1, .int (x + (1 : Int32))] st h Q := wp_iinc rfl rfl rfl rfl
theorem s124_40 : mm_wp d 124 40 ls st h Q ↔ mm_wp d 124 9 ls st h Q := wp_goto rfl rfl
theorem s124_43 : mm_wp d 124 43 [.ref a, l1, l2] st h Q ↔ mm_wp d 124 44 [.ref a, l1, l2] (.ref a :: st) h Q := wp_aloadR_n rfl rfl
theorem s124_44 : mm_wp d 124 44 ls (.ref a :: st) h Q ↔ (mm_s h a).1 = 10 ∧ mm_wp d 124 47 ls (mm_o (mm_r h a 1) :: st) h Q := wp_getR rfl rfl
theorem s124_47 : mm_wp d 124 47 ls st h Q ↔ mm_wp d 124 48 ls (.int (0 : Int32) :: st) h Q := wp_iconst rfl rfl
theorem s124_48 : mm_wp d 124 48 ls (.int x :: .ref a :: st) h Q ↔ ((mm_s h a).1 = 20 ∧ mm_in x (mm_s h a).2 = true) ∧ mm_wp d 124 49 ls (.int (mm_i h a x.toNatClampNeg) :: st) h Q := wp_iaload rfl
theorem s124_49 : mm_wp d 124 49 [.ref a, l1, l2] st h Q ↔ mm_wp d 124 50 [.ref a, l1, l2] (.ref a :: st) h Q := wp_aloadR_n rfl rfl
theorem s124_50 : mm_wp d 124 50 ls (.ref a :: st) h Q ↔ (mm_s h a).1 = 10 ∧ mm_wp d 124 53 ls (mm_o (mm_r h a 1) :: st) h Q := wp_getR rfl rfl
theorem s124_53 : mm_wp d 124 53 ls st h Q ↔ mm_wp d 124 54 ls (.int (1 : Int32) :: st) h Q := wp_iconst rfl rfl
theorem s124_54 : mm_wp d 124 54 ls (.int x :: .ref a :: st) h Q ↔ ((mm_s h a).1 = 20 ∧ mm_in x (mm_s h a).2 = true) ∧ mm_wp d 124 55 ls (.int (mm_i h a x.toNatClampNeg) :: st) h Q := wp_iaload rfl
theorem s124_55 : mm_wp d 124 55 ls (.int x2 :: .int x :: st) h Q ↔ mm_wp d 124 56 ls (.int (x * x2) :: st) h Q := wp_imul rfl
theorem s124_56 : mm_wp d 124 56 [.ref a, l1, l2] st h Q ↔ mm_wp d 124 57 [.ref a, l1, l2] (.ref a :: st) h Q := wp_aloadR_n rfl rfl
theorem s124_57 : mm_wp d 124 57 ls (.ref a :: st) h Q ↔ (mm_s h a).1 = 10 ∧ mm_wp d 124 60 ls (mm_o (mm_r h a 1) :: st) h Q := wp_getR rfl rfl
theorem s124_60 : mm_wp d 124 60 ls st h Q ↔ mm_wp d 124 61 ls (.int (2 : Int32) :: st) h Q := wp_iconst rfl rfl
theorem s124_61 : mm_wp d 124 61 ls (.int x :: .ref a :: st) h Q ↔ ((mm_s h a).1 = 20 ∧ mm_in x (mm_s h a).2 = true) ∧ mm_wp d 124 62 ls (.int (mm_i h a x.toNatClampNeg) :: st) h Q := wp_iaload rfl
theorem s124_62 : mm_wp d 124 62 ls (.int x2 :: .int x :: st) h Q ↔ mm_wp d 124 63 ls (.int (x * x2) :: st) h Q := wp_imul rfl
theorem s124_63 : mm_wp d 124 63 [l0, l1, l2] (.int x :: st) h Q ↔ mm_wp d 124 64 [l0, l1, .int x] st h Q := wp_istore_n rfl rfl
theorem s124_64 : mm_wp d 124 64 [l0, .int x, l2] st h Q ↔ mm_wp d 124 65 [l0, .int x, l2] (.int x :: st) h Q := wp_iload_n rfl rfl
theorem s124_65 : mm_wp d 124 65 [l0, l1, .int x] st h Q ↔ mm_wp d 124 66 [l0, l1, .int x] (.int x :: st) h Q := wp_iload_n rfl rfl
theorem s124_66 : mm_wp d 124 66 ls (.int x2 :: .int x :: st) h Q ↔ if x2 ≤ x then mm_wp d 124 73 ls st h Q else mm_wp d 124 69 ls st h Q := wp_icmpge rfl rfl
theorem s124_69 : mm_wp d 124 69 [l0, .int x, l2] st h Q ↔ mm_wp d 124 70 [l0, .int x, l2] (.int x :: st) h Q := wp_iload_n rfl rfl
theorem s124_70 : mm_wp d 124 70 ls st h Q ↔ mm_wp d 124 74 ls st h Q := wp_goto rfl rfl
theorem s124_73 : mm_wp d 124 73 [l0, l1, .int x] st h Q ↔ mm_wp d 124 74 [l0, l1, .int x] (.int x :: st) h Q := wp_iload_n rfl rfl
theorem s124_74 : mm_wp d 124 74 ls (.int x :: st) h Q ↔ Q (.inl (some (.int x))) h := wp_iret rfl rfl
/-! 125: LoadRoomModel.volume(I)I -/
theorem s125_0 : mm_wp d 125 0 [.ref a, l1] st h Q ↔ mm_wp d 125 1 [.ref a, l1] (.ref a :: st) h Q := wp_aloadR_n rfl rfl
theorem s125_1 : mm_wp d 125 1 ls (.ref a :: st) h Q ↔ (mm_s h a).1 = 10 ∧ mm_wp d 125 4 ls (mm_o (mm_r h a 3) :: st) h Q := wp_getR rfl rfl
theorem s125_4 : mm_wp d 125 4 ls st h Q ↔ mm_wp d 125 5 ls (.int (3 : Int32) :: st) h Q := wp_iconst rfl rfl
theorem s125_5 : mm_wp d 125 5 [l0, .int x] st h Q ↔ mm_wp d 125 6 [l0, .int x] (.int x :: st) h Q := wp_iload_n rfl rfl
theorem s125_6 : mm_wp d 125 6 ls (.int x2 :: .int x :: st) h Q ↔ mm_wp d 125 7 ls (.int (x * x2) :: st) h Q := wp_imul rfl
theorem s125_7 : mm_wp d 125 7 ls (.int x :: .ref a :: st) h Q ↔ ((mm_s h a).1 = 20 ∧ mm_in x (mm_s h a).2 = true) ∧ mm_wp d 125 8 ls (.int (mm_i h a x.toNatClampNeg) :: st) h Q := wp_iaload rfl
theorem s125_8 : mm_wp d 125 8 [.ref a, l1] st h Q ↔ mm_wp d 125 9 [.ref a, l1] (.ref a :: st) h Q := wp_aloadR_n rfl rfl
theorem s125_9 : mm_wp d 125 9 ls (.ref a :: st) h Q ↔ (mm_s h a).1 = 10 ∧ mm_wp d 125 12 ls (mm_o (mm_r h a 3) :: st) h Q := wp_getR rfl rfl
theorem s125_12 : mm_wp d 125 12 ls st h Q ↔ mm_wp d 125 13 ls (.int (3 : Int32) :: st) h Q := wp_iconst rfl rfl
theorem s125_13 : mm_wp d 125 13 [l0, .int x] st h Q ↔ mm_wp d 125 14 [l0, .int x] (.int x :: st) h Q := wp_iload_n rfl rfl
theorem s125_14 : mm_wp d 125 14 ls (.int x2 :: .int x :: st) h Q ↔ mm_wp d 125 15 ls (.int (x * x2) :: st) h Q := wp_imul rfl
theorem s125_15 : mm_wp d 125 15 ls st h Q ↔ mm_wp d 125 16 ls (.int (1 : Int32) :: st) h Q := wp_iconst rfl rfl
theorem s125_16 : mm_wp d 125 16 ls (.int x2 :: .int x :: st) h Q ↔ mm_wp d 125 17 ls (.int (x + x2) :: st) h Q := wp_iadd rfl
theorem s125_17 : mm_wp d 125 17 ls (.int x :: .ref a :: st) h Q ↔ ((mm_s h a).1 = 20 ∧ mm_in x (mm_s h a).2 = true) ∧ mm_wp d 125 18 ls (.int (mm_i h a x.toNatClampNeg) :: st) h Q := wp_iaload rfl
theorem s125_18 : mm_wp d 125 18 ls (.int x2 :: .int x :: st) h Q ↔ mm_wp d 125 19 ls (.int (x * x2) :: st) h Q := wp_imul rfl
theorem s125_19 : mm_wp d 125 19 [.ref a, l1] st h Q ↔ mm_wp d 125 20 [.ref a, l1] (.ref a :: st) h Q := wp_aloadR_n rfl rfl
theorem s125_20 : mm_wp d 125 20 ls (.ref a :: st) h Q ↔ (mm_s h a).1 = 10 ∧ mm_wp d 125 23 ls (mm_o (mm_r h a 3) :: st) h Q := wp_getR rfl rfl
theorem s125_23 : mm_wp d 125 23 ls st h Q ↔ mm_wp d 125 24 ls (.int (3 : Int32) :: st) h Q := wp_iconst rfl rfl
theorem s125_24 : mm_wp d 125 24 [l0, .int x] st h Q ↔ mm_wp d 125 25 [l0, .int x] (.int x :: st) h Q := wp_iload_n rfl rfl
theorem s125_25 : mm_wp d 125 25 ls (.int x2 :: .int x :: st) h Q ↔ mm_wp d 125 26 ls (.int (x * x2) :: st) h Q := wp_imul rfl
theorem s125_26 : mm_wp d 125 26 ls st h Q ↔ mm_wp d 125 27 ls (.int (2 : Int32) :: st) h Q := wp_iconst rfl rfl
theorem s125_27 : mm_wp d 125 27 ls (.int x2 :: .int x :: st) h Q ↔ mm_wp d 125 28 ls (.int (x + x2) :: st) h Q := wp_iadd rfl
theorem s125_28 : mm_wp d 125 28 ls (.int x :: .ref a :: st) h Q ↔ ((mm_s h a).1 = 20 ∧ mm_in x (mm_s h a).2 = true) ∧ mm_wp d 125 29 ls (.int (mm_i h a x.toNatClampNeg) :: st) h Q := wp_iaload rfl
theorem s125_29 : mm_wp d 125 29 ls (.int x2 :: .int x :: st) h Q ↔ mm_wp d 125 30 ls (.int (x * x2) :: st) h Q := wp_imul rfl
theorem s125_30 : mm_wp d 125 30 ls (.int x :: st) h Q ↔ Q (.inl (some (.int x))) h := wp_iret rfl rfl
/-! 126: LoadRoomModel.pack(I)I -/
theorem s126_0 : mm_wp d 126 0 [.ref a, l1, l2, l3] st h Q ↔ mm_wp d 126 1 [.ref a, l1, l2, l3] (.ref a :: st) h Q := wp_aloadR_n rfl rfl
theorem s126_1 : mm_wp d 126 1 [l0, .int x, l2, l3] st h Q ↔ mm_wp d 126 2 [l0, .int x, l2, l3] (.int x :: st) h Q := wp_iload_n rfl rfl
theorem s126_2 : mm_wp d 126 2 ls st h Q ↔ mm_wp d 126 3 ls (.int (1 : Int32) :: st) h Q := wp_iconst rfl rfl
theorem s126_3 : mm_wp d 126 3 ls st h Q ↔ mm_wp d 126 6 ls (.int (1000 : Int32) :: st) h Q := wp_sipush rfl rfl
theorem s126_6 : mm_wp (d + 1) 126 6 ls [.int x3, .int x2, .int x, t0] h Q ↔ mm_wp d 112 0 [.int x, .int x2, .int x3] [] h (mm_bk (d + 1) 126 6 ls [t0] Q) := wp_static rfl rfl ⟨by decide, rfl⟩ ⟨Nat.le_of_ble_eq_true rfl, Nat.le_of_ble_eq_true rfl⟩ rfl rfl rfl rfl
theorem s126_9 : mm_wp d 126 9 ls (.int x :: st) h Q ↔ if x = 0 then mm_wp d 126 16 ls st h Q else mm_wp d 126 12 ls st h Q := wp_ifeq rfl rfl
theorem s126_12 : mm_wp d 126 12 ls st h Q ↔ mm_wp d 126 13 ls (.int (0 : Int32) :: st) h Q := wp_iconst rfl rfl
theorem s126_13 : mm_wp d 126 13 ls st h Q ↔ mm_wp d 126 17 ls st h Q := wp_goto rfl rfl
theorem s126_16 : mm_wp d 126 16 ls st h Q ↔ mm_wp d 126 17 ls (.int (1 : Int32) :: st) h Q := wp_iconst rfl rfl
theorem s126_17 : mm_wp d 126 17 ls (.int x :: .ref a :: st) h Q ↔ (mm_s h a).1 = 10 ∧ mm_wp d 126 20 ls st (mm_pi h a 0 x) Q := wp_putI rfl rfl
theorem s126_20 : mm_wp d 126 20 [.ref a, l1, l2, l3] st h Q ↔ mm_wp d 126 21 [.ref a, l1, l2, l3] (.ref a :: st) h Q := wp_aloadR_n rfl rfl
theorem s126_21 : mm_wp d 126 21 ls (.ref a :: st) h Q ↔ (mm_s h a).1 = 10 ∧ mm_wp d 126 24 ls (.int (mm_i h a 0) :: st) h Q := wp_getI rfl rfl (by decide) (by decide)
theorem s126_24 : mm_wp d 126 24 ls (.int x :: st) h Q ↔ if x ≤ 0 then mm_wp d 126 29 ls st h Q else mm_wp d 126 27 ls st h Q := wp_ifle rfl rfl
theorem s126_27 : mm_wp d 126 27 ls st h Q ↔ mm_wp d 126 28 ls (.int (0 : Int32) :: st) h Q := wp_iconst rfl rfl
theorem s126_28 : mm_wp d 126 28 ls (.int x :: st) h Q ↔ Q (.inl (some (.int x))) h := wp_iret rfl rfl
theorem s126_29 : mm_wp d 126 29 [.ref a, l1, l2, l3] st h Q ↔ mm_wp d 126 30 [.ref a, l1, l2, l3] (.ref a :: st) h Q := wp_aloadR_n rfl rfl
theorem s126_30 : mm_wp (d + 1) 126 30 ls [.ref a] h Q ↔ (mm_s h a).1 = 10 ∧ mm_wp d 113 0 [.ref a] [] h (mm_bk (d + 1) 126 30 ls [] Q) := wp_virtual rfl rfl ⟨by decide, rfl⟩ ⟨Nat.le_of_ble_eq_true rfl, Nat.le_of_ble_eq_true rfl⟩ rfl rfl rfl rfl rfl rfl
theorem s126_33 : mm_wp d 126 33 [.ref a, l1, l2, l3] st h Q ↔ mm_wp d 126 34 [.ref a, l1, l2, l3] (.ref a :: st) h Q := wp_aloadR_n rfl rfl
theorem s126_34 : mm_wp d 126 34 ls st h Q ↔ mm_wp d 126 35 ls (.int (1 : Int32) :: st) h Q := wp_iconst rfl rfl
theorem s126_35 : mm_wp d 126 35 ls (.int x :: .ref a :: st) h Q ↔ (mm_s h a).1 = 10 ∧ (x = 0 ∨ x = 1) ∧ mm_wp d 126 38 ls st (mm_pi h a 20 x) Q := wp_putZ rfl rfl
theorem s126_38 : mm_wp d 126 38 [.ref a, l1, l2, l3] st h Q ↔ mm_wp d 126 39 [.ref a, l1, l2, l3] (.ref a :: st) h Q := wp_aloadR_n rfl rfl
theorem s126_39 : mm_wp d 126 39 ls st h Q ↔ mm_wp d 126 40 ls (.int (0 : Int32) :: st) h Q := wp_iconst rfl rfl
theorem s126_40 : mm_wp d 126 40 ls (.int x :: .ref a :: st) h Q ↔ (mm_s h a).1 = 10 ∧ (x = 0 ∨ x = 1) ∧ mm_wp d 126 43 ls st (mm_pi h a 21 x) Q := wp_putZ rfl rfl
theorem s126_43 : mm_wp d 126 43 [.ref a, l1, l2, l3] st h Q ↔ mm_wp d 126 44 [.ref a, l1, l2, l3] (.ref a :: st) h Q := wp_aloadR_n rfl rfl
theorem s126_44 : mm_wp d 126 44 ls st h Q ↔ mm_wp d 126 45 ls (.int (0 : Int32) :: st) h Q := wp_iconst rfl rfl
theorem s126_45 : mm_wp d 126 45 ls (.int x :: .ref a :: st) h Q ↔ (mm_s h a).1 = 10 ∧ mm_wp d 126 48 ls st (mm_pi h a 22 x) Q := wp_putI rfl rfl
theorem s126_48 : mm_wp d 126 48 [.ref a, l1, l2, l3] st h Q ↔ mm_wp d 126 49 [.ref a, l1, l2, l3] (.ref a :: st) h Q := wp_aloadR_n rfl rfl
theorem s126_49 : mm_wp d 126 49 ls st h Q ↔ mm_wp d 126 50 ls (.int (0 : Int32) :: st) h Q := wp_iconst rfl rfl
theorem s126_50 : mm_wp d 126 50 ls (.int x :: .ref a :: st) h Q ↔ (mm_s h a).1 = 10 ∧ mm_wp d 126 53 ls st (mm_pi h a 8 x) Q := wp_putI rfl rfl
theorem s126_53 : mm_wp d 126 53 ls st h Q ↔ mm_wp d 126 54 ls (.int (0 : Int32) :: st) h Q := wp_iconst rfl rfl
theorem s126_54 : mm_wp d 126 54 [l0, l1, l2, l3] (.int x :: st) h Q ↔ mm_wp d 126 55 [l0, l1, .int x, l3] st h Q := wp_istore_n rfl rfl
theorem s126_55 : mm_wp d 126 55 [l0, l1, .int x, l3] st h Q ↔ mm_wp d 126 56 [l0, l1, .int x, l3] (.int x :: st) h Q := wp_iload_n rfl rfl
theorem s126_56 : mm_wp d 126 56 ls st h Q ↔ mm_wp d 126 58 ls (.int (8 : Int32) :: st) h Q := wp_bipush rfl rfl
theorem s126_58 : mm_wp d 126 58 ls (.int x2 :: .int x :: st) h Q ↔ if x2 ≤ x then mm_wp d 126 74 ls st h Q else mm_wp d 126 61 ls st h Q := wp_icmpge rfl rfl
theorem s126_61 : mm_wp d 126 61 [.ref a, l1, l2, l3] st h Q ↔ mm_wp d 126 62 [.ref a, l1, l2, l3] (.ref a :: st) h Q := wp_aloadR_n rfl rfl
theorem s126_62 : mm_wp d 126 62 ls (.ref a :: st) h Q ↔ (mm_s h a).1 = 10 ∧ mm_wp d 126 65 ls (mm_o (mm_r h a 14) :: st) h Q := wp_getR rfl rfl
theorem s126_65 : mm_wp d 126 65 [l0, l1, .int x, l3] st h Q ↔ mm_wp d 126 66 [l0, l1, .int x, l3] (.int x :: st) h Q := wp_iload_n rfl rfl
theorem s126_66 : mm_wp d 126 66 ls st h Q ↔ mm_wp d 126 67 ls (.int (0 : Int32) :: st) h Q := wp_iconst rfl rfl
theorem s126_67 : mm_wp d 126 67 ls (.int x2 :: .int x :: .ref a :: st) h Q ↔ ((mm_s h a).1 = 22 ∧ (x2 = 0 ∨ x2 = 1) ∧ mm_in x (mm_s h a).2 = true) ∧ mm_wp d 126 68 ls st (mm_pi h a x.toNatClampNeg x2) Q := wp_bastore rfl
theorem s126_68 : mm_wp d 126 68 [l0, l1, .int x, l3] st h Q ↔ mm_wp d 126 71 [l0, l1, .int (x + (1 : Int32)), l3] st h Q := wp_iinc rfl rfl rfl rfl
theorem s126_71 : mm_wp d 126 71 ls st h Q ↔ mm_wp d 126 55 ls st h Q := wp_goto rfl rfl
theorem s126_74 : mm_wp d 126 74 [.ref a, l1, l2, l3] st h Q ↔ mm_wp d 126 75 [.ref a, l1, l2, l3] (.ref a :: st) h Q := wp_aloadR_n rfl rfl
theorem s126_75 : mm_wp (d + 1) 126 75 ls [.ref a] h Q ↔ (mm_s h a).1 = 10 ∧ mm_wp d 127 0 [.ref a, mm_j, mm_j, mm_j, mm_j, mm_j, mm_j, mm_j] [] h (mm_bk (d + 1) 126 75 ls [] Q) := wp_virtual rfl rfl ⟨by decide, rfl⟩ ⟨Nat.le_of_ble_eq_true rfl, Nat.le_of_ble_eq_true rfl⟩ rfl rfl rfl rfl rfl rfl
theorem s126_78 : mm_wp d 126 78 ls st h Q ↔ mm_wp d 126 79 ls (.int (1 : Int32) :: st) h Q := wp_iconst rfl rfl
theorem s126_79 : mm_wp d 126 79 [l0, l1, l2, l3] (.int x :: st) h Q ↔ mm_wp d 126 80 [l0, l1, .int x, l3] st h Q := wp_istore_n rfl rfl
theorem s126_80 : mm_wp d 126 80 [l0, l1, .int x, l3] st h Q ↔ mm_wp d 126 81 [l0, l1, .int x, l3] (.int x :: st) h Q := wp_iload_n rfl rfl
theorem s126_81 : mm_wp d 126 81 ls (.int x :: st) h Q ↔ if x = 0 then mm_wp d 126 198 ls st h Q else mm_wp d 126 84 ls st h Q := wp_ifeq rfl rfl
theorem s126_84 : mm_wp d 126 84 [.ref a, l1, l2, l3] st h Q ↔ mm_wp d 126 85 [.ref a, l1, l2, l3] (.ref a :: st) h Q := wp_aloadR_n rfl rfl
theorem s126_85 : mm_wp (d + 1) 126 85 ls [.ref a] h Q ↔ (mm_s h a).1 = 10 ∧ mm_wp d 128 0 [.ref a, mm_j, mm_j, mm_j, mm_j, mm_j, mm_j] [] h (mm_bk (d + 1) 126 85 ls [] Q) := wp_virtual rfl rfl ⟨by decide, rfl⟩ ⟨Nat.le_of_ble_eq_true rfl, Nat.le_of_ble_eq_true rfl⟩ rfl rfl rfl rfl rfl rfl
theorem s126_88 : mm_wp d 126 88 ls (.int x :: st) h Q ↔ if x = 0 then mm_wp d 126 179 ls st h Q else mm_wp d 126 91 ls st h Q := wp_ifeq rfl rfl
theorem s126_91 : mm_wp d 126 91 [.ref a, l1, l2, l3] st h Q ↔ mm_wp d 126 92 [.ref a, l1, l2, l3] (.ref a :: st) h Q := wp_aloadR_n rfl rfl
theorem s126_92 : mm_wp d 126 92 ls (.ref a :: st) h Q ↔ (mm_s h a).1 = 10 ∧ mm_wp d 126 95 ls (.int (mm_i h a 22) :: st) h Q := wp_getI rfl rfl (by decide) (by decide)
theorem s126_95 : mm_wp d 126 95 [l0, .int x, l2, l3] st h Q ↔ mm_wp d 126 96 [l0, .int x, l2, l3] (.int x :: st) h Q := wp_iload_n rfl rfl
theorem s126_96 : mm_wp d 126 96 ls (.int x2 :: .int x :: st) h Q ↔ if x = x2 then mm_wp d 126 99 ls st h Q else mm_wp d 126 109 ls st h Q := wp_icmpne rfl rfl
theorem s126_99 : mm_wp d 126 99 [.ref a, l1, l2, l3] st h Q ↔ mm_wp d 126 100 [.ref a, l1, l2, l3] (.ref a :: st) h Q := wp_aloadR_n rfl rfl
theorem s126_100 : mm_wp d 126 100 ls st h Q ↔ mm_wp d 126 101 ls (.int (1 : Int32) :: st) h Q := wp_iconst rfl rfl
theorem s126_101 : mm_wp d 126 101 ls (.int x :: .ref a :: st) h Q ↔ (mm_s h a).1 = 10 ∧ (x = 0 ∨ x = 1) ∧ mm_wp d 126 104 ls st (mm_pi h a 21 x) Q := wp_putZ rfl rfl
theorem s126_104 : mm_wp d 126 104 ls st h Q ↔ mm_wp d 126 105 ls (.int (0 : Int32) :: st) h Q := wp_iconst rfl rfl
theorem s126_105 : mm_wp d 126 105 [l0, l1, l2, l3] (.int x :: st) h Q ↔ mm_wp d 126 106 [l0, l1, .int x, l3] st h Q := wp_istore_n rfl rfl
theorem s126_106 : mm_wp d 126 106 ls st h Q ↔ mm_wp d 126 80 ls st h Q := wp_goto rfl rfl
theorem s126_109 : mm_wp d 126 109 [.ref a, l1, l2, l3] st h Q ↔ mm_wp d 126 110 [.ref a, l1, l2, l3] (.ref a :: st) h Q := wp_aloadR_n rfl rfl
theorem s126_110 : mm_wp d 126 110 ls (.ref a :: st) h Q ↔ mm_wp d 126 111 ls (.ref a :: .ref a :: st) h Q := wp_dupR rfl
theorem s126_111 : mm_wp d 126 111 ls (.ref a :: st) h Q ↔ (mm_s h a).1 = 10 ∧ mm_wp d 126 114 ls (.int (mm_i h a 22) :: st) h Q := wp_getI rfl rfl (by decide) (by decide)
theorem s126_114 : mm_wp d 126 114 ls st h Q ↔ mm_wp d 126 115 ls (.int (1 : Int32) :: st) h Q := wp_iconst rfl rfl
theorem s126_115 : mm_wp d 126 115 ls (.int x2 :: .int x :: st) h Q ↔ mm_wp d 126 116 ls (.int (x + x2) :: st) h Q := wp_iadd rfl
theorem s126_116 : mm_wp d 126 116 ls (.int x :: .ref a :: st) h Q ↔ (mm_s h a).1 = 10 ∧ mm_wp d 126 119 ls st (mm_pi h a 22 x) Q := wp_putI rfl rfl
theorem s126_119 : mm_wp d 126 119 [.ref a, l1, l2, l3] st h Q ↔ mm_wp d 126 120 [.ref a, l1, l2, l3] (.ref a :: st) h Q := wp_aloadR_n rfl rfl
theorem s126_120 : mm_wp d 126 120 ls (.ref a :: st) h Q ↔ (mm_s h a).1 = 10 ∧ mm_wp d 126 123 ls (mm_o (mm_r h a 17) :: st) h Q := wp_getR rfl rfl
theorem s126_123 : mm_wp d 126 123 [.ref a, l1, l2, l3] st h Q ↔ mm_wp d 126 124 [.ref a, l1, l2, l3] (.ref a :: st) h Q := wp_aloadR_n rfl rfl
theorem s126_124 : mm_wp d 126 124 ls (.ref a :: st) h Q ↔ (mm_s h a).1 = 10 ∧ mm_wp d 126 127 ls (.int (mm_i h a 8) :: st) h Q := wp_getI rfl rfl (by decide) (by decide)
theorem s126_127 : mm_wp d 126 127 ls (.int x :: .ref a :: st) h Q ↔ ((mm_s h a).1 = 20 ∧ mm_in x (mm_s h a).2 = true) ∧ mm_wp d 126 128 ls (.int (mm_i h a x.toNatClampNeg) :: st) h Q := wp_iaload rfl
theorem s126_128 : mm_wp d 126 128 ls st h Q ↔ mm_wp d 126 129 ls (.int (1 : Int32) :: st) h Q := wp_iconst rfl rfl
theorem s126_129 : mm_wp d 126 129 ls (.int x2 :: .int x :: st) h Q ↔ mm_wp d 126 130 ls (.int (x - x2) :: st) h Q := wp_isub rfl
theorem s126_130 : mm_wp d 126 130 [l0, l1, l2, l3] (.int x :: st) h Q ↔ mm_wp d 126 131 [l0, l1, l2, .int x] st h Q := wp_istore_n rfl rfl
theorem s126_131 : mm_wp d 126 131 [.ref a, l1, l2, l3] st h Q ↔ mm_wp d 126 132 [.ref a, l1, l2, l3] (.ref a :: st) h Q := wp_aloadR_n rfl rfl
theorem s126_132 : mm_wp d 126 132 [.ref a, l1, l2, l3] st h Q ↔ mm_wp d 126 133 [.ref a, l1, l2, l3] (.ref a :: st) h Q := wp_aloadR_n rfl rfl
theorem s126_133 : mm_wp d 126 133 ls (.ref a :: st) h Q ↔ (mm_s h a).1 = 10 ∧ mm_wp d 126 136 ls (mm_o (mm_r h a 15) :: st) h Q := wp_getR rfl rfl
theorem s126_136 : mm_wp d 126 136 [.ref a, l1, l2, l3] st h Q ↔ mm_wp d 126 137 [.ref a, l1, l2, l3] (.ref a :: st) h Q := wp_aloadR_n rfl rfl
theorem s126_137 : mm_wp d 126 137 ls (.ref a :: st) h Q ↔ (mm_s h a).1 = 10 ∧ mm_wp d 126 140 ls (.int (mm_i h a 8) :: st) h Q := wp_getI rfl rfl (by decide) (by decide)
theorem s126_140 : mm_wp d 126 140 ls (.int x :: .ref a :: st) h Q ↔ ((mm_s h a).1 = 20 ∧ mm_in x (mm_s h a).2 = true) ∧ mm_wp d 126 141 ls (.int (mm_i h a x.toNatClampNeg) :: st) h Q := wp_iaload rfl
theorem s126_141 : mm_wp d 126 141 [.ref a, l1, l2, l3] st h Q ↔ mm_wp d 126 142 [.ref a, l1, l2, l3] (.ref a :: st) h Q := wp_aloadR_n rfl rfl
theorem s126_142 : mm_wp d 126 142 ls (.ref a :: st) h Q ↔ (mm_s h a).1 = 10 ∧ mm_wp d 126 145 ls (mm_o (mm_r h a 16) :: st) h Q := wp_getR rfl rfl
theorem s126_145 : mm_wp d 126 145 [.ref a, l1, l2, l3] st h Q ↔ mm_wp d 126 146 [.ref a, l1, l2, l3] (.ref a :: st) h Q := wp_aloadR_n rfl rfl
theorem s126_146 : mm_wp d 126 146 ls (.ref a :: st) h Q ↔ (mm_s h a).1 = 10 ∧ mm_wp d 126 149 ls (.int (mm_i h a 8) :: st) h Q := wp_getI rfl rfl (by decide) (by decide)
theorem s126_149 : mm_wp d 126 149 ls (.int x :: .ref a :: st) h Q ↔ ((mm_s h a).1 = 20 ∧ mm_in x (mm_s h a).2 = true) ∧ mm_wp d 126 150 ls (.int (mm_i h a x.toNatClampNeg) :: st) h Q := wp_iaload rfl
theorem s126_150 : mm_wp d 126 150 [.ref a, l1, l2, l3] st h Q ↔ mm_wp d 126 151 [.ref a, l1, l2, l3] (.ref a :: st) h Q := wp_aloadR_n rfl rfl
theorem s126_151 : mm_wp d 126 151 [l0, l1, l2, .int x] st h Q ↔ mm_wp d 126 152 [l0, l1, l2, .int x] (.int x :: st) h Q := wp_iload_n rfl rfl
theorem s126_152 : mm_wp (d + 1) 126 152 ls [.int x2, .ref a, t2, t1, t0] h Q ↔ (mm_s h a).1 = 10 ∧ mm_wp d 129 0 [.ref a, .int x2] [] h (mm_bk (d + 1) 126 152 ls [t2, t1, t0] Q) := wp_virtual rfl rfl ⟨by decide, rfl⟩ ⟨Nat.le_of_ble_eq_true rfl, Nat.le_of_ble_eq_true rfl⟩ rfl rfl rfl rfl rfl rfl
theorem s126_155 : mm_wp d 126 155 [.ref a, l1, l2, l3] st h Q ↔ mm_wp d 126 156 [.ref a, l1, l2, l3] (.ref a :: st) h Q := wp_aloadR_n rfl rfl
theorem s126_156 : mm_wp d 126 156 [l0, l1, l2, .int x] st h Q ↔ mm_wp d 126 157 [l0, l1, l2, .int x] (.int x :: st) h Q := wp_iload_n rfl rfl
theorem s126_157 : mm_wp (d + 1) 126 157 ls [.int x2, .ref a, t3, t2, t1, t0] h Q ↔ (mm_s h a).1 = 10 ∧ mm_wp d 130 0 [.ref a, .int x2] [] h (mm_bk (d + 1) 126 157 ls [t3, t2, t1, t0] Q) := wp_virtual rfl rfl ⟨by decide, rfl⟩ ⟨Nat.le_of_ble_eq_true rfl, Nat.le_of_ble_eq_true rfl⟩ rfl rfl rfl rfl rfl rfl
theorem s126_160 : mm_wp d 126 160 [.ref a, l1, l2, l3] st h Q ↔ mm_wp d 126 161 [.ref a, l1, l2, l3] (.ref a :: st) h Q := wp_aloadR_n rfl rfl
theorem s126_161 : mm_wp d 126 161 [l0, l1, l2, .int x] st h Q ↔ mm_wp d 126 162 [l0, l1, l2, .int x] (.int x :: st) h Q := wp_iload_n rfl rfl
theorem s126_162 : mm_wp (d + 1) 126 162 ls [.int x2, .ref a, t4, t3, t2, t1, t0] h Q ↔ (mm_s h a).1 = 10 ∧ mm_wp d 131 0 [.ref a, .int x2] [] h (mm_bk (d + 1) 126 162 ls [t4, t3, t2, t1, t0] Q) := wp_virtual rfl rfl ⟨by decide, rfl⟩ ⟨Nat.le_of_ble_eq_true rfl, Nat.le_of_ble_eq_true rfl⟩ rfl rfl rfl rfl rfl rfl
theorem s126_165 : mm_wp (d + 1) 126 165 ls [.int x6, .int x5, .int x4, .int x3, .int x2, .ref a] h Q ↔ (mm_s h a).1 = 10 ∧ mm_wp d 135 0 [.ref a, .int x2, .int x3, .int x4, .int x5, .int x6, mm_j, mm_j] [] h (mm_bk (d + 1) 126 165 ls [] Q) := wp_virtual rfl rfl ⟨by decide, rfl⟩ ⟨Nat.le_of_ble_eq_true rfl, Nat.le_of_ble_eq_true rfl⟩ rfl rfl rfl rfl rfl rfl
theorem s126_168 : mm_wp d 126 168 [.ref a, l1, l2, l3] st h Q ↔ mm_wp d 126 169 [.ref a, l1, l2, l3] (.ref a :: st) h Q := wp_aloadR_n rfl rfl
theorem s126_169 : mm_wp (d + 1) 126 169 ls [.ref a] h Q ↔ (mm_s h a).1 = 10 ∧ mm_wp d 136 0 [.ref a, mm_j, mm_j, mm_j, mm_j, mm_j] [] h (mm_bk (d + 1) 126 169 ls [] Q) := wp_virtual rfl rfl ⟨by decide, rfl⟩ ⟨Nat.le_of_ble_eq_true rfl, Nat.le_of_ble_eq_true rfl⟩ rfl rfl rfl rfl rfl rfl
theorem s126_172 : mm_wp d 126 172 [.ref a, l1, l2, l3] st h Q ↔ mm_wp d 126 173 [.ref a, l1, l2, l3] (.ref a :: st) h Q := wp_aloadR_n rfl rfl
theorem s126_173 : mm_wp (d + 1) 126 173 ls [.ref a] h Q ↔ (mm_s h a).1 = 10 ∧ mm_wp d 127 0 [.ref a, mm_j, mm_j, mm_j, mm_j, mm_j, mm_j, mm_j] [] h (mm_bk (d + 1) 126 173 ls [] Q) := wp_virtual rfl rfl ⟨by decide, rfl⟩ ⟨Nat.le_of_ble_eq_true rfl, Nat.le_of_ble_eq_true rfl⟩ rfl rfl rfl rfl rfl rfl
theorem s126_176 : mm_wp d 126 176 ls st h Q ↔ mm_wp d 126 80 ls st h Q := wp_goto rfl rfl
theorem s126_179 : mm_wp d 126 179 [.ref a, l1, l2, l3] st h Q ↔ mm_wp d 126 180 [.ref a, l1, l2, l3] (.ref a :: st) h Q := wp_aloadR_n rfl rfl
theorem s126_180 : mm_wp d 126 180 ls (.ref a :: st) h Q ↔ (mm_s h a).1 = 10 ∧ mm_wp d 126 183 ls (.int (mm_i h a 8) :: st) h Q := wp_getI rfl rfl (by decide) (by decide)
theorem s126_183 : mm_wp d 126 183 ls (.int x :: st) h Q ↔ if x = 0 then mm_wp d 126 186 ls st h Q else mm_wp d 126 191 ls st h Q := wp_ifne rfl rfl
theorem s126_186 : mm_wp d 126 186 ls st h Q ↔ mm_wp d 126 187 ls (.int (0 : Int32) :: st) h Q := wp_iconst rfl rfl
theorem s126_187 : mm_wp d 126 187 [l0, l1, l2, l3] (.int x :: st) h Q ↔ mm_wp d 126 188 [l0, l1, .int x, l3] st h Q := wp_istore_n rfl rfl
theorem s126_188 : mm_wp d 126 188 ls st h Q ↔ mm_wp d 126 80 ls st h Q := wp_goto rfl rfl
theorem s126_191 : mm_wp d 126 191 [.ref a, l1, l2, l3] st h Q ↔ mm_wp d 126 192 [.ref a, l1, l2, l3] (.ref a :: st) h Q := wp_aloadR_n rfl rfl
theorem s126_192 : mm_wp (d + 1) 126 192 ls [.ref a] h Q ↔ (mm_s h a).1 = 10 ∧ mm_wp d 137 0 [.ref a, mm_j, mm_j, mm_j] [] h (mm_bk (d + 1) 126 192 ls [] Q) := wp_virtual rfl rfl ⟨by decide, rfl⟩ ⟨Nat.le_of_ble_eq_true rfl, Nat.le_of_ble_eq_true rfl⟩ rfl rfl rfl rfl rfl rfl
theorem s126_195 : mm_wp d 126 195 ls st h Q ↔ mm_wp d 126 80 ls st h Q := wp_goto rfl rfl
theorem s126_198 : mm_wp d 126 198 [.ref a, l1, l2, l3] st h Q ↔ mm_wp d 126 199 [.ref a, l1, l2, l3] (.ref a :: st) h Q := wp_aloadR_n rfl rfl
theorem s126_199 : mm_wp d 126 199 ls (.ref a :: st) h Q ↔ (mm_s h a).1 = 10 ∧ mm_wp d 126 202 ls (.long (mm_l h a 24) :: st) h Q := wp_getL rfl rfl
theorem s126_202 : mm_wp d 126 202 ls (.long w :: st) h Q ↔ mm_wp d 126 203 ls (.int w.toInt32 :: st) h Q := wp_l2i rfl
theorem s126_203 : mm_wp d 126 203 ls (.int x :: st) h Q ↔ Q (.inl (some (.int x))) h := wp_iret rfl rfl
end
