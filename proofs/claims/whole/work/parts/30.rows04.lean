/-! rows of the program, by rows.py -/
section
variable {d : Nat} {ls st : List Value} {h : mm_H} {Q : mm_Q} {o : Option Nat} {a b c : Nat} {x y x1 x2 x3 x4 x5 x6 : Int32} {w w2 w3 w4 : Int64} {q : UInt32} {l0 l1 l2 l3 l4 l5 l6 l7 l8 l9 l10 l11 l12 l13 l14 l15 l16 t0 t1 t2 t3 t4 t5 : Value}
/-! 79: LoadRoom$Search.meet(LLoadRoom$Placed;)V -/
theorem s79_0 : mm_wp d 79 0 [.ref a, l1] st h Q ↔ mm_wp d 79 1 [.ref a, l1] (.ref a :: st) h Q := wp_aloadR_n rfl rfl
theorem s79_1 : mm_wp d 79 1 ls (.ref a :: st) h Q ↔ (mm_s h a).1 = 8 ∧ mm_wp d 79 4 ls (.int (mm_i h a 9) :: st) h Q := wp_getI rfl rfl (by decide) (by decide)
theorem s79_4 : mm_wp d 79 4 [.ref a, l1] st h Q ↔ mm_wp d 79 5 [.ref a, l1] (.ref a :: st) h Q := wp_aloadR_n rfl rfl
theorem s79_5 : mm_wp d 79 5 ls (.ref a :: st) h Q ↔ (mm_s h a).1 = 8 ∧ mm_wp d 79 8 ls (.int (mm_i h a 8) :: st) h Q := wp_getI rfl rfl (by decide) (by decide)
theorem s79_8 : mm_wp d 79 8 ls (.int x2 :: .int x :: st) h Q ↔ if x < x2 then mm_wp d 79 17 ls st h Q else mm_wp d 79 11 ls st h Q := wp_icmplt rfl rfl
theorem s79_11 : mm_wp d 79 11 [.ref a, l1] st h Q ↔ mm_wp d 79 12 [.ref a, l1] (.ref a :: st) h Q := wp_aloadR_n rfl rfl
theorem s79_12 : mm_wp d 79 12 ls st h Q ↔ mm_wp d 79 13 ls (.int (1 : Int32) :: st) h Q := wp_iconst rfl rfl
theorem s79_13 : mm_wp d 79 13 ls (.int x :: .ref a :: st) h Q ↔ (mm_s h a).1 = 8 ∧ (x = 0 ∨ x = 1) ∧ mm_wp d 79 16 ls st (mm_pi h a 10 x) Q := wp_putZ rfl rfl
theorem s79_16 : mm_wp d 79 16 ls st h Q ↔ Q (.inl none) h := wp_vret rfl rfl
theorem s79_17 : mm_wp d 79 17 [.ref a, l1] st h Q ↔ mm_wp d 79 18 [.ref a, l1] (.ref a :: st) h Q := wp_aloadR_n rfl rfl
theorem s79_18 : mm_wp d 79 18 ls (.ref a :: st) h Q ↔ mm_wp d 79 19 ls (.ref a :: .ref a :: st) h Q := wp_dupR rfl
theorem s79_19 : mm_wp d 79 19 ls (.ref a :: st) h Q ↔ (mm_s h a).1 = 8 ∧ mm_wp d 79 22 ls (.int (mm_i h a 9) :: st) h Q := wp_getI rfl rfl (by decide) (by decide)
theorem s79_22 : mm_wp d 79 22 ls st h Q ↔ mm_wp d 79 23 ls (.int (1 : Int32) :: st) h Q := wp_iconst rfl rfl
theorem s79_23 : mm_wp d 79 23 ls (.int x2 :: .int x :: st) h Q ↔ mm_wp d 79 24 ls (.int (x + x2) :: st) h Q := wp_iadd rfl
theorem s79_24 : mm_wp d 79 24 ls (.int x :: .ref a :: st) h Q ↔ (mm_s h a).1 = 8 ∧ mm_wp d 79 27 ls st (mm_pi h a 9 x) Q := wp_putI rfl rfl
theorem s79_27 : mm_wp d 79 27 [.ref a, l1] st h Q ↔ mm_wp d 79 28 [.ref a, l1] (.ref a :: st) h Q := wp_aloadR_n rfl rfl
theorem s79_28 : mm_wp d 79 28 ls (.ref a :: st) h Q ↔ (mm_s h a).1 = 8 ∧ mm_wp d 79 31 ls (mm_o (mm_r h a 2) :: st) h Q := wp_getR rfl rfl
theorem s79_31 : mm_wp (d + 1) 79 31 ls [.ref a] h Q ↔ (mm_s h a).1 = 7 ∧ mm_wp d 80 0 [.ref a] [] h (mm_bk (d + 1) 79 31 ls [] Q) := wp_virtual rfl rfl ⟨by decide, rfl⟩ ⟨Nat.le_of_ble_eq_true rfl, Nat.le_of_ble_eq_true rfl⟩ rfl rfl rfl rfl rfl rfl
theorem s79_34 : mm_wp d 79 34 [.ref a, l1] st h Q ↔ mm_wp d 79 35 [.ref a, l1] (.ref a :: st) h Q := wp_aloadR_n rfl rfl
theorem s79_35 : mm_wp d 79 35 ls (.ref a :: st) h Q ↔ (mm_s h a).1 = 8 ∧ mm_wp d 79 38 ls (mm_o (mm_r h a 4) :: st) h Q := wp_getR rfl rfl
theorem s79_38 : mm_wp d 79 38 [l0, .ref a] st h Q ↔ mm_wp d 79 39 [l0, .ref a] (.ref a :: st) h Q := wp_aloadR_n rfl rfl
theorem s79_38o : mm_wp d 79 38 [l0, mm_o o] st h Q ↔ mm_wp d 79 39 [l0, mm_o o] (mm_o o :: st) h Q := wp_aload_n rfl o rfl
theorem s79_38n : mm_wp d 79 38 [l0, .null] st h Q ↔ mm_wp d 79 39 [l0, .null] (.null :: st) h Q := wp_aload_n rfl none rfl
theorem s79_39 : mm_wp d 79 39 ls (.ref a :: st) h Q ↔ (mm_s h a).1 = 6 ∧ mm_wp d 79 42 ls (.int (mm_i h a 0) :: st) h Q := wp_getI rfl rfl (by decide) (by decide)
theorem s79_42 : mm_wp d 79 42 [l0, .ref a] st h Q ↔ mm_wp d 79 43 [l0, .ref a] (.ref a :: st) h Q := wp_aloadR_n rfl rfl
theorem s79_42o : mm_wp d 79 42 [l0, mm_o o] st h Q ↔ mm_wp d 79 43 [l0, mm_o o] (mm_o o :: st) h Q := wp_aload_n rfl o rfl
theorem s79_42n : mm_wp d 79 42 [l0, .null] st h Q ↔ mm_wp d 79 43 [l0, .null] (.null :: st) h Q := wp_aload_n rfl none rfl
theorem s79_43 : mm_wp d 79 43 ls (.ref a :: st) h Q ↔ (mm_s h a).1 = 6 ∧ mm_wp d 79 46 ls (.int (mm_i h a 6) :: st) h Q := wp_getI rfl rfl (by decide) (by decide)
theorem s79_46 : mm_wp (d + 1) 79 46 ls [.int x3, .int x2, .ref a] h Q ↔ (mm_s h a).1 = 3 ∧ mm_wp d 82 0 [.ref a, .int x2, .int x3, mm_j, mm_j, mm_j, mm_j, mm_j, mm_j] [] h (mm_bk (d + 1) 79 46 ls [] Q) := wp_virtual rfl rfl ⟨by decide, rfl⟩ ⟨Nat.le_of_ble_eq_true rfl, Nat.le_of_ble_eq_true rfl⟩ rfl rfl rfl rfl rfl rfl
theorem s79_49 : mm_wp d 79 49 [.ref a, l1] st h Q ↔ mm_wp d 79 50 [.ref a, l1] (.ref a :: st) h Q := wp_aloadR_n rfl rfl
theorem s79_50 : mm_wp d 79 50 ls (.ref a :: st) h Q ↔ (mm_s h a).1 = 8 ∧ mm_wp d 79 53 ls (mm_o (mm_r h a 5) :: st) h Q := wp_getR rfl rfl
theorem s79_53 : mm_wp d 79 53 [l0, .ref a] st h Q ↔ mm_wp d 79 54 [l0, .ref a] (.ref a :: st) h Q := wp_aloadR_n rfl rfl
theorem s79_53o : mm_wp d 79 53 [l0, mm_o o] st h Q ↔ mm_wp d 79 54 [l0, mm_o o] (mm_o o :: st) h Q := wp_aload_n rfl o rfl
theorem s79_53n : mm_wp d 79 53 [l0, .null] st h Q ↔ mm_wp d 79 54 [l0, .null] (.null :: st) h Q := wp_aload_n rfl none rfl
theorem s79_54 : mm_wp d 79 54 ls (.ref a :: st) h Q ↔ (mm_s h a).1 = 6 ∧ mm_wp d 79 57 ls (.int (mm_i h a 0) :: st) h Q := wp_getI rfl rfl (by decide) (by decide)
theorem s79_57 : mm_wp d 79 57 [l0, .ref a] st h Q ↔ mm_wp d 79 58 [l0, .ref a] (.ref a :: st) h Q := wp_aloadR_n rfl rfl
theorem s79_57o : mm_wp d 79 57 [l0, mm_o o] st h Q ↔ mm_wp d 79 58 [l0, mm_o o] (mm_o o :: st) h Q := wp_aload_n rfl o rfl
theorem s79_57n : mm_wp d 79 57 [l0, .null] st h Q ↔ mm_wp d 79 58 [l0, .null] (.null :: st) h Q := wp_aload_n rfl none rfl
theorem s79_58 : mm_wp d 79 58 ls (.ref a :: st) h Q ↔ (mm_s h a).1 = 6 ∧ mm_wp d 79 61 ls (.int (mm_i h a 7) :: st) h Q := wp_getI rfl rfl (by decide) (by decide)
theorem s79_61 : mm_wp (d + 1) 79 61 ls [.int x3, .int x2, .ref a] h Q ↔ (mm_s h a).1 = 3 ∧ mm_wp d 82 0 [.ref a, .int x2, .int x3, mm_j, mm_j, mm_j, mm_j, mm_j, mm_j] [] h (mm_bk (d + 1) 79 61 ls [] Q) := wp_virtual rfl rfl ⟨by decide, rfl⟩ ⟨Nat.le_of_ble_eq_true rfl, Nat.le_of_ble_eq_true rfl⟩ rfl rfl rfl rfl rfl rfl
theorem s79_64 : mm_wp d 79 64 [.ref a, l1] st h Q ↔ mm_wp d 79 65 [.ref a, l1] (.ref a :: st) h Q := wp_aloadR_n rfl rfl
theorem s79_65 : mm_wp d 79 65 ls (.ref a :: st) h Q ↔ (mm_s h a).1 = 8 ∧ mm_wp d 79 68 ls (mm_o (mm_r h a 6) :: st) h Q := wp_getR rfl rfl
theorem s79_68 : mm_wp d 79 68 [l0, .ref a] st h Q ↔ mm_wp d 79 69 [l0, .ref a] (.ref a :: st) h Q := wp_aloadR_n rfl rfl
theorem s79_68o : mm_wp d 79 68 [l0, mm_o o] st h Q ↔ mm_wp d 79 69 [l0, mm_o o] (mm_o o :: st) h Q := wp_aload_n rfl o rfl
theorem s79_68n : mm_wp d 79 68 [l0, .null] st h Q ↔ mm_wp d 79 69 [l0, .null] (.null :: st) h Q := wp_aload_n rfl none rfl
theorem s79_69 : mm_wp d 79 69 ls (.ref a :: st) h Q ↔ (mm_s h a).1 = 6 ∧ mm_wp d 79 72 ls (.int (mm_i h a 0) :: st) h Q := wp_getI rfl rfl (by decide) (by decide)
theorem s79_72 : mm_wp d 79 72 [l0, .ref a] st h Q ↔ mm_wp d 79 73 [l0, .ref a] (.ref a :: st) h Q := wp_aloadR_n rfl rfl
theorem s79_72o : mm_wp d 79 72 [l0, mm_o o] st h Q ↔ mm_wp d 79 73 [l0, mm_o o] (mm_o o :: st) h Q := wp_aload_n rfl o rfl
theorem s79_72n : mm_wp d 79 72 [l0, .null] st h Q ↔ mm_wp d 79 73 [l0, .null] (.null :: st) h Q := wp_aload_n rfl none rfl
theorem s79_73 : mm_wp d 79 73 ls (.ref a :: st) h Q ↔ (mm_s h a).1 = 6 ∧ mm_wp d 79 76 ls (.int (mm_i h a 8) :: st) h Q := wp_getI rfl rfl (by decide) (by decide)
theorem s79_76 : mm_wp (d + 1) 79 76 ls [.int x3, .int x2, .ref a] h Q ↔ (mm_s h a).1 = 3 ∧ mm_wp d 82 0 [.ref a, .int x2, .int x3, mm_j, mm_j, mm_j, mm_j, mm_j, mm_j] [] h (mm_bk (d + 1) 79 76 ls [] Q) := wp_virtual rfl rfl ⟨by decide, rfl⟩ ⟨Nat.le_of_ble_eq_true rfl, Nat.le_of_ble_eq_true rfl⟩ rfl rfl rfl rfl rfl rfl
theorem s79_79 : mm_wp d 79 79 [.ref a, l1] st h Q ↔ mm_wp d 79 80 [.ref a, l1] (.ref a :: st) h Q := wp_aloadR_n rfl rfl
theorem s79_80 : mm_wp d 79 80 ls (.ref a :: st) h Q ↔ (mm_s h a).1 = 8 ∧ mm_wp d 79 83 ls (mm_o (mm_r h a 2) :: st) h Q := wp_getR rfl rfl
theorem s79_83 : mm_wp d 79 83 [.ref a, l1] st h Q ↔ mm_wp d 79 84 [.ref a, l1] (.ref a :: st) h Q := wp_aloadR_n rfl rfl
theorem s79_84 : mm_wp d 79 84 ls (.ref a :: st) h Q ↔ (mm_s h a).1 = 8 ∧ mm_wp d 79 87 ls (mm_o (mm_r h a 3) :: st) h Q := wp_getR rfl rfl
theorem s79_87 : mm_wp (d + 1) 79 87 ls [.ref b, .ref a] h Q ↔ (mm_s h a).1 = 7 ∧ mm_wp d 83 0 [.ref a, .ref b] [] h (mm_bk (d + 1) 79 87 ls [] Q) := wp_virtual rfl rfl ⟨by decide, rfl⟩ ⟨Nat.le_of_ble_eq_true rfl, Nat.le_of_ble_eq_true rfl⟩ rfl rfl rfl rfl rfl rfl
theorem s79_90 : mm_wp d 79 90 ls (.int x :: st) h Q ↔ if x = 0 then mm_wp d 79 104 ls st h Q else mm_wp d 79 93 ls st h Q := wp_ifeq rfl rfl
theorem s79_93 : mm_wp d 79 93 [.ref a, l1] st h Q ↔ mm_wp d 79 94 [.ref a, l1] (.ref a :: st) h Q := wp_aloadR_n rfl rfl
theorem s79_94 : mm_wp d 79 94 ls (.ref a :: st) h Q ↔ (mm_s h a).1 = 8 ∧ mm_wp d 79 97 ls (mm_o (mm_r h a 3) :: st) h Q := wp_getR rfl rfl
theorem s79_97 : mm_wp d 79 97 [.ref a, l1] st h Q ↔ mm_wp d 79 98 [.ref a, l1] (.ref a :: st) h Q := wp_aloadR_n rfl rfl
theorem s79_98 : mm_wp d 79 98 ls (.ref a :: st) h Q ↔ (mm_s h a).1 = 8 ∧ mm_wp d 79 101 ls (mm_o (mm_r h a 2) :: st) h Q := wp_getR rfl rfl
theorem s79_101 : mm_wp (d + 1) 79 101 ls [.ref b, .ref a] h Q ↔ (mm_s h a).1 = 7 ∧ mm_wp d 84 0 [.ref a, .ref b, mm_j] [] h (mm_bk (d + 1) 79 101 ls [] Q) := wp_virtual rfl rfl ⟨by decide, rfl⟩ ⟨Nat.le_of_ble_eq_true rfl, Nat.le_of_ble_eq_true rfl⟩ rfl rfl rfl rfl rfl rfl
theorem s79_104 : mm_wp d 79 104 [.ref a, l1] st h Q ↔ mm_wp d 79 105 [.ref a, l1] (.ref a :: st) h Q := wp_aloadR_n rfl rfl
theorem s79_105 : mm_wp d 79 105 [l0, .ref a] st h Q ↔ mm_wp d 79 106 [l0, .ref a] (.ref a :: st) h Q := wp_aloadR_n rfl rfl
theorem s79_105o : mm_wp d 79 105 [l0, mm_o o] st h Q ↔ mm_wp d 79 106 [l0, mm_o o] (mm_o o :: st) h Q := wp_aload_n rfl o rfl
theorem s79_105n : mm_wp d 79 105 [l0, .null] st h Q ↔ mm_wp d 79 106 [l0, .null] (.null :: st) h Q := wp_aload_n rfl none rfl
theorem s79_106 : mm_wp d 79 106 ls (.ref a :: st) h Q ↔ (mm_s h a).1 = 6 ∧ mm_wp d 79 109 ls (.int (mm_i h a 0) :: st) h Q := wp_getI rfl rfl (by decide) (by decide)
theorem s79_109 : mm_wp d 79 109 ls st h Q ↔ mm_wp d 79 110 ls (.int (1 : Int32) :: st) h Q := wp_iconst rfl rfl
theorem s79_110 : mm_wp d 79 110 ls (.int x2 :: .int x :: st) h Q ↔ mm_wp d 79 111 ls (.int (x + x2) :: st) h Q := wp_iadd rfl
theorem s79_111 : mm_wp (d + 1) 79 111 ls [.int x2, .ref a] h Q ↔ (mm_s h a).1 = 8 ∧ mm_wp d 52 0 [.ref a, .int x2, mm_j, mm_j, mm_j, mm_j, mm_j] [] h (mm_bk (d + 1) 79 111 ls [] Q) := wp_virtual rfl rfl ⟨by decide, rfl⟩ ⟨Nat.le_of_ble_eq_true rfl, Nat.le_of_ble_eq_true rfl⟩ rfl rfl rfl rfl rfl rfl
theorem s79_114 : mm_wp d 79 114 [.ref a, l1] st h Q ↔ mm_wp d 79 115 [.ref a, l1] (.ref a :: st) h Q := wp_aloadR_n rfl rfl
theorem s79_115 : mm_wp d 79 115 ls (.ref a :: st) h Q ↔ (mm_s h a).1 = 8 ∧ mm_wp d 79 118 ls (mm_o (mm_r h a 2) :: st) h Q := wp_getR rfl rfl
theorem s79_118 : mm_wp (d + 1) 79 118 ls [.ref a] h Q ↔ (mm_s h a).1 = 7 ∧ mm_wp d 86 0 [.ref a] [] h (mm_bk (d + 1) 79 118 ls [] Q) := wp_virtual rfl rfl ⟨by decide, rfl⟩ ⟨Nat.le_of_ble_eq_true rfl, Nat.le_of_ble_eq_true rfl⟩ rfl rfl rfl rfl rfl rfl
theorem s79_121 : mm_wp d 79 121 ls st h Q ↔ Q (.inl none) h := wp_vret rfl rfl
/-! 80: LoadRoom$Row.lengthen()V -/
theorem s80_0 : mm_wp d 80 0 [.ref a] st h Q ↔ mm_wp d 80 1 [.ref a] (.ref a :: st) h Q := wp_aloadR_n rfl rfl
theorem s80_1 : mm_wp d 80 1 ls (.ref a :: st) h Q ↔ (mm_s h a).1 = 7 ∧ mm_wp d 80 4 ls (.int (mm_i h a 1) :: st) h Q := wp_getI rfl rfl (by decide) (by decide)
theorem s80_4 : mm_wp d 80 4 ls st h Q ↔ mm_wp d 80 6 ls (.int (8 : Int32) :: st) h Q := wp_bipush rfl rfl
theorem s80_6 : mm_wp d 80 6 ls (.int x2 :: .int x :: st) h Q ↔ if x2 ≤ x then mm_wp d 80 33 ls st h Q else mm_wp d 80 9 ls st h Q := wp_icmpge rfl rfl
theorem s80_9 : mm_wp d 80 9 [.ref a] st h Q ↔ mm_wp d 80 10 [.ref a] (.ref a :: st) h Q := wp_aloadR_n rfl rfl
theorem s80_10 : mm_wp d 80 10 [.ref a] st h Q ↔ mm_wp d 80 11 [.ref a] (.ref a :: st) h Q := wp_aloadR_n rfl rfl
theorem s80_11 : mm_wp d 80 11 ls (.ref a :: st) h Q ↔ (mm_s h a).1 = 7 ∧ mm_wp d 80 14 ls (mm_o (mm_r h a 0) :: st) h Q := wp_getR rfl rfl
theorem s80_14 : mm_wp d 80 14 [.ref a] st h Q ↔ mm_wp d 80 15 [.ref a] (.ref a :: st) h Q := wp_aloadR_n rfl rfl
theorem s80_15 : mm_wp d 80 15 ls (.ref a :: st) h Q ↔ (mm_s h a).1 = 7 ∧ mm_wp d 80 18 ls (.int (mm_i h a 1) :: st) h Q := wp_getI rfl rfl (by decide) (by decide)
theorem s80_18 : mm_wp d 80 18 ls (.int x :: .ref a :: st) h Q ↔ (23 ≤ (mm_s h a).1 ∧ (mm_s h a).1 ≤ 26 ∧ mm_in x (mm_s h a).2 = true) ∧ mm_wp d 80 19 ls (mm_o (mm_r h a x.toNatClampNeg) :: st) h Q := wp_aaload rfl
theorem s80_19 : mm_wp d 80 19 ls st h Q ↔ mm_wp d 80 20 ls (.int (1 : Int32) :: st) h Q := wp_iconst rfl rfl
theorem s80_20 : mm_wp (d + 1) 80 20 ls [.int x3, .ref b, .ref a] h Q ↔ (mm_s h a).1 = 7 ∧ mm_wp d 81 0 [.ref a, .ref b, .int x3, mm_j] [] h (mm_bk (d + 1) 80 20 ls [] Q) := wp_virtual rfl rfl ⟨by decide, rfl⟩ ⟨Nat.le_of_ble_eq_true rfl, Nat.le_of_ble_eq_true rfl⟩ rfl rfl rfl rfl rfl rfl
theorem s80_23 : mm_wp d 80 23 [.ref a] st h Q ↔ mm_wp d 80 24 [.ref a] (.ref a :: st) h Q := wp_aloadR_n rfl rfl
theorem s80_24 : mm_wp d 80 24 ls (.ref a :: st) h Q ↔ mm_wp d 80 25 ls (.ref a :: .ref a :: st) h Q := wp_dupR rfl
theorem s80_25 : mm_wp d 80 25 ls (.ref a :: st) h Q ↔ (mm_s h a).1 = 7 ∧ mm_wp d 80 28 ls (.int (mm_i h a 1) :: st) h Q := wp_getI rfl rfl (by decide) (by decide)
theorem s80_28 : mm_wp d 80 28 ls st h Q ↔ mm_wp d 80 29 ls (.int (1 : Int32) :: st) h Q := wp_iconst rfl rfl
theorem s80_29 : mm_wp d 80 29 ls (.int x2 :: .int x :: st) h Q ↔ mm_wp d 80 30 ls (.int (x + x2) :: st) h Q := wp_iadd rfl
theorem s80_30 : mm_wp d 80 30 ls (.int x :: .ref a :: st) h Q ↔ (mm_s h a).1 = 7 ∧ mm_wp d 80 33 ls st (mm_pi h a 1 x) Q := wp_putI rfl rfl
theorem s80_33 : mm_wp d 80 33 ls st h Q ↔ Q (.inl none) h := wp_vret rfl rfl
/-! 81: LoadRoom$Row.reckon(LLoadRoom$Placed;I)V -/
theorem s81_0 : mm_wp d 81 0 [.ref a, l1, l2, l3] st h Q ↔ mm_wp d 81 1 [.ref a, l1, l2, l3] (.ref a :: st) h Q := wp_aloadR_n rfl rfl
theorem s81_1 : mm_wp d 81 1 ls (.ref a :: st) h Q ↔ mm_wp d 81 2 ls (.ref a :: .ref a :: st) h Q := wp_dupR rfl
theorem s81_2 : mm_wp d 81 2 ls (.ref a :: st) h Q ↔ (mm_s h a).1 = 7 ∧ mm_wp d 81 5 ls (.int (mm_i h a 2) :: st) h Q := wp_getI rfl rfl (by decide) (by decide)
theorem s81_5 : mm_wp d 81 5 [l0, l1, .int x, l3] st h Q ↔ mm_wp d 81 6 [l0, l1, .int x, l3] (.int x :: st) h Q := wp_iload_n rfl rfl
theorem s81_6 : mm_wp d 81 6 [l0, .ref a, l2, l3] st h Q ↔ mm_wp d 81 7 [l0, .ref a, l2, l3] (.ref a :: st) h Q := wp_aloadR_n rfl rfl
theorem s81_6o : mm_wp d 81 6 [l0, mm_o o, l2, l3] st h Q ↔ mm_wp d 81 7 [l0, mm_o o, l2, l3] (mm_o o :: st) h Q := wp_aload_n rfl o rfl
theorem s81_6n : mm_wp d 81 6 [l0, .null, l2, l3] st h Q ↔ mm_wp d 81 7 [l0, .null, l2, l3] (.null :: st) h Q := wp_aload_n rfl none rfl
theorem s81_7 : mm_wp d 81 7 ls (.ref a :: st) h Q ↔ (mm_s h a).1 = 6 ∧ mm_wp d 81 10 ls (.int (mm_i h a 9) :: st) h Q := wp_getI rfl rfl (by decide) (by decide)
theorem s81_10 : mm_wp d 81 10 ls (.int x2 :: .int x :: st) h Q ↔ mm_wp d 81 11 ls (.int (x * x2) :: st) h Q := wp_imul rfl
theorem s81_11 : mm_wp d 81 11 [l0, .ref a, l2, l3] st h Q ↔ mm_wp d 81 12 [l0, .ref a, l2, l3] (.ref a :: st) h Q := wp_aloadR_n rfl rfl
theorem s81_11o : mm_wp d 81 11 [l0, mm_o o, l2, l3] st h Q ↔ mm_wp d 81 12 [l0, mm_o o, l2, l3] (mm_o o :: st) h Q := wp_aload_n rfl o rfl
theorem s81_11n : mm_wp d 81 11 [l0, .null, l2, l3] st h Q ↔ mm_wp d 81 12 [l0, .null, l2, l3] (.null :: st) h Q := wp_aload_n rfl none rfl
theorem s81_12 : mm_wp d 81 12 ls (.ref a :: st) h Q ↔ (mm_s h a).1 = 6 ∧ mm_wp d 81 15 ls (.int (mm_i h a 10) :: st) h Q := wp_getI rfl rfl (by decide) (by decide)
theorem s81_15 : mm_wp d 81 15 ls (.int x2 :: .int x :: st) h Q ↔ mm_wp d 81 16 ls (.int (x * x2) :: st) h Q := wp_imul rfl
theorem s81_16 : mm_wp d 81 16 [l0, .ref a, l2, l3] st h Q ↔ mm_wp d 81 17 [l0, .ref a, l2, l3] (.ref a :: st) h Q := wp_aloadR_n rfl rfl
theorem s81_16o : mm_wp d 81 16 [l0, mm_o o, l2, l3] st h Q ↔ mm_wp d 81 17 [l0, mm_o o, l2, l3] (mm_o o :: st) h Q := wp_aload_n rfl o rfl
theorem s81_16n : mm_wp d 81 16 [l0, .null, l2, l3] st h Q ↔ mm_wp d 81 17 [l0, .null, l2, l3] (.null :: st) h Q := wp_aload_n rfl none rfl
theorem s81_17 : mm_wp d 81 17 ls (.ref a :: st) h Q ↔ (mm_s h a).1 = 6 ∧ mm_wp d 81 20 ls (.int (mm_i h a 11) :: st) h Q := wp_getI rfl rfl (by decide) (by decide)
theorem s81_20 : mm_wp d 81 20 ls (.int x2 :: .int x :: st) h Q ↔ mm_wp d 81 21 ls (.int (x * x2) :: st) h Q := wp_imul rfl
theorem s81_21 : mm_wp d 81 21 ls (.int x2 :: .int x :: st) h Q ↔ mm_wp d 81 22 ls (.int (x + x2) :: st) h Q := wp_iadd rfl
theorem s81_22 : mm_wp d 81 22 ls (.int x :: .ref a :: st) h Q ↔ (mm_s h a).1 = 7 ∧ mm_wp d 81 25 ls st (mm_pi h a 2 x) Q := wp_putI rfl rfl
theorem s81_25 : mm_wp d 81 25 [.ref a, l1, l2, l3] st h Q ↔ mm_wp d 81 26 [.ref a, l1, l2, l3] (.ref a :: st) h Q := wp_aloadR_n rfl rfl
theorem s81_26 : mm_wp d 81 26 ls (.ref a :: st) h Q ↔ mm_wp d 81 27 ls (.ref a :: .ref a :: st) h Q := wp_dupR rfl
theorem s81_27 : mm_wp d 81 27 ls (.ref a :: st) h Q ↔ (mm_s h a).1 = 7 ∧ mm_wp d 81 30 ls (.long (mm_l h a 3) :: st) h Q := wp_getL rfl rfl
theorem s81_30 : mm_wp d 81 30 [l0, l1, .int x, l3] st h Q ↔ mm_wp d 81 31 [l0, l1, .int x, l3] (.int x :: st) h Q := wp_iload_n rfl rfl
theorem s81_31 : mm_wp d 81 31 [l0, .ref a, l2, l3] st h Q ↔ mm_wp d 81 32 [l0, .ref a, l2, l3] (.ref a :: st) h Q := wp_aloadR_n rfl rfl
theorem s81_31o : mm_wp d 81 31 [l0, mm_o o, l2, l3] st h Q ↔ mm_wp d 81 32 [l0, mm_o o, l2, l3] (mm_o o :: st) h Q := wp_aload_n rfl o rfl
theorem s81_31n : mm_wp d 81 31 [l0, .null, l2, l3] st h Q ↔ mm_wp d 81 32 [l0, .null, l2, l3] (.null :: st) h Q := wp_aload_n rfl none rfl
theorem s81_32 : mm_wp d 81 32 ls (.ref a :: st) h Q ↔ (mm_s h a).1 = 6 ∧ mm_wp d 81 35 ls (.int (mm_i h a 12) :: st) h Q := wp_getI rfl rfl (by decide) (by decide)
theorem s81_35 : mm_wp d 81 35 ls (.int x2 :: .int x :: st) h Q ↔ mm_wp d 81 36 ls (.int (x * x2) :: st) h Q := wp_imul rfl
theorem s81_36 : mm_wp d 81 36 ls st h Q ↔ mm_wp d 81 37 ls (.int (2 : Int32) :: st) h Q := wp_iconst rfl rfl
theorem s81_37 : mm_wp d 81 37 [l0, .ref a, l2, l3] st h Q ↔ mm_wp d 81 38 [l0, .ref a, l2, l3] (.ref a :: st) h Q := wp_aloadR_n rfl rfl
theorem s81_37o : mm_wp d 81 37 [l0, mm_o o, l2, l3] st h Q ↔ mm_wp d 81 38 [l0, mm_o o, l2, l3] (mm_o o :: st) h Q := wp_aload_n rfl o rfl
theorem s81_37n : mm_wp d 81 37 [l0, .null, l2, l3] st h Q ↔ mm_wp d 81 38 [l0, .null, l2, l3] (.null :: st) h Q := wp_aload_n rfl none rfl
theorem s81_38 : mm_wp d 81 38 ls (.ref a :: st) h Q ↔ (mm_s h a).1 = 6 ∧ mm_wp d 81 41 ls (.int (mm_i h a 4) :: st) h Q := wp_getI rfl rfl (by decide) (by decide)
theorem s81_41 : mm_wp d 81 41 ls (.int x2 :: .int x :: st) h Q ↔ mm_wp d 81 42 ls (.int (x * x2) :: st) h Q := wp_imul rfl
theorem s81_42 : mm_wp d 81 42 [l0, .ref a, l2, l3] st h Q ↔ mm_wp d 81 43 [l0, .ref a, l2, l3] (.ref a :: st) h Q := wp_aloadR_n rfl rfl
theorem s81_42o : mm_wp d 81 42 [l0, mm_o o, l2, l3] st h Q ↔ mm_wp d 81 43 [l0, mm_o o, l2, l3] (mm_o o :: st) h Q := wp_aload_n rfl o rfl
theorem s81_42n : mm_wp d 81 42 [l0, .null, l2, l3] st h Q ↔ mm_wp d 81 43 [l0, .null, l2, l3] (.null :: st) h Q := wp_aload_n rfl none rfl
theorem s81_43 : mm_wp d 81 43 ls (.ref a :: st) h Q ↔ (mm_s h a).1 = 6 ∧ mm_wp d 81 46 ls (.int (mm_i h a 10) :: st) h Q := wp_getI rfl rfl (by decide) (by decide)
theorem s81_46 : mm_wp d 81 46 ls (.int x2 :: .int x :: st) h Q ↔ mm_wp d 81 47 ls (.int (x + x2) :: st) h Q := wp_iadd rfl
theorem s81_47 : mm_wp d 81 47 ls (.int x2 :: .int x :: st) h Q ↔ mm_wp d 81 48 ls (.int (x * x2) :: st) h Q := wp_imul rfl
theorem s81_48 : mm_wp d 81 48 ls (.int x :: st) h Q ↔ mm_wp d 81 49 ls (.long x.toInt64 :: st) h Q := wp_i2l rfl
theorem s81_49 : mm_wp d 81 49 ls (.long w2 :: .long w :: st) h Q ↔ mm_wp d 81 50 ls (.long (w + w2) :: st) h Q := wp_ladd rfl
theorem s81_50 : mm_wp d 81 50 ls (.long w :: .ref a :: st) h Q ↔ (mm_s h a).1 = 7 ∧ mm_wp d 81 53 ls st (mm_pl h a 3 w) Q := wp_putL rfl rfl
theorem s81_53 : mm_wp d 81 53 ls st h Q ↔ mm_wp d 81 54 ls (.int (0 : Int32) :: st) h Q := wp_iconst rfl rfl
theorem s81_54 : mm_wp d 81 54 [l0, l1, l2, l3] (.int x :: st) h Q ↔ mm_wp d 81 55 [l0, l1, l2, .int x] st h Q := wp_istore_n rfl rfl
theorem s81_55 : mm_wp d 81 55 [l0, l1, l2, .int x] st h Q ↔ mm_wp d 81 56 [l0, l1, l2, .int x] (.int x :: st) h Q := wp_iload_n rfl rfl
theorem s81_56 : mm_wp d 81 56 [.ref a, l1, l2, l3] st h Q ↔ mm_wp d 81 57 [.ref a, l1, l2, l3] (.ref a :: st) h Q := wp_aloadR_n rfl rfl
theorem s81_57 : mm_wp d 81 57 ls (.ref a :: st) h Q ↔ (mm_s h a).1 = 7 ∧ mm_wp d 81 60 ls (.int (mm_i h a 1) :: st) h Q := wp_getI rfl rfl (by decide) (by decide)
theorem s81_60 : mm_wp d 81 60 ls (.int x2 :: .int x :: st) h Q ↔ if x2 ≤ x then mm_wp d 81 102 ls st h Q else mm_wp d 81 63 ls st h Q := wp_icmpge rfl rfl
theorem s81_63 : mm_wp d 81 63 [l0, .ref a, l2, l3] st h Q ↔ mm_wp d 81 64 [l0, .ref a, l2, l3] (.ref a :: st) h Q := wp_aloadR_n rfl rfl
theorem s81_63o : mm_wp d 81 63 [l0, mm_o o, l2, l3] st h Q ↔ mm_wp d 81 64 [l0, mm_o o, l2, l3] (mm_o o :: st) h Q := wp_aload_n rfl o rfl
theorem s81_63n : mm_wp d 81 63 [l0, .null, l2, l3] st h Q ↔ mm_wp d 81 64 [l0, .null, l2, l3] (.null :: st) h Q := wp_aload_n rfl none rfl
theorem s81_64 : mm_wp d 81 64 [.ref a, l1, l2, l3] st h Q ↔ mm_wp d 81 65 [.ref a, l1, l2, l3] (.ref a :: st) h Q := wp_aloadR_n rfl rfl
theorem s81_65 : mm_wp d 81 65 ls (.ref a :: st) h Q ↔ (mm_s h a).1 = 7 ∧ mm_wp d 81 68 ls (mm_o (mm_r h a 0) :: st) h Q := wp_getR rfl rfl
theorem s81_68 : mm_wp d 81 68 [l0, l1, l2, .int x] st h Q ↔ mm_wp d 81 69 [l0, l1, l2, .int x] (.int x :: st) h Q := wp_iload_n rfl rfl
theorem s81_69 : mm_wp d 81 69 ls (.int x :: .ref a :: st) h Q ↔ (23 ≤ (mm_s h a).1 ∧ (mm_s h a).1 ≤ 26 ∧ mm_in x (mm_s h a).2 = true) ∧ mm_wp d 81 70 ls (mm_o (mm_r h a x.toNatClampNeg) :: st) h Q := wp_aaload rfl
theorem s81_70 : mm_wp (d + 1) 81 70 ls [.ref b, .ref a] h Q ↔ (mm_s h a).1 = 6 ∧ mm_wp d 76 0 [.ref a, .ref b] [] h (mm_bk (d + 1) 81 70 ls [] Q) := wp_virtual rfl rfl ⟨by decide, rfl⟩ ⟨Nat.le_of_ble_eq_true rfl, Nat.le_of_ble_eq_true rfl⟩ rfl rfl rfl rfl rfl rfl
theorem s81_73 : mm_wp d 81 73 ls (.int x :: st) h Q ↔ if x = 0 then mm_wp d 81 96 ls st h Q else mm_wp d 81 76 ls st h Q := wp_ifeq rfl rfl
theorem s81_76 : mm_wp d 81 76 [.ref a, l1, l2, l3] st h Q ↔ mm_wp d 81 77 [.ref a, l1, l2, l3] (.ref a :: st) h Q := wp_aloadR_n rfl rfl
theorem s81_77 : mm_wp d 81 77 ls (.ref a :: st) h Q ↔ (mm_s h a).1 = 7 ∧ mm_wp d 81 80 ls (mm_o (mm_r h a 0) :: st) h Q := wp_getR rfl rfl
theorem s81_80 : mm_wp d 81 80 [l0, l1, l2, .int x] st h Q ↔ mm_wp d 81 81 [l0, l1, l2, .int x] (.int x :: st) h Q := wp_iload_n rfl rfl
theorem s81_81 : mm_wp d 81 81 ls (.int x :: .ref a :: st) h Q ↔ (23 ≤ (mm_s h a).1 ∧ (mm_s h a).1 ≤ 26 ∧ mm_in x (mm_s h a).2 = true) ∧ mm_wp d 81 82 ls (mm_o (mm_r h a x.toNatClampNeg) :: st) h Q := wp_aaload rfl
theorem s81_82 : mm_wp d 81 82 ls (.ref a :: st) h Q ↔ mm_wp d 81 83 ls (.ref a :: .ref a :: st) h Q := wp_dupR rfl
theorem s81_83 : mm_wp d 81 83 ls (.ref a :: st) h Q ↔ (mm_s h a).1 = 6 ∧ mm_wp d 81 86 ls (.int (mm_i h a 15) :: st) h Q := wp_getI rfl rfl (by decide) (by decide)
theorem s81_86 : mm_wp d 81 86 [l0, l1, .int x, l3] st h Q ↔ mm_wp d 81 87 [l0, l1, .int x, l3] (.int x :: st) h Q := wp_iload_n rfl rfl
theorem s81_87 : mm_wp d 81 87 [l0, .ref a, l2, l3] st h Q ↔ mm_wp d 81 88 [l0, .ref a, l2, l3] (.ref a :: st) h Q := wp_aloadR_n rfl rfl
theorem s81_87o : mm_wp d 81 87 [l0, mm_o o, l2, l3] st h Q ↔ mm_wp d 81 88 [l0, mm_o o, l2, l3] (mm_o o :: st) h Q := wp_aload_n rfl o rfl
theorem s81_87n : mm_wp d 81 87 [l0, .null, l2, l3] st h Q ↔ mm_wp d 81 88 [l0, .null, l2, l3] (.null :: st) h Q := wp_aload_n rfl none rfl
theorem s81_88 : mm_wp d 81 88 ls (.ref a :: st) h Q ↔ (mm_s h a).1 = 6 ∧ mm_wp d 81 91 ls (.int (mm_i h a 12) :: st) h Q := wp_getI rfl rfl (by decide) (by decide)
theorem s81_91 : mm_wp d 81 91 ls (.int x2 :: .int x :: st) h Q ↔ mm_wp d 81 92 ls (.int (x * x2) :: st) h Q := wp_imul rfl
theorem s81_92 : mm_wp d 81 92 ls (.int x2 :: .int x :: st) h Q ↔ mm_wp d 81 93 ls (.int (x + x2) :: st) h Q := wp_iadd rfl
theorem s81_93 : mm_wp d 81 93 ls (.int x :: .ref a :: st) h Q ↔ (mm_s h a).1 = 6 ∧ mm_wp d 81 96 ls st (mm_pi h a 15 x) Q := wp_putI rfl rfl
theorem s81_96 : mm_wp d 81 96 [l0, l1, l2, .int x] st h Q ↔ mm_wp d 81 99 [l0, l1, l2, .int (x + (1 : Int32))] st h Q := wp_iinc rfl rfl rfl rfl
theorem s81_99 : mm_wp d 81 99 ls st h Q ↔ mm_wp d 81 55 ls st h Q := wp_goto rfl rfl
theorem s81_102 : mm_wp d 81 102 ls st h Q ↔ Q (.inl none) h := wp_vret rfl rfl
/-! 82: LoadRoom$Ends.grow(II)V -/
theorem s82_0 : mm_wp d 82 0 [l0, .int x, l2, l3, l4, l5, l6, l7, l8] st h Q ↔ mm_wp d 82 1 [l0, .int x, l2, l3, l4, l5, l6, l7, l8] (.int x :: st) h Q := wp_iload_n rfl rfl
theorem s82_1 : mm_wp d 82 1 ls (.int x :: st) h Q ↔ if x < 0 then mm_wp d 82 10 ls st h Q else mm_wp d 82 4 ls st h Q := wp_iflt rfl rfl
theorem s82_4 : mm_wp d 82 4 [l0, .int x, l2, l3, l4, l5, l6, l7, l8] st h Q ↔ mm_wp d 82 5 [l0, .int x, l2, l3, l4, l5, l6, l7, l8] (.int x :: st) h Q := wp_iload_n rfl rfl
theorem s82_5 : mm_wp d 82 5 ls st h Q ↔ mm_wp d 82 7 ls (.int (7 : Int32) :: st) h Q := wp_bipush rfl rfl
theorem s82_7 : mm_wp d 82 7 ls (.int x2 :: .int x :: st) h Q ↔ if x < x2 then mm_wp d 82 11 ls st h Q else mm_wp d 82 10 ls st h Q := wp_icmplt rfl rfl
theorem s82_10 : mm_wp d 82 10 ls st h Q ↔ Q (.inl none) h := wp_vret rfl rfl
theorem s82_11 : mm_wp d 82 11 [.ref a, l1, l2, l3, l4, l5, l6, l7, l8] st h Q ↔ mm_wp d 82 12 [.ref a, l1, l2, l3, l4, l5, l6, l7, l8] (.ref a :: st) h Q := wp_aloadR_n rfl rfl
theorem s82_12 : mm_wp d 82 12 ls (.ref a :: st) h Q ↔ (mm_s h a).1 = 3 ∧ mm_wp d 82 15 ls (mm_o (mm_r h a 0) :: st) h Q := wp_getR rfl rfl
theorem s82_15 : mm_wp d 82 15 [l0, .int x, l2, l3, l4, l5, l6, l7, l8] st h Q ↔ mm_wp d 82 16 [l0, .int x, l2, l3, l4, l5, l6, l7, l8] (.int x :: st) h Q := wp_iload_n rfl rfl
theorem s82_16 : mm_wp d 82 16 ls (.int x :: .ref a :: st) h Q ↔ (23 ≤ (mm_s h a).1 ∧ (mm_s h a).1 ≤ 26 ∧ mm_in x (mm_s h a).2 = true) ∧ mm_wp d 82 17 ls (mm_o (mm_r h a x.toNatClampNeg) :: st) h Q := wp_aaload rfl
theorem s82_17 : mm_wp d 82 17 [l0, l1, l2, l3, l4, l5, l6, l7, l8] (.ref a :: st) h Q ↔ mm_wp d 82 18 [l0, l1, l2, .ref a, l4, l5, l6, l7, l8] st h Q := wp_astoreR_n rfl rfl
theorem s82_17o : mm_wp d 82 17 [l0, l1, l2, l3, l4, l5, l6, l7, l8] (mm_o o :: st) h Q ↔ mm_wp d 82 18 [l0, l1, l2, mm_o o, l4, l5, l6, l7, l8] st h Q := wp_astore_n rfl o rfl
theorem s82_17n : mm_wp d 82 17 [l0, l1, l2, l3, l4, l5, l6, l7, l8] (.null :: st) h Q ↔ mm_wp d 82 18 [l0, l1, l2, .null, l4, l5, l6, l7, l8] st h Q := wp_astore_n rfl none rfl
theorem s82_18 : mm_wp d 82 18 [.ref a, l1, l2, l3, l4, l5, l6, l7, l8] st h Q ↔ mm_wp d 82 19 [.ref a, l1, l2, l3, l4, l5, l6, l7, l8] (.ref a :: st) h Q := wp_aloadR_n rfl rfl
theorem s82_19 : mm_wp d 82 19 ls (.ref a :: st) h Q ↔ (mm_s h a).1 = 3 ∧ mm_wp d 82 22 ls (mm_o (mm_r h a 0) :: st) h Q := wp_getR rfl rfl
theorem s82_22 : mm_wp d 82 22 [l0, .int x, l2, l3, l4, l5, l6, l7, l8] st h Q ↔ mm_wp d 82 23 [l0, .int x, l2, l3, l4, l5, l6, l7, l8] (.int x :: st) h Q := wp_iload_n rfl rfl
theorem s82_23 : mm_wp d 82 23 ls st h Q ↔ mm_wp d 82 24 ls (.int (1 : Int32) :: st) h Q := wp_iconst rfl rfl
theorem s82_24 : mm_wp d 82 24 ls (.int x2 :: .int x :: st) h Q ↔ mm_wp d 82 25 ls (.int (x + x2) :: st) h Q := wp_iadd rfl
theorem s82_25 : mm_wp d 82 25 ls (.int x :: .ref a :: st) h Q ↔ (23 ≤ (mm_s h a).1 ∧ (mm_s h a).1 ≤ 26 ∧ mm_in x (mm_s h a).2 = true) ∧ mm_wp d 82 26 ls (mm_o (mm_r h a x.toNatClampNeg) :: st) h Q := wp_aaload rfl
theorem s82_26 : mm_wp d 82 26 [l0, l1, l2, l3, l4, l5, l6, l7, l8] (.ref a :: st) h Q ↔ mm_wp d 82 28 [l0, l1, l2, l3, .ref a, l5, l6, l7, l8] st h Q := wp_astoreR rfl rfl
theorem s82_26o : mm_wp d 82 26 [l0, l1, l2, l3, l4, l5, l6, l7, l8] (mm_o o :: st) h Q ↔ mm_wp d 82 28 [l0, l1, l2, l3, mm_o o, l5, l6, l7, l8] st h Q := wp_astore rfl o rfl
theorem s82_26n : mm_wp d 82 26 [l0, l1, l2, l3, l4, l5, l6, l7, l8] (.null :: st) h Q ↔ mm_wp d 82 28 [l0, l1, l2, l3, .null, l5, l6, l7, l8] st h Q := wp_astore rfl none rfl
theorem s82_28 : mm_wp d 82 28 [.ref a, l1, l2, l3, l4, l5, l6, l7, l8] st h Q ↔ mm_wp d 82 29 [.ref a, l1, l2, l3, l4, l5, l6, l7, l8] (.ref a :: st) h Q := wp_aloadR_n rfl rfl
theorem s82_29 : mm_wp d 82 29 ls (.ref a :: st) h Q ↔ (mm_s h a).1 = 3 ∧ mm_wp d 82 32 ls (mm_o (mm_r h a 1) :: st) h Q := wp_getR rfl rfl
theorem s82_32 : mm_wp d 82 32 [l0, .int x, l2, l3, l4, l5, l6, l7, l8] st h Q ↔ mm_wp d 82 33 [l0, .int x, l2, l3, l4, l5, l6, l7, l8] (.int x :: st) h Q := wp_iload_n rfl rfl
theorem s82_33 : mm_wp d 82 33 ls (.int x :: .ref a :: st) h Q ↔ ((mm_s h a).1 = 20 ∧ mm_in x (mm_s h a).2 = true) ∧ mm_wp d 82 34 ls (.int (mm_i h a x.toNatClampNeg) :: st) h Q := wp_iaload rfl
theorem s82_34 : mm_wp d 82 34 ls st h Q ↔ mm_wp d 82 36 ls (.int (7 : Int32) :: st) h Q := wp_bipush rfl rfl
theorem s82_36 : mm_wp (d + 1) 82 36 ls [.int x2, .int x] h Q ↔ mm_wp d 3 0 [.int x, .int x2] [] h (mm_bk (d + 1) 82 36 ls [] Q) := wp_static rfl rfl ⟨by decide, rfl⟩ ⟨Nat.le_of_ble_eq_true rfl, Nat.le_of_ble_eq_true rfl⟩ rfl rfl rfl rfl
theorem s82_39 : mm_wp d 82 39 [l0, l1, l2, l3, l4, l5, l6, l7, l8] (.int x :: st) h Q ↔ mm_wp d 82 41 [l0, l1, l2, l3, l4, .int x, l6, l7, l8] st h Q := wp_istore rfl rfl
theorem s82_41 : mm_wp d 82 41 ls st h Q ↔ mm_wp d 82 42 ls (.int (0 : Int32) :: st) h Q := wp_iconst rfl rfl
theorem s82_42 : mm_wp d 82 42 [l0, l1, l2, l3, l4, l5, l6, l7, l8] (.int x :: st) h Q ↔ mm_wp d 82 44 [l0, l1, l2, l3, l4, l5, .int x, l7, l8] st h Q := wp_istore rfl rfl
theorem s82_44 : mm_wp d 82 44 [l0, l1, l2, l3, l4, l5, .int x, l7, l8] st h Q ↔ mm_wp d 82 46 [l0, l1, l2, l3, l4, l5, .int x, l7, l8] (.int x :: st) h Q := wp_iload rfl rfl
theorem s82_46 : mm_wp d 82 46 [l0, l1, l2, l3, l4, .int x, l6, l7, l8] st h Q ↔ mm_wp d 82 48 [l0, l1, l2, l3, l4, .int x, l6, l7, l8] (.int x :: st) h Q := wp_iload rfl rfl
theorem s82_48 : mm_wp d 82 48 ls (.int x2 :: .int x :: st) h Q ↔ if x2 ≤ x then mm_wp d 82 74 ls st h Q else mm_wp d 82 51 ls st h Q := wp_icmpge rfl rfl
theorem s82_51 : mm_wp d 82 51 [l0, l1, l2, .ref a, l4, l5, l6, l7, l8] st h Q ↔ mm_wp d 82 52 [l0, l1, l2, .ref a, l4, l5, l6, l7, l8] (.ref a :: st) h Q := wp_aloadR_n rfl rfl
theorem s82_51o : mm_wp d 82 51 [l0, l1, l2, mm_o o, l4, l5, l6, l7, l8] st h Q ↔ mm_wp d 82 52 [l0, l1, l2, mm_o o, l4, l5, l6, l7, l8] (mm_o o :: st) h Q := wp_aload_n rfl o rfl
theorem s82_51n : mm_wp d 82 51 [l0, l1, l2, .null, l4, l5, l6, l7, l8] st h Q ↔ mm_wp d 82 52 [l0, l1, l2, .null, l4, l5, l6, l7, l8] (.null :: st) h Q := wp_aload_n rfl none rfl
theorem s82_52 : mm_wp d 82 52 [l0, l1, l2, l3, l4, l5, .int x, l7, l8] st h Q ↔ mm_wp d 82 54 [l0, l1, l2, l3, l4, l5, .int x, l7, l8] (.int x :: st) h Q := wp_iload rfl rfl
theorem s82_54 : mm_wp d 82 54 ls (.int x :: .ref a :: st) h Q ↔ ((mm_s h a).1 = 20 ∧ mm_in x (mm_s h a).2 = true) ∧ mm_wp d 82 55 ls (.int (mm_i h a x.toNatClampNeg) :: st) h Q := wp_iaload rfl
theorem s82_55 : mm_wp d 82 55 [l0, l1, .int x, l3, l4, l5, l6, l7, l8] st h Q ↔ mm_wp d 82 56 [l0, l1, .int x, l3, l4, l5, l6, l7, l8] (.int x :: st) h Q := wp_iload_n rfl rfl
theorem s82_56 : mm_wp d 82 56 ls (.int x2 :: .int x :: st) h Q ↔ if x2 ≤ x then mm_wp d 82 74 ls st h Q else mm_wp d 82 59 ls st h Q := wp_icmpge rfl rfl
theorem s82_59 : mm_wp d 82 59 [l0, l1, l2, l3, .ref a, l5, l6, l7, l8] st h Q ↔ mm_wp d 82 61 [l0, l1, l2, l3, .ref a, l5, l6, l7, l8] (.ref a :: st) h Q := wp_aloadR rfl rfl
theorem s82_59o : mm_wp d 82 59 [l0, l1, l2, l3, mm_o o, l5, l6, l7, l8] st h Q ↔ mm_wp d 82 61 [l0, l1, l2, l3, mm_o o, l5, l6, l7, l8] (mm_o o :: st) h Q := wp_aload rfl o rfl
theorem s82_59n : mm_wp d 82 59 [l0, l1, l2, l3, .null, l5, l6, l7, l8] st h Q ↔ mm_wp d 82 61 [l0, l1, l2, l3, .null, l5, l6, l7, l8] (.null :: st) h Q := wp_aload rfl none rfl
theorem s82_61 : mm_wp d 82 61 [l0, l1, l2, l3, l4, l5, .int x, l7, l8] st h Q ↔ mm_wp d 82 63 [l0, l1, l2, l3, l4, l5, .int x, l7, l8] (.int x :: st) h Q := wp_iload rfl rfl
theorem s82_63 : mm_wp d 82 63 [l0, l1, l2, .ref a, l4, l5, l6, l7, l8] st h Q ↔ mm_wp d 82 64 [l0, l1, l2, .ref a, l4, l5, l6, l7, l8] (.ref a :: st) h Q := wp_aloadR_n rfl rfl
theorem s82_63o : mm_wp d 82 63 [l0, l1, l2, mm_o o, l4, l5, l6, l7, l8] st h Q ↔ mm_wp d 82 64 [l0, l1, l2, mm_o o, l4, l5, l6, l7, l8] (mm_o o :: st) h Q := wp_aload_n rfl o rfl
theorem s82_63n : mm_wp d 82 63 [l0, l1, l2, .null, l4, l5, l6, l7, l8] st h Q ↔ mm_wp d 82 64 [l0, l1, l2, .null, l4, l5, l6, l7, l8] (.null :: st) h Q := wp_aload_n rfl none rfl
theorem s82_64 : mm_wp d 82 64 [l0, l1, l2, l3, l4, l5, .int x, l7, l8] st h Q ↔ mm_wp d 82 66 [l0, l1, l2, l3, l4, l5, .int x, l7, l8] (.int x :: st) h Q := wp_iload rfl rfl
theorem s82_66 : mm_wp d 82 66 ls (.int x :: .ref a :: st) h Q ↔ ((mm_s h a).1 = 20 ∧ mm_in x (mm_s h a).2 = true) ∧ mm_wp d 82 67 ls (.int (mm_i h a x.toNatClampNeg) :: st) h Q := wp_iaload rfl
theorem s82_67 : mm_wp d 82 67 ls (.int x2 :: .int x :: .ref a :: st) h Q ↔ ((mm_s h a).1 = 20 ∧ ¬ a = 0 ∧ mm_in x (mm_s h a).2 = true) ∧ mm_wp d 82 68 ls st (mm_pi h a x.toNatClampNeg x2) Q := wp_iastore rfl
theorem s82_68 : mm_wp d 82 68 [l0, l1, l2, l3, l4, l5, .int x, l7, l8] st h Q ↔ mm_wp d 82 71 [l0, l1, l2, l3, l4, l5, .int (x + (1 : Int32)), l7, l8] st h Q := wp_iinc rfl rfl rfl rfl
theorem s82_71 : mm_wp d 82 71 ls st h Q ↔ mm_wp d 82 44 ls st h Q := wp_goto rfl rfl
theorem s82_74 : mm_wp d 82 74 [l0, l1, l2, l3, l4, l5, .int x, l7, l8] st h Q ↔ mm_wp d 82 76 [l0, l1, l2, l3, l4, l5, .int x, l7, l8] (.int x :: st) h Q := wp_iload rfl rfl
theorem s82_76 : mm_wp d 82 76 [l0, l1, l2, l3, l4, .int x, l6, l7, l8] st h Q ↔ mm_wp d 82 78 [l0, l1, l2, l3, l4, .int x, l6, l7, l8] (.int x :: st) h Q := wp_iload rfl rfl
theorem s82_78 : mm_wp d 82 78 ls (.int x2 :: .int x :: st) h Q ↔ if x2 ≤ x then mm_wp d 82 93 ls st h Q else mm_wp d 82 81 ls st h Q := wp_icmpge rfl rfl
theorem s82_81 : mm_wp d 82 81 [l0, l1, l2, .ref a, l4, l5, l6, l7, l8] st h Q ↔ mm_wp d 82 82 [l0, l1, l2, .ref a, l4, l5, l6, l7, l8] (.ref a :: st) h Q := wp_aloadR_n rfl rfl
theorem s82_81o : mm_wp d 82 81 [l0, l1, l2, mm_o o, l4, l5, l6, l7, l8] st h Q ↔ mm_wp d 82 82 [l0, l1, l2, mm_o o, l4, l5, l6, l7, l8] (mm_o o :: st) h Q := wp_aload_n rfl o rfl
theorem s82_81n : mm_wp d 82 81 [l0, l1, l2, .null, l4, l5, l6, l7, l8] st h Q ↔ mm_wp d 82 82 [l0, l1, l2, .null, l4, l5, l6, l7, l8] (.null :: st) h Q := wp_aload_n rfl none rfl
theorem s82_82 : mm_wp d 82 82 [l0, l1, l2, l3, l4, l5, .int x, l7, l8] st h Q ↔ mm_wp d 82 84 [l0, l1, l2, l3, l4, l5, .int x, l7, l8] (.int x :: st) h Q := wp_iload rfl rfl
theorem s82_84 : mm_wp d 82 84 ls (.int x :: .ref a :: st) h Q ↔ ((mm_s h a).1 = 20 ∧ mm_in x (mm_s h a).2 = true) ∧ mm_wp d 82 85 ls (.int (mm_i h a x.toNatClampNeg) :: st) h Q := wp_iaload rfl
theorem s82_85 : mm_wp d 82 85 [l0, l1, .int x, l3, l4, l5, l6, l7, l8] st h Q ↔ mm_wp d 82 86 [l0, l1, .int x, l3, l4, l5, l6, l7, l8] (.int x :: st) h Q := wp_iload_n rfl rfl
theorem s82_86 : mm_wp d 82 86 ls (.int x2 :: .int x :: st) h Q ↔ if x = x2 then mm_wp d 82 89 ls st h Q else mm_wp d 82 93 ls st h Q := wp_icmpne rfl rfl
theorem s82_89 : mm_wp d 82 89 ls st h Q ↔ mm_wp d 82 90 ls (.int (0 : Int32) :: st) h Q := wp_iconst rfl rfl
theorem s82_90 : mm_wp d 82 90 ls st h Q ↔ mm_wp d 82 94 ls st h Q := wp_goto rfl rfl
theorem s82_93 : mm_wp d 82 93 ls st h Q ↔ mm_wp d 82 94 ls (.int (1 : Int32) :: st) h Q := wp_iconst rfl rfl
theorem s82_94 : mm_wp d 82 94 [l0, l1, l2, l3, l4, l5, l6, l7, l8] (.int x :: st) h Q ↔ mm_wp d 82 96 [l0, l1, l2, l3, l4, l5, l6, .int x, l8] st h Q := wp_istore rfl rfl
theorem s82_96 : mm_wp d 82 96 [l0, l1, l2, l3, .ref a, l5, l6, l7, l8] st h Q ↔ mm_wp d 82 98 [l0, l1, l2, l3, .ref a, l5, l6, l7, l8] (.ref a :: st) h Q := wp_aloadR rfl rfl
theorem s82_96o : mm_wp d 82 96 [l0, l1, l2, l3, mm_o o, l5, l6, l7, l8] st h Q ↔ mm_wp d 82 98 [l0, l1, l2, l3, mm_o o, l5, l6, l7, l8] (mm_o o :: st) h Q := wp_aload rfl o rfl
theorem s82_96n : mm_wp d 82 96 [l0, l1, l2, l3, .null, l5, l6, l7, l8] st h Q ↔ mm_wp d 82 98 [l0, l1, l2, l3, .null, l5, l6, l7, l8] (.null :: st) h Q := wp_aload rfl none rfl
theorem s82_98 : mm_wp d 82 98 [l0, l1, l2, l3, l4, l5, .int x, l7, l8] st h Q ↔ mm_wp d 82 100 [l0, l1, l2, l3, l4, l5, .int x, l7, l8] (.int x :: st) h Q := wp_iload rfl rfl
theorem s82_100 : mm_wp d 82 100 [l0, l1, .int x, l3, l4, l5, l6, l7, l8] st h Q ↔ mm_wp d 82 101 [l0, l1, .int x, l3, l4, l5, l6, l7, l8] (.int x :: st) h Q := wp_iload_n rfl rfl
theorem s82_101 : mm_wp d 82 101 ls (.int x2 :: .int x :: .ref a :: st) h Q ↔ ((mm_s h a).1 = 20 ∧ ¬ a = 0 ∧ mm_in x (mm_s h a).2 = true) ∧ mm_wp d 82 102 ls st (mm_pi h a x.toNatClampNeg x2) Q := wp_iastore rfl
theorem s82_102 : mm_wp d 82 102 [l0, l1, l2, l3, l4, l5, .int x, l7, l8] st h Q ↔ mm_wp d 82 104 [l0, l1, l2, l3, l4, l5, .int x, l7, l8] (.int x :: st) h Q := wp_iload rfl rfl
theorem s82_104 : mm_wp d 82 104 [l0, l1, l2, l3, l4, l5, l6, l7, l8] (.int x :: st) h Q ↔ mm_wp d 82 106 [l0, l1, l2, l3, l4, l5, l6, l7, .int x] st h Q := wp_istore rfl rfl
theorem s82_106 : mm_wp d 82 106 [l0, l1, l2, l3, l4, l5, l6, l7, .int x] st h Q ↔ mm_wp d 82 108 [l0, l1, l2, l3, l4, l5, l6, l7, .int x] (.int x :: st) h Q := wp_iload rfl rfl
theorem s82_108 : mm_wp d 82 108 [l0, l1, l2, l3, l4, .int x, l6, l7, l8] st h Q ↔ mm_wp d 82 110 [l0, l1, l2, l3, l4, .int x, l6, l7, l8] (.int x :: st) h Q := wp_iload rfl rfl
theorem s82_110 : mm_wp d 82 110 ls (.int x2 :: .int x :: st) h Q ↔ if x2 ≤ x then mm_wp d 82 131 ls st h Q else mm_wp d 82 113 ls st h Q := wp_icmpge rfl rfl
theorem s82_113 : mm_wp d 82 113 [l0, l1, l2, l3, .ref a, l5, l6, l7, l8] st h Q ↔ mm_wp d 82 115 [l0, l1, l2, l3, .ref a, l5, l6, l7, l8] (.ref a :: st) h Q := wp_aloadR rfl rfl
theorem s82_113o : mm_wp d 82 113 [l0, l1, l2, l3, mm_o o, l5, l6, l7, l8] st h Q ↔ mm_wp d 82 115 [l0, l1, l2, l3, mm_o o, l5, l6, l7, l8] (mm_o o :: st) h Q := wp_aload rfl o rfl
theorem s82_113n : mm_wp d 82 113 [l0, l1, l2, l3, .null, l5, l6, l7, l8] st h Q ↔ mm_wp d 82 115 [l0, l1, l2, l3, .null, l5, l6, l7, l8] (.null :: st) h Q := wp_aload rfl none rfl
theorem s82_115 : mm_wp d 82 115 [l0, l1, l2, l3, l4, l5, l6, l7, .int x] st h Q ↔ mm_wp d 82 117 [l0, l1, l2, l3, l4, l5, l6, l7, .int x] (.int x :: st) h Q := wp_iload rfl rfl
theorem s82_117 : mm_wp d 82 117 [l0, l1, l2, l3, l4, l5, l6, .int x, l8] st h Q ↔ mm_wp d 82 119 [l0, l1, l2, l3, l4, l5, l6, .int x, l8] (.int x :: st) h Q := wp_iload rfl rfl
theorem s82_119 : mm_wp d 82 119 ls (.int x2 :: .int x :: st) h Q ↔ mm_wp d 82 120 ls (.int (x + x2) :: st) h Q := wp_iadd rfl
theorem s82_120 : mm_wp d 82 120 [l0, l1, l2, .ref a, l4, l5, l6, l7, l8] st h Q ↔ mm_wp d 82 121 [l0, l1, l2, .ref a, l4, l5, l6, l7, l8] (.ref a :: st) h Q := wp_aloadR_n rfl rfl
theorem s82_120o : mm_wp d 82 120 [l0, l1, l2, mm_o o, l4, l5, l6, l7, l8] st h Q ↔ mm_wp d 82 121 [l0, l1, l2, mm_o o, l4, l5, l6, l7, l8] (mm_o o :: st) h Q := wp_aload_n rfl o rfl
theorem s82_120n : mm_wp d 82 120 [l0, l1, l2, .null, l4, l5, l6, l7, l8] st h Q ↔ mm_wp d 82 121 [l0, l1, l2, .null, l4, l5, l6, l7, l8] (.null :: st) h Q := wp_aload_n rfl none rfl
theorem s82_121 : mm_wp d 82 121 [l0, l1, l2, l3, l4, l5, l6, l7, .int x] st h Q ↔ mm_wp d 82 123 [l0, l1, l2, l3, l4, l5, l6, l7, .int x] (.int x :: st) h Q := wp_iload rfl rfl
theorem s82_123 : mm_wp d 82 123 ls (.int x :: .ref a :: st) h Q ↔ ((mm_s h a).1 = 20 ∧ mm_in x (mm_s h a).2 = true) ∧ mm_wp d 82 124 ls (.int (mm_i h a x.toNatClampNeg) :: st) h Q := wp_iaload rfl
theorem s82_124 : mm_wp d 82 124 ls (.int x2 :: .int x :: .ref a :: st) h Q ↔ ((mm_s h a).1 = 20 ∧ ¬ a = 0 ∧ mm_in x (mm_s h a).2 = true) ∧ mm_wp d 82 125 ls st (mm_pi h a x.toNatClampNeg x2) Q := wp_iastore rfl
theorem s82_125 : mm_wp d 82 125 [l0, l1, l2, l3, l4, l5, l6, l7, .int x] st h Q ↔ mm_wp d 82 128 [l0, l1, l2, l3, l4, l5, l6, l7, .int (x + (1 : Int32))] st h Q := wp_iinc rfl rfl rfl rfl
theorem s82_128 : mm_wp d 82 128 ls st h Q ↔ mm_wp d 82 106 ls st h Q := wp_goto rfl rfl
theorem s82_131 : mm_wp d 82 131 [.ref a, l1, l2, l3, l4, l5, l6, l7, l8] st h Q ↔ mm_wp d 82 132 [.ref a, l1, l2, l3, l4, l5, l6, l7, l8] (.ref a :: st) h Q := wp_aloadR_n rfl rfl
theorem s82_132 : mm_wp d 82 132 ls (.ref a :: st) h Q ↔ (mm_s h a).1 = 3 ∧ mm_wp d 82 135 ls (mm_o (mm_r h a 1) :: st) h Q := wp_getR rfl rfl
theorem s82_135 : mm_wp d 82 135 [l0, .int x, l2, l3, l4, l5, l6, l7, l8] st h Q ↔ mm_wp d 82 136 [l0, .int x, l2, l3, l4, l5, l6, l7, l8] (.int x :: st) h Q := wp_iload_n rfl rfl
theorem s82_136 : mm_wp d 82 136 ls st h Q ↔ mm_wp d 82 137 ls (.int (1 : Int32) :: st) h Q := wp_iconst rfl rfl
theorem s82_137 : mm_wp d 82 137 ls (.int x2 :: .int x :: st) h Q ↔ mm_wp d 82 138 ls (.int (x + x2) :: st) h Q := wp_iadd rfl
theorem s82_138 : mm_wp d 82 138 [l0, l1, l2, l3, l4, .int x, l6, l7, l8] st h Q ↔ mm_wp d 82 140 [l0, l1, l2, l3, l4, .int x, l6, l7, l8] (.int x :: st) h Q := wp_iload rfl rfl
theorem s82_140 : mm_wp d 82 140 [l0, l1, l2, l3, l4, l5, l6, .int x, l8] st h Q ↔ mm_wp d 82 142 [l0, l1, l2, l3, l4, l5, l6, .int x, l8] (.int x :: st) h Q := wp_iload rfl rfl
theorem s82_142 : mm_wp d 82 142 ls (.int x2 :: .int x :: st) h Q ↔ mm_wp d 82 143 ls (.int (x + x2) :: st) h Q := wp_iadd rfl
theorem s82_143 : mm_wp d 82 143 ls (.int x2 :: .int x :: .ref a :: st) h Q ↔ ((mm_s h a).1 = 20 ∧ ¬ a = 0 ∧ mm_in x (mm_s h a).2 = true) ∧ mm_wp d 82 144 ls st (mm_pi h a x.toNatClampNeg x2) Q := wp_iastore rfl
theorem s82_144 : mm_wp d 82 144 ls st h Q ↔ Q (.inl none) h := wp_vret rfl rfl
/-! 83: LoadRoom$Row.isBetterThan(LLoadRoom$Row;)Z -/
theorem s83_0 : mm_wp d 83 0 [.ref a, l1] st h Q ↔ mm_wp d 83 1 [.ref a, l1] (.ref a :: st) h Q := wp_aloadR_n rfl rfl
theorem s83_1 : mm_wp d 83 1 ls (.ref a :: st) h Q ↔ (mm_s h a).1 = 7 ∧ mm_wp d 83 4 ls (.int (mm_i h a 2) :: st) h Q := wp_getI rfl rfl (by decide) (by decide)
theorem s83_4 : mm_wp d 83 4 [l0, .ref a] st h Q ↔ mm_wp d 83 5 [l0, .ref a] (.ref a :: st) h Q := wp_aloadR_n rfl rfl
theorem s83_4o : mm_wp d 83 4 [l0, mm_o o] st h Q ↔ mm_wp d 83 5 [l0, mm_o o] (mm_o o :: st) h Q := wp_aload_n rfl o rfl
theorem s83_4n : mm_wp d 83 4 [l0, .null] st h Q ↔ mm_wp d 83 5 [l0, .null] (.null :: st) h Q := wp_aload_n rfl none rfl
theorem s83_5 : mm_wp d 83 5 ls (.ref a :: st) h Q ↔ (mm_s h a).1 = 7 ∧ mm_wp d 83 8 ls (.int (mm_i h a 2) :: st) h Q := wp_getI rfl rfl (by decide) (by decide)
theorem s83_8 : mm_wp d 83 8 ls (.int x2 :: .int x :: st) h Q ↔ if x = x2 then mm_wp d 83 30 ls st h Q else mm_wp d 83 11 ls st h Q := wp_icmpeq rfl rfl
theorem s83_11 : mm_wp d 83 11 [.ref a, l1] st h Q ↔ mm_wp d 83 12 [.ref a, l1] (.ref a :: st) h Q := wp_aloadR_n rfl rfl
theorem s83_12 : mm_wp d 83 12 ls (.ref a :: st) h Q ↔ (mm_s h a).1 = 7 ∧ mm_wp d 83 15 ls (.int (mm_i h a 2) :: st) h Q := wp_getI rfl rfl (by decide) (by decide)
theorem s83_15 : mm_wp d 83 15 [l0, .ref a] st h Q ↔ mm_wp d 83 16 [l0, .ref a] (.ref a :: st) h Q := wp_aloadR_n rfl rfl
theorem s83_15o : mm_wp d 83 15 [l0, mm_o o] st h Q ↔ mm_wp d 83 16 [l0, mm_o o] (mm_o o :: st) h Q := wp_aload_n rfl o rfl
theorem s83_15n : mm_wp d 83 15 [l0, .null] st h Q ↔ mm_wp d 83 16 [l0, .null] (.null :: st) h Q := wp_aload_n rfl none rfl
theorem s83_16 : mm_wp d 83 16 ls (.ref a :: st) h Q ↔ (mm_s h a).1 = 7 ∧ mm_wp d 83 19 ls (.int (mm_i h a 2) :: st) h Q := wp_getI rfl rfl (by decide) (by decide)
theorem s83_19 : mm_wp d 83 19 ls (.int x2 :: .int x :: st) h Q ↔ if x ≤ x2 then mm_wp d 83 26 ls st h Q else mm_wp d 83 22 ls st h Q := wp_icmple rfl rfl
theorem s83_22 : mm_wp d 83 22 ls st h Q ↔ mm_wp d 83 23 ls (.int (1 : Int32) :: st) h Q := wp_iconst rfl rfl
theorem s83_23 : mm_wp d 83 23 ls st h Q ↔ mm_wp d 83 47 ls st h Q := wp_goto rfl rfl
theorem s83_26 : mm_wp d 83 26 ls st h Q ↔ mm_wp d 83 27 ls (.int (0 : Int32) :: st) h Q := wp_iconst rfl rfl
theorem s83_27 : mm_wp d 83 27 ls st h Q ↔ mm_wp d 83 47 ls st h Q := wp_goto rfl rfl
theorem s83_30 : mm_wp d 83 30 [.ref a, l1] st h Q ↔ mm_wp d 83 31 [.ref a, l1] (.ref a :: st) h Q := wp_aloadR_n rfl rfl
theorem s83_31 : mm_wp d 83 31 ls (.ref a :: st) h Q ↔ (mm_s h a).1 = 7 ∧ mm_wp d 83 34 ls (.long (mm_l h a 3) :: st) h Q := wp_getL rfl rfl
theorem s83_34 : mm_wp d 83 34 [l0, .ref a] st h Q ↔ mm_wp d 83 35 [l0, .ref a] (.ref a :: st) h Q := wp_aloadR_n rfl rfl
theorem s83_34o : mm_wp d 83 34 [l0, mm_o o] st h Q ↔ mm_wp d 83 35 [l0, mm_o o] (mm_o o :: st) h Q := wp_aload_n rfl o rfl
theorem s83_34n : mm_wp d 83 34 [l0, .null] st h Q ↔ mm_wp d 83 35 [l0, .null] (.null :: st) h Q := wp_aload_n rfl none rfl
theorem s83_35 : mm_wp d 83 35 ls (.ref a :: st) h Q ↔ (mm_s h a).1 = 7 ∧ mm_wp d 83 38 ls (.long (mm_l h a 3) :: st) h Q := wp_getL rfl rfl
theorem s83_38 : mm_wp d 83 38 ls (.long w2 :: .long w :: st) h Q ↔ mm_wp d 83 39 ls (.int (if w2 < w then 1 else if w = w2 then 0 else -1) :: st) h Q := wp_lcmp rfl
theorem s83_39 : mm_wp d 83 39 ls (.int x :: st) h Q ↔ if 0 ≤ x then mm_wp d 83 46 ls st h Q else mm_wp d 83 42 ls st h Q := wp_ifge rfl rfl
theorem s83_42 : mm_wp d 83 42 ls st h Q ↔ mm_wp d 83 43 ls (.int (1 : Int32) :: st) h Q := wp_iconst rfl rfl
theorem s83_43 : mm_wp d 83 43 ls st h Q ↔ mm_wp d 83 47 ls st h Q := wp_goto rfl rfl
theorem s83_46 : mm_wp d 83 46 ls st h Q ↔ mm_wp d 83 47 ls (.int (0 : Int32) :: st) h Q := wp_iconst rfl rfl
theorem s83_47 : mm_wp d 83 47 ls (.int x :: st) h Q ↔ (x = 0 ∨ x = 1) ∧ Q (.inl (some (.int x))) h := wp_zret rfl rfl
/-! 84: LoadRoom$Row.copy(LLoadRoom$Row;)V -/
theorem s84_0 : mm_wp d 84 0 ls st h Q ↔ mm_wp d 84 1 ls (.int (0 : Int32) :: st) h Q := wp_iconst rfl rfl
theorem s84_1 : mm_wp d 84 1 [l0, l1, l2] (.int x :: st) h Q ↔ mm_wp d 84 2 [l0, l1, .int x] st h Q := wp_istore_n rfl rfl
theorem s84_2 : mm_wp d 84 2 [l0, l1, .int x] st h Q ↔ mm_wp d 84 3 [l0, l1, .int x] (.int x :: st) h Q := wp_iload_n rfl rfl
theorem s84_3 : mm_wp d 84 3 [l0, .ref a, l2] st h Q ↔ mm_wp d 84 4 [l0, .ref a, l2] (.ref a :: st) h Q := wp_aloadR_n rfl rfl
theorem s84_3o : mm_wp d 84 3 [l0, mm_o o, l2] st h Q ↔ mm_wp d 84 4 [l0, mm_o o, l2] (mm_o o :: st) h Q := wp_aload_n rfl o rfl
theorem s84_3n : mm_wp d 84 3 [l0, .null, l2] st h Q ↔ mm_wp d 84 4 [l0, .null, l2] (.null :: st) h Q := wp_aload_n rfl none rfl
theorem s84_4 : mm_wp d 84 4 ls (.ref a :: st) h Q ↔ (mm_s h a).1 = 7 ∧ mm_wp d 84 7 ls (.int (mm_i h a 1) :: st) h Q := wp_getI rfl rfl (by decide) (by decide)
theorem s84_7 : mm_wp d 84 7 ls (.int x2 :: .int x :: st) h Q ↔ if x2 ≤ x then mm_wp d 84 31 ls st h Q else mm_wp d 84 10 ls st h Q := wp_icmpge rfl rfl
theorem s84_10 : mm_wp d 84 10 [.ref a, l1, l2] st h Q ↔ mm_wp d 84 11 [.ref a, l1, l2] (.ref a :: st) h Q := wp_aloadR_n rfl rfl
theorem s84_11 : mm_wp d 84 11 ls (.ref a :: st) h Q ↔ (mm_s h a).1 = 7 ∧ mm_wp d 84 14 ls (mm_o (mm_r h a 0) :: st) h Q := wp_getR rfl rfl
theorem s84_14 : mm_wp d 84 14 [l0, l1, .int x] st h Q ↔ mm_wp d 84 15 [l0, l1, .int x] (.int x :: st) h Q := wp_iload_n rfl rfl
theorem s84_15 : mm_wp d 84 15 ls (.int x :: .ref a :: st) h Q ↔ (23 ≤ (mm_s h a).1 ∧ (mm_s h a).1 ≤ 26 ∧ mm_in x (mm_s h a).2 = true) ∧ mm_wp d 84 16 ls (mm_o (mm_r h a x.toNatClampNeg) :: st) h Q := wp_aaload rfl
theorem s84_16 : mm_wp d 84 16 [l0, .ref a, l2] st h Q ↔ mm_wp d 84 17 [l0, .ref a, l2] (.ref a :: st) h Q := wp_aloadR_n rfl rfl
theorem s84_16o : mm_wp d 84 16 [l0, mm_o o, l2] st h Q ↔ mm_wp d 84 17 [l0, mm_o o, l2] (mm_o o :: st) h Q := wp_aload_n rfl o rfl
theorem s84_16n : mm_wp d 84 16 [l0, .null, l2] st h Q ↔ mm_wp d 84 17 [l0, .null, l2] (.null :: st) h Q := wp_aload_n rfl none rfl
theorem s84_17 : mm_wp d 84 17 ls (.ref a :: st) h Q ↔ (mm_s h a).1 = 7 ∧ mm_wp d 84 20 ls (mm_o (mm_r h a 0) :: st) h Q := wp_getR rfl rfl
theorem s84_20 : mm_wp d 84 20 [l0, l1, .int x] st h Q ↔ mm_wp d 84 21 [l0, l1, .int x] (.int x :: st) h Q := wp_iload_n rfl rfl
theorem s84_21 : mm_wp d 84 21 ls (.int x :: .ref a :: st) h Q ↔ (23 ≤ (mm_s h a).1 ∧ (mm_s h a).1 ≤ 26 ∧ mm_in x (mm_s h a).2 = true) ∧ mm_wp d 84 22 ls (mm_o (mm_r h a x.toNatClampNeg) :: st) h Q := wp_aaload rfl
theorem s84_22 : mm_wp (d + 1) 84 22 ls [.ref b, .ref a] h Q ↔ (mm_s h a).1 = 6 ∧ mm_wp d 85 0 [.ref a, .ref b] [] h (mm_bk (d + 1) 84 22 ls [] Q) := wp_virtual rfl rfl ⟨by decide, rfl⟩ ⟨Nat.le_of_ble_eq_true rfl, Nat.le_of_ble_eq_true rfl⟩ rfl rfl rfl rfl rfl rfl
theorem s84_25 : mm_wp d 84 25 [l0, l1, .int x] st h Q ↔ mm_wp d 84 28 [l0, l1, .int (x + (1 : Int32))] st h Q := wp_iinc rfl rfl rfl rfl
theorem s84_28 : mm_wp d 84 28 ls st h Q ↔ mm_wp d 84 2 ls st h Q := wp_goto rfl rfl
theorem s84_31 : mm_wp d 84 31 [.ref a, l1, l2] st h Q ↔ mm_wp d 84 32 [.ref a, l1, l2] (.ref a :: st) h Q := wp_aloadR_n rfl rfl
theorem s84_32 : mm_wp d 84 32 [l0, .ref a, l2] st h Q ↔ mm_wp d 84 33 [l0, .ref a, l2] (.ref a :: st) h Q := wp_aloadR_n rfl rfl
theorem s84_32o : mm_wp d 84 32 [l0, mm_o o, l2] st h Q ↔ mm_wp d 84 33 [l0, mm_o o, l2] (mm_o o :: st) h Q := wp_aload_n rfl o rfl
theorem s84_32n : mm_wp d 84 32 [l0, .null, l2] st h Q ↔ mm_wp d 84 33 [l0, .null, l2] (.null :: st) h Q := wp_aload_n rfl none rfl
theorem s84_33 : mm_wp d 84 33 ls (.ref a :: st) h Q ↔ (mm_s h a).1 = 7 ∧ mm_wp d 84 36 ls (.int (mm_i h a 1) :: st) h Q := wp_getI rfl rfl (by decide) (by decide)
theorem s84_36 : mm_wp d 84 36 ls (.int x :: .ref a :: st) h Q ↔ (mm_s h a).1 = 7 ∧ mm_wp d 84 39 ls st (mm_pi h a 1 x) Q := wp_putI rfl rfl
theorem s84_39 : mm_wp d 84 39 [.ref a, l1, l2] st h Q ↔ mm_wp d 84 40 [.ref a, l1, l2] (.ref a :: st) h Q := wp_aloadR_n rfl rfl
theorem s84_40 : mm_wp d 84 40 [l0, .ref a, l2] st h Q ↔ mm_wp d 84 41 [l0, .ref a, l2] (.ref a :: st) h Q := wp_aloadR_n rfl rfl
theorem s84_40o : mm_wp d 84 40 [l0, mm_o o, l2] st h Q ↔ mm_wp d 84 41 [l0, mm_o o, l2] (mm_o o :: st) h Q := wp_aload_n rfl o rfl
theorem s84_40n : mm_wp d 84 40 [l0, .null, l2] st h Q ↔ mm_wp d 84 41 [l0, .null, l2] (.null :: st) h Q := wp_aload_n rfl none rfl
theorem s84_41 : mm_wp d 84 41 ls (.ref a :: st) h Q ↔ (mm_s h a).1 = 7 ∧ mm_wp d 84 44 ls (.int (mm_i h a 2) :: st) h Q := wp_getI rfl rfl (by decide) (by decide)
theorem s84_44 : mm_wp d 84 44 ls (.int x :: .ref a :: st) h Q ↔ (mm_s h a).1 = 7 ∧ mm_wp d 84 47 ls st (mm_pi h a 2 x) Q := wp_putI rfl rfl
theorem s84_47 : mm_wp d 84 47 [.ref a, l1, l2] st h Q ↔ mm_wp d 84 48 [.ref a, l1, l2] (.ref a :: st) h Q := wp_aloadR_n rfl rfl
theorem s84_48 : mm_wp d 84 48 [l0, .ref a, l2] st h Q ↔ mm_wp d 84 49 [l0, .ref a, l2] (.ref a :: st) h Q := wp_aloadR_n rfl rfl
theorem s84_48o : mm_wp d 84 48 [l0, mm_o o, l2] st h Q ↔ mm_wp d 84 49 [l0, mm_o o, l2] (mm_o o :: st) h Q := wp_aload_n rfl o rfl
theorem s84_48n : mm_wp d 84 48 [l0, .null, l2] st h Q ↔ mm_wp d 84 49 [l0, .null, l2] (.null :: st) h Q := wp_aload_n rfl none rfl
theorem s84_49 : mm_wp d 84 49 ls (.ref a :: st) h Q ↔ (mm_s h a).1 = 7 ∧ mm_wp d 84 52 ls (.long (mm_l h a 3) :: st) h Q := wp_getL rfl rfl
theorem s84_52 : mm_wp d 84 52 ls (.long w :: .ref a :: st) h Q ↔ (mm_s h a).1 = 7 ∧ mm_wp d 84 55 ls st (mm_pl h a 3 w) Q := wp_putL rfl rfl
theorem s84_55 : mm_wp d 84 55 ls st h Q ↔ Q (.inl none) h := wp_vret rfl rfl
/-! 85: LoadRoom$Placed.copy(LLoadRoom$Placed;)V -/
theorem s85_0 : mm_wp d 85 0 [.ref a, l1] st h Q ↔ mm_wp d 85 1 [.ref a, l1] (.ref a :: st) h Q := wp_aloadR_n rfl rfl
theorem s85_1 : mm_wp d 85 1 [l0, .ref a] st h Q ↔ mm_wp d 85 2 [l0, .ref a] (.ref a :: st) h Q := wp_aloadR_n rfl rfl
theorem s85_1o : mm_wp d 85 1 [l0, mm_o o] st h Q ↔ mm_wp d 85 2 [l0, mm_o o] (mm_o o :: st) h Q := wp_aload_n rfl o rfl
theorem s85_1n : mm_wp d 85 1 [l0, .null] st h Q ↔ mm_wp d 85 2 [l0, .null] (.null :: st) h Q := wp_aload_n rfl none rfl
theorem s85_2 : mm_wp d 85 2 ls (.ref a :: st) h Q ↔ (mm_s h a).1 = 6 ∧ mm_wp d 85 5 ls (.int (mm_i h a 1) :: st) h Q := wp_getI rfl rfl (by decide) (by decide)
theorem s85_5 : mm_wp d 85 5 ls (.int x :: .ref a :: st) h Q ↔ (mm_s h a).1 = 6 ∧ mm_wp d 85 8 ls st (mm_pi h a 1 x) Q := wp_putI rfl rfl
theorem s85_8 : mm_wp d 85 8 [.ref a, l1] st h Q ↔ mm_wp d 85 9 [.ref a, l1] (.ref a :: st) h Q := wp_aloadR_n rfl rfl
theorem s85_9 : mm_wp d 85 9 [l0, .ref a] st h Q ↔ mm_wp d 85 10 [l0, .ref a] (.ref a :: st) h Q := wp_aloadR_n rfl rfl
theorem s85_9o : mm_wp d 85 9 [l0, mm_o o] st h Q ↔ mm_wp d 85 10 [l0, mm_o o] (mm_o o :: st) h Q := wp_aload_n rfl o rfl
theorem s85_9n : mm_wp d 85 9 [l0, .null] st h Q ↔ mm_wp d 85 10 [l0, .null] (.null :: st) h Q := wp_aload_n rfl none rfl
theorem s85_10 : mm_wp d 85 10 ls (.ref a :: st) h Q ↔ (mm_s h a).1 = 6 ∧ mm_wp d 85 13 ls (.int (mm_i h a 2) :: st) h Q := wp_getI rfl rfl (by decide) (by decide)
theorem s85_13 : mm_wp d 85 13 ls (.int x :: .ref a :: st) h Q ↔ (mm_s h a).1 = 6 ∧ mm_wp d 85 16 ls st (mm_pi h a 2 x) Q := wp_putI rfl rfl
theorem s85_16 : mm_wp d 85 16 [.ref a, l1] st h Q ↔ mm_wp d 85 17 [.ref a, l1] (.ref a :: st) h Q := wp_aloadR_n rfl rfl
theorem s85_17 : mm_wp d 85 17 [l0, .ref a] st h Q ↔ mm_wp d 85 18 [l0, .ref a] (.ref a :: st) h Q := wp_aloadR_n rfl rfl
theorem s85_17o : mm_wp d 85 17 [l0, mm_o o] st h Q ↔ mm_wp d 85 18 [l0, mm_o o] (mm_o o :: st) h Q := wp_aload_n rfl o rfl
theorem s85_17n : mm_wp d 85 17 [l0, .null] st h Q ↔ mm_wp d 85 18 [l0, .null] (.null :: st) h Q := wp_aload_n rfl none rfl
theorem s85_18 : mm_wp d 85 18 ls (.ref a :: st) h Q ↔ (mm_s h a).1 = 6 ∧ mm_wp d 85 21 ls (.int (mm_i h a 3) :: st) h Q := wp_getI rfl rfl (by decide) (by decide)
theorem s85_21 : mm_wp d 85 21 ls (.int x :: .ref a :: st) h Q ↔ (mm_s h a).1 = 6 ∧ mm_wp d 85 24 ls st (mm_pi h a 3 x) Q := wp_putI rfl rfl
theorem s85_24 : mm_wp d 85 24 [.ref a, l1] st h Q ↔ mm_wp d 85 25 [.ref a, l1] (.ref a :: st) h Q := wp_aloadR_n rfl rfl
theorem s85_25 : mm_wp d 85 25 [l0, .ref a] st h Q ↔ mm_wp d 85 26 [l0, .ref a] (.ref a :: st) h Q := wp_aloadR_n rfl rfl
theorem s85_25o : mm_wp d 85 25 [l0, mm_o o] st h Q ↔ mm_wp d 85 26 [l0, mm_o o] (mm_o o :: st) h Q := wp_aload_n rfl o rfl
theorem s85_25n : mm_wp d 85 25 [l0, .null] st h Q ↔ mm_wp d 85 26 [l0, .null] (.null :: st) h Q := wp_aload_n rfl none rfl
theorem s85_26 : mm_wp d 85 26 ls (.ref a :: st) h Q ↔ (mm_s h a).1 = 6 ∧ mm_wp d 85 29 ls (.int (mm_i h a 4) :: st) h Q := wp_getI rfl rfl (by decide) (by decide)
theorem s85_29 : mm_wp d 85 29 ls (.int x :: .ref a :: st) h Q ↔ (mm_s h a).1 = 6 ∧ mm_wp d 85 32 ls st (mm_pi h a 4 x) Q := wp_putI rfl rfl
theorem s85_32 : mm_wp d 85 32 [.ref a, l1] st h Q ↔ mm_wp d 85 33 [.ref a, l1] (.ref a :: st) h Q := wp_aloadR_n rfl rfl
theorem s85_33 : mm_wp d 85 33 [l0, .ref a] st h Q ↔ mm_wp d 85 34 [l0, .ref a] (.ref a :: st) h Q := wp_aloadR_n rfl rfl
theorem s85_33o : mm_wp d 85 33 [l0, mm_o o] st h Q ↔ mm_wp d 85 34 [l0, mm_o o] (mm_o o :: st) h Q := wp_aload_n rfl o rfl
theorem s85_33n : mm_wp d 85 33 [l0, .null] st h Q ↔ mm_wp d 85 34 [l0, .null] (.null :: st) h Q := wp_aload_n rfl none rfl
theorem s85_34 : mm_wp d 85 34 ls (.ref a :: st) h Q ↔ (mm_s h a).1 = 6 ∧ mm_wp d 85 37 ls (.int (mm_i h a 5) :: st) h Q := wp_getI rfl rfl (by decide) (by decide)
theorem s85_37 : mm_wp d 85 37 ls (.int x :: .ref a :: st) h Q ↔ (mm_s h a).1 = 6 ∧ mm_wp d 85 40 ls st (mm_pi h a 5 x) Q := wp_putI rfl rfl
theorem s85_40 : mm_wp d 85 40 [.ref a, l1] st h Q ↔ mm_wp d 85 41 [.ref a, l1] (.ref a :: st) h Q := wp_aloadR_n rfl rfl
theorem s85_41 : mm_wp d 85 41 [l0, .ref a] st h Q ↔ mm_wp d 85 42 [l0, .ref a] (.ref a :: st) h Q := wp_aloadR_n rfl rfl
theorem s85_41o : mm_wp d 85 41 [l0, mm_o o] st h Q ↔ mm_wp d 85 42 [l0, mm_o o] (mm_o o :: st) h Q := wp_aload_n rfl o rfl
theorem s85_41n : mm_wp d 85 41 [l0, .null] st h Q ↔ mm_wp d 85 42 [l0, .null] (.null :: st) h Q := wp_aload_n rfl none rfl
theorem s85_42 : mm_wp d 85 42 ls (.ref a :: st) h Q ↔ (mm_s h a).1 = 6 ∧ mm_wp d 85 45 ls (.int (mm_i h a 6) :: st) h Q := wp_getI rfl rfl (by decide) (by decide)
theorem s85_45 : mm_wp d 85 45 ls (.int x :: .ref a :: st) h Q ↔ (mm_s h a).1 = 6 ∧ mm_wp d 85 48 ls st (mm_pi h a 6 x) Q := wp_putI rfl rfl
theorem s85_48 : mm_wp d 85 48 [.ref a, l1] st h Q ↔ mm_wp d 85 49 [.ref a, l1] (.ref a :: st) h Q := wp_aloadR_n rfl rfl
theorem s85_49 : mm_wp d 85 49 [l0, .ref a] st h Q ↔ mm_wp d 85 50 [l0, .ref a] (.ref a :: st) h Q := wp_aloadR_n rfl rfl
theorem s85_49o : mm_wp d 85 49 [l0, mm_o o] st h Q ↔ mm_wp d 85 50 [l0, mm_o o] (mm_o o :: st) h Q := wp_aload_n rfl o rfl
theorem s85_49n : mm_wp d 85 49 [l0, .null] st h Q ↔ mm_wp d 85 50 [l0, .null] (.null :: st) h Q := wp_aload_n rfl none rfl
theorem s85_50 : mm_wp d 85 50 ls (.ref a :: st) h Q ↔ (mm_s h a).1 = 6 ∧ mm_wp d 85 53 ls (.int (mm_i h a 7) :: st) h Q := wp_getI rfl rfl (by decide) (by decide)
theorem s85_53 : mm_wp d 85 53 ls (.int x :: .ref a :: st) h Q ↔ (mm_s h a).1 = 6 ∧ mm_wp d 85 56 ls st (mm_pi h a 7 x) Q := wp_putI rfl rfl
theorem s85_56 : mm_wp d 85 56 [.ref a, l1] st h Q ↔ mm_wp d 85 57 [.ref a, l1] (.ref a :: st) h Q := wp_aloadR_n rfl rfl
theorem s85_57 : mm_wp d 85 57 [l0, .ref a] st h Q ↔ mm_wp d 85 58 [l0, .ref a] (.ref a :: st) h Q := wp_aloadR_n rfl rfl
theorem s85_57o : mm_wp d 85 57 [l0, mm_o o] st h Q ↔ mm_wp d 85 58 [l0, mm_o o] (mm_o o :: st) h Q := wp_aload_n rfl o rfl
theorem s85_57n : mm_wp d 85 57 [l0, .null] st h Q ↔ mm_wp d 85 58 [l0, .null] (.null :: st) h Q := wp_aload_n rfl none rfl
theorem s85_58 : mm_wp d 85 58 ls (.ref a :: st) h Q ↔ (mm_s h a).1 = 6 ∧ mm_wp d 85 61 ls (.int (mm_i h a 8) :: st) h Q := wp_getI rfl rfl (by decide) (by decide)
theorem s85_61 : mm_wp d 85 61 ls (.int x :: .ref a :: st) h Q ↔ (mm_s h a).1 = 6 ∧ mm_wp d 85 64 ls st (mm_pi h a 8 x) Q := wp_putI rfl rfl
theorem s85_64 : mm_wp d 85 64 [.ref a, l1] st h Q ↔ mm_wp d 85 65 [.ref a, l1] (.ref a :: st) h Q := wp_aloadR_n rfl rfl
theorem s85_65 : mm_wp d 85 65 [l0, .ref a] st h Q ↔ mm_wp d 85 66 [l0, .ref a] (.ref a :: st) h Q := wp_aloadR_n rfl rfl
theorem s85_65o : mm_wp d 85 65 [l0, mm_o o] st h Q ↔ mm_wp d 85 66 [l0, mm_o o] (mm_o o :: st) h Q := wp_aload_n rfl o rfl
theorem s85_65n : mm_wp d 85 65 [l0, .null] st h Q ↔ mm_wp d 85 66 [l0, .null] (.null :: st) h Q := wp_aload_n rfl none rfl
theorem s85_66 : mm_wp d 85 66 ls (.ref a :: st) h Q ↔ (mm_s h a).1 = 6 ∧ mm_wp d 85 69 ls (.int (mm_i h a 9) :: st) h Q := wp_getI rfl rfl (by decide) (by decide)
theorem s85_69 : mm_wp d 85 69 ls (.int x :: .ref a :: st) h Q ↔ (mm_s h a).1 = 6 ∧ mm_wp d 85 72 ls st (mm_pi h a 9 x) Q := wp_putI rfl rfl
theorem s85_72 : mm_wp d 85 72 [.ref a, l1] st h Q ↔ mm_wp d 85 73 [.ref a, l1] (.ref a :: st) h Q := wp_aloadR_n rfl rfl
theorem s85_73 : mm_wp d 85 73 [l0, .ref a] st h Q ↔ mm_wp d 85 74 [l0, .ref a] (.ref a :: st) h Q := wp_aloadR_n rfl rfl
theorem s85_73o : mm_wp d 85 73 [l0, mm_o o] st h Q ↔ mm_wp d 85 74 [l0, mm_o o] (mm_o o :: st) h Q := wp_aload_n rfl o rfl
theorem s85_73n : mm_wp d 85 73 [l0, .null] st h Q ↔ mm_wp d 85 74 [l0, .null] (.null :: st) h Q := wp_aload_n rfl none rfl
theorem s85_74 : mm_wp d 85 74 ls (.ref a :: st) h Q ↔ (mm_s h a).1 = 6 ∧ mm_wp d 85 77 ls (.int (mm_i h a 10) :: st) h Q := wp_getI rfl rfl (by decide) (by decide)
theorem s85_77 : mm_wp d 85 77 ls (.int x :: .ref a :: st) h Q ↔ (mm_s h a).1 = 6 ∧ mm_wp d 85 80 ls st (mm_pi h a 10 x) Q := wp_putI rfl rfl
theorem s85_80 : mm_wp d 85 80 [.ref a, l1] st h Q ↔ mm_wp d 85 81 [.ref a, l1] (.ref a :: st) h Q := wp_aloadR_n rfl rfl
theorem s85_81 : mm_wp d 85 81 [l0, .ref a] st h Q ↔ mm_wp d 85 82 [l0, .ref a] (.ref a :: st) h Q := wp_aloadR_n rfl rfl
theorem s85_81o : mm_wp d 85 81 [l0, mm_o o] st h Q ↔ mm_wp d 85 82 [l0, mm_o o] (mm_o o :: st) h Q := wp_aload_n rfl o rfl
theorem s85_81n : mm_wp d 85 81 [l0, .null] st h Q ↔ mm_wp d 85 82 [l0, .null] (.null :: st) h Q := wp_aload_n rfl none rfl
theorem s85_82 : mm_wp d 85 82 ls (.ref a :: st) h Q ↔ (mm_s h a).1 = 6 ∧ mm_wp d 85 85 ls (.int (mm_i h a 11) :: st) h Q := wp_getI rfl rfl (by decide) (by decide)
theorem s85_85 : mm_wp d 85 85 ls (.int x :: .ref a :: st) h Q ↔ (mm_s h a).1 = 6 ∧ mm_wp d 85 88 ls st (mm_pi h a 11 x) Q := wp_putI rfl rfl
theorem s85_88 : mm_wp d 85 88 [.ref a, l1] st h Q ↔ mm_wp d 85 89 [.ref a, l1] (.ref a :: st) h Q := wp_aloadR_n rfl rfl
theorem s85_89 : mm_wp d 85 89 [l0, .ref a] st h Q ↔ mm_wp d 85 90 [l0, .ref a] (.ref a :: st) h Q := wp_aloadR_n rfl rfl
theorem s85_89o : mm_wp d 85 89 [l0, mm_o o] st h Q ↔ mm_wp d 85 90 [l0, mm_o o] (mm_o o :: st) h Q := wp_aload_n rfl o rfl
theorem s85_89n : mm_wp d 85 89 [l0, .null] st h Q ↔ mm_wp d 85 90 [l0, .null] (.null :: st) h Q := wp_aload_n rfl none rfl
theorem s85_90 : mm_wp d 85 90 ls (.ref a :: st) h Q ↔ (mm_s h a).1 = 6 ∧ mm_wp d 85 93 ls (.int (mm_i h a 12) :: st) h Q := wp_getI rfl rfl (by decide) (by decide)
theorem s85_93 : mm_wp d 85 93 ls (.int x :: .ref a :: st) h Q ↔ (mm_s h a).1 = 6 ∧ mm_wp d 85 96 ls st (mm_pi h a 12 x) Q := wp_putI rfl rfl
theorem s85_96 : mm_wp d 85 96 [.ref a, l1] st h Q ↔ mm_wp d 85 97 [.ref a, l1] (.ref a :: st) h Q := wp_aloadR_n rfl rfl
theorem s85_97 : mm_wp d 85 97 [l0, .ref a] st h Q ↔ mm_wp d 85 98 [l0, .ref a] (.ref a :: st) h Q := wp_aloadR_n rfl rfl
theorem s85_97o : mm_wp d 85 97 [l0, mm_o o] st h Q ↔ mm_wp d 85 98 [l0, mm_o o] (mm_o o :: st) h Q := wp_aload_n rfl o rfl
theorem s85_97n : mm_wp d 85 97 [l0, .null] st h Q ↔ mm_wp d 85 98 [l0, .null] (.null :: st) h Q := wp_aload_n rfl none rfl
theorem s85_98 : mm_wp d 85 98 ls (.ref a :: st) h Q ↔ (mm_s h a).1 = 6 ∧ mm_wp d 85 101 ls (.int (mm_i h a 13) :: st) h Q := wp_getI rfl rfl (by decide) (by decide)
theorem s85_101 : mm_wp d 85 101 ls (.int x :: .ref a :: st) h Q ↔ (mm_s h a).1 = 6 ∧ mm_wp d 85 104 ls st (mm_pi h a 13 x) Q := wp_putI rfl rfl
theorem s85_104 : mm_wp d 85 104 [.ref a, l1] st h Q ↔ mm_wp d 85 105 [.ref a, l1] (.ref a :: st) h Q := wp_aloadR_n rfl rfl
theorem s85_105 : mm_wp d 85 105 [l0, .ref a] st h Q ↔ mm_wp d 85 106 [l0, .ref a] (.ref a :: st) h Q := wp_aloadR_n rfl rfl
theorem s85_105o : mm_wp d 85 105 [l0, mm_o o] st h Q ↔ mm_wp d 85 106 [l0, mm_o o] (mm_o o :: st) h Q := wp_aload_n rfl o rfl
theorem s85_105n : mm_wp d 85 105 [l0, .null] st h Q ↔ mm_wp d 85 106 [l0, .null] (.null :: st) h Q := wp_aload_n rfl none rfl
theorem s85_106 : mm_wp d 85 106 ls (.ref a :: st) h Q ↔ (mm_s h a).1 = 6 ∧ mm_wp d 85 109 ls (.int (mm_i h a 14) :: st) h Q := wp_getI rfl rfl (by decide) (by decide)
theorem s85_109 : mm_wp d 85 109 ls (.int x :: .ref a :: st) h Q ↔ (mm_s h a).1 = 6 ∧ mm_wp d 85 112 ls st (mm_pi h a 14 x) Q := wp_putI rfl rfl
theorem s85_112 : mm_wp d 85 112 [.ref a, l1] st h Q ↔ mm_wp d 85 113 [.ref a, l1] (.ref a :: st) h Q := wp_aloadR_n rfl rfl
theorem s85_113 : mm_wp d 85 113 [l0, .ref a] st h Q ↔ mm_wp d 85 114 [l0, .ref a] (.ref a :: st) h Q := wp_aloadR_n rfl rfl
theorem s85_113o : mm_wp d 85 113 [l0, mm_o o] st h Q ↔ mm_wp d 85 114 [l0, mm_o o] (mm_o o :: st) h Q := wp_aload_n rfl o rfl
theorem s85_113n : mm_wp d 85 113 [l0, .null] st h Q ↔ mm_wp d 85 114 [l0, .null] (.null :: st) h Q := wp_aload_n rfl none rfl
theorem s85_114 : mm_wp d 85 114 ls (.ref a :: st) h Q ↔ (mm_s h a).1 = 6 ∧ mm_wp d 85 117 ls (.int (mm_i h a 15) :: st) h Q := wp_getI rfl rfl (by decide) (by decide)
theorem s85_117 : mm_wp d 85 117 ls (.int x :: .ref a :: st) h Q ↔ (mm_s h a).1 = 6 ∧ mm_wp d 85 120 ls st (mm_pi h a 15 x) Q := wp_putI rfl rfl
theorem s85_120 : mm_wp d 85 120 ls st h Q ↔ Q (.inl none) h := wp_vret rfl rfl
/-! 86: LoadRoom$Row.shorten()V -/
theorem s86_0 : mm_wp d 86 0 [.ref a] st h Q ↔ mm_wp d 86 1 [.ref a] (.ref a :: st) h Q := wp_aloadR_n rfl rfl
theorem s86_1 : mm_wp d 86 1 ls (.ref a :: st) h Q ↔ (mm_s h a).1 = 7 ∧ mm_wp d 86 4 ls (.int (mm_i h a 1) :: st) h Q := wp_getI rfl rfl (by decide) (by decide)
theorem s86_4 : mm_wp d 86 4 ls (.int x :: st) h Q ↔ if x ≤ 0 then mm_wp d 86 31 ls st h Q else mm_wp d 86 7 ls st h Q := wp_ifle rfl rfl
theorem s86_7 : mm_wp d 86 7 [.ref a] st h Q ↔ mm_wp d 86 8 [.ref a] (.ref a :: st) h Q := wp_aloadR_n rfl rfl
theorem s86_8 : mm_wp d 86 8 ls (.ref a :: st) h Q ↔ mm_wp d 86 9 ls (.ref a :: .ref a :: st) h Q := wp_dupR rfl
theorem s86_9 : mm_wp d 86 9 ls (.ref a :: st) h Q ↔ (mm_s h a).1 = 7 ∧ mm_wp d 86 12 ls (.int (mm_i h a 1) :: st) h Q := wp_getI rfl rfl (by decide) (by decide)
theorem s86_12 : mm_wp d 86 12 ls st h Q ↔ mm_wp d 86 13 ls (.int (1 : Int32) :: st) h Q := wp_iconst rfl rfl
theorem s86_13 : mm_wp d 86 13 ls (.int x2 :: .int x :: st) h Q ↔ mm_wp d 86 14 ls (.int (x - x2) :: st) h Q := wp_isub rfl
theorem s86_14 : mm_wp d 86 14 ls (.int x :: .ref a :: st) h Q ↔ (mm_s h a).1 = 7 ∧ mm_wp d 86 17 ls st (mm_pi h a 1 x) Q := wp_putI rfl rfl
theorem s86_17 : mm_wp d 86 17 [.ref a] st h Q ↔ mm_wp d 86 18 [.ref a] (.ref a :: st) h Q := wp_aloadR_n rfl rfl
theorem s86_18 : mm_wp d 86 18 [.ref a] st h Q ↔ mm_wp d 86 19 [.ref a] (.ref a :: st) h Q := wp_aloadR_n rfl rfl
theorem s86_19 : mm_wp d 86 19 ls (.ref a :: st) h Q ↔ (mm_s h a).1 = 7 ∧ mm_wp d 86 22 ls (mm_o (mm_r h a 0) :: st) h Q := wp_getR rfl rfl
theorem s86_22 : mm_wp d 86 22 [.ref a] st h Q ↔ mm_wp d 86 23 [.ref a] (.ref a :: st) h Q := wp_aloadR_n rfl rfl
theorem s86_23 : mm_wp d 86 23 ls (.ref a :: st) h Q ↔ (mm_s h a).1 = 7 ∧ mm_wp d 86 26 ls (.int (mm_i h a 1) :: st) h Q := wp_getI rfl rfl (by decide) (by decide)
theorem s86_26 : mm_wp d 86 26 ls (.int x :: .ref a :: st) h Q ↔ (23 ≤ (mm_s h a).1 ∧ (mm_s h a).1 ≤ 26 ∧ mm_in x (mm_s h a).2 = true) ∧ mm_wp d 86 27 ls (mm_o (mm_r h a x.toNatClampNeg) :: st) h Q := wp_aaload rfl
theorem s86_27 : mm_wp d 86 27 ls st h Q ↔ mm_wp d 86 28 ls (.int (-1 : Int32) :: st) h Q := wp_iconst rfl rfl
theorem s86_28 : mm_wp (d + 1) 86 28 ls [.int x3, .ref b, .ref a] h Q ↔ (mm_s h a).1 = 7 ∧ mm_wp d 81 0 [.ref a, .ref b, .int x3, mm_j] [] h (mm_bk (d + 1) 86 28 ls [] Q) := wp_virtual rfl rfl ⟨by decide, rfl⟩ ⟨Nat.le_of_ble_eq_true rfl, Nat.le_of_ble_eq_true rfl⟩ rfl rfl rfl rfl rfl rfl
theorem s86_31 : mm_wp d 86 31 ls st h Q ↔ Q (.inl none) h := wp_vret rfl rfl
/-! 87: LoadRoomLaw.at(LLoadRoom;II[J)I -/
theorem s87_0 : mm_wp d 87 0 [l0, l1, l2, .ref a, l4] st h Q ↔ mm_wp d 87 1 [l0, l1, l2, .ref a, l4] (.ref a :: st) h Q := wp_aloadR_n rfl rfl
theorem s87_0o : mm_wp d 87 0 [l0, l1, l2, mm_o o, l4] st h Q ↔ mm_wp d 87 1 [l0, l1, l2, mm_o o, l4] (mm_o o :: st) h Q := wp_aload_n rfl o rfl
theorem s87_0n : mm_wp d 87 0 [l0, l1, l2, .null, l4] st h Q ↔ mm_wp d 87 1 [l0, l1, l2, .null, l4] (.null :: st) h Q := wp_aload_n rfl none rfl
theorem s87_1 : mm_wp d 87 1 ls st h Q ↔ mm_wp d 87 2 ls (.int (0 : Int32) :: st) h Q := wp_iconst rfl rfl
theorem s87_2 : mm_wp d 87 2 [.ref a, l1, l2, l3, l4] st h Q ↔ mm_wp d 87 3 [.ref a, l1, l2, l3, l4] (.ref a :: st) h Q := wp_aloadR_n rfl rfl
theorem s87_2o : mm_wp d 87 2 [mm_o o, l1, l2, l3, l4] st h Q ↔ mm_wp d 87 3 [mm_o o, l1, l2, l3, l4] (mm_o o :: st) h Q := wp_aload_n rfl o rfl
theorem s87_2n : mm_wp d 87 2 [.null, l1, l2, l3, l4] st h Q ↔ mm_wp d 87 3 [.null, l1, l2, l3, l4] (.null :: st) h Q := wp_aload_n rfl none rfl
theorem s87_3 : mm_wp d 87 3 [l0, .int x, l2, l3, l4] st h Q ↔ mm_wp d 87 4 [l0, .int x, l2, l3, l4] (.int x :: st) h Q := wp_iload_n rfl rfl
theorem s87_4 : mm_wp d 87 4 [l0, l1, .int x, l3, l4] st h Q ↔ mm_wp d 87 5 [l0, l1, .int x, l3, l4] (.int x :: st) h Q := wp_iload_n rfl rfl
theorem s87_5 : mm_wp (d + 1) 87 5 ls [.int x3, .int x2, .ref a, t1, t0] h Q ↔ (mm_s h a).1 = 9 ∧ mm_wp d 88 0 [.ref a, .int x2, .int x3, mm_j] [] h (mm_bk (d + 1) 87 5 ls [t1, t0] Q) := wp_virtual rfl rfl ⟨by decide, rfl⟩ ⟨Nat.le_of_ble_eq_true rfl, Nat.le_of_ble_eq_true rfl⟩ rfl rfl rfl rfl rfl rfl
theorem s87_8 : mm_wp d 87 8 ls (.int x :: st) h Q ↔ mm_wp d 87 9 ls (.long x.toInt64 :: st) h Q := wp_i2l rfl
theorem s87_9 : mm_wp d 87 9 ls (.long w :: .int x :: .ref a :: st) h Q ↔ ((mm_s h a).1 = 21 ∧ mm_in x (mm_s h a).2 = true) ∧ mm_wp d 87 10 ls st (mm_pl h a x.toNatClampNeg w) Q := wp_lastore rfl
theorem s87_10 : mm_wp d 87 10 ls st h Q ↔ mm_wp d 87 21 ls st h Q := wp_goto rfl rfl
theorem s87_13 : mm_wp d 87 13 [l0, l1, l2, l3, l4] (.ref a :: st) h Q ↔ mm_wp d 87 15 [l0, l1, l2, l3, .ref a] st h Q := wp_astoreR rfl rfl
theorem s87_13o : mm_wp d 87 13 [l0, l1, l2, l3, l4] (mm_o o :: st) h Q ↔ mm_wp d 87 15 [l0, l1, l2, l3, mm_o o] st h Q := wp_astore rfl o rfl
theorem s87_13n : mm_wp d 87 13 [l0, l1, l2, l3, l4] (.null :: st) h Q ↔ mm_wp d 87 15 [l0, l1, l2, l3, .null] st h Q := wp_astore rfl none rfl
theorem s87_15 : mm_wp d 87 15 ls st h Q ↔ mm_wp d 87 16 ls (.int (1 : Int32) :: st) h Q := wp_iconst rfl rfl
theorem s87_16 : mm_wp d 87 16 ls (.int x :: st) h Q ↔ Q (.inl (some (.int x))) h := wp_iret rfl rfl
theorem s87_17 : mm_wp d 87 17 [l0, l1, l2, l3, l4] (.ref a :: st) h Q ↔ mm_wp d 87 19 [l0, l1, l2, l3, .ref a] st h Q := wp_astoreR rfl rfl
theorem s87_17o : mm_wp d 87 17 [l0, l1, l2, l3, l4] (mm_o o :: st) h Q ↔ mm_wp d 87 19 [l0, l1, l2, l3, mm_o o] st h Q := wp_astore rfl o rfl
theorem s87_17n : mm_wp d 87 17 [l0, l1, l2, l3, l4] (.null :: st) h Q ↔ mm_wp d 87 19 [l0, l1, l2, l3, .null] st h Q := wp_astore rfl none rfl
theorem s87_19 : mm_wp d 87 19 ls st h Q ↔ mm_wp d 87 20 ls (.int (2 : Int32) :: st) h Q := wp_iconst rfl rfl
theorem s87_20 : mm_wp d 87 20 ls (.int x :: st) h Q ↔ Q (.inl (some (.int x))) h := wp_iret rfl rfl
theorem s87_21 : mm_wp d 87 21 ls st h Q ↔ mm_wp d 87 22 ls (.int (0 : Int32) :: st) h Q := wp_iconst rfl rfl
theorem s87_22 : mm_wp d 87 22 ls (.int x :: st) h Q ↔ Q (.inl (some (.int x))) h := wp_iret rfl rfl
/-! 88: LoadRoom.at(II)I -/
theorem s88_0 : mm_wp d 88 0 [.ref a, l1, l2, l3] st h Q ↔ mm_wp d 88 1 [.ref a, l1, l2, l3] (.ref a :: st) h Q := wp_aloadR_n rfl rfl
theorem s88_1 : mm_wp d 88 1 ls (.ref a :: st) h Q ↔ (mm_s h a).1 = 9 ∧ mm_wp d 88 4 ls (mm_o (mm_r h a 1) :: st) h Q := wp_getR rfl rfl
theorem s88_4 : mm_wp d 88 4 [l0, .int x, l2, l3] st h Q ↔ mm_wp d 88 5 [l0, .int x, l2, l3] (.int x :: st) h Q := wp_iload_n rfl rfl
theorem s88_5 : mm_wp (d + 1) 88 5 ls [.int x2, .ref a] h Q ↔ (mm_s h a).1 = 2 ∧ mm_wp d 42 0 [.ref a, .int x2] [] h (mm_bk (d + 1) 88 5 ls [] Q) := wp_virtual rfl rfl ⟨by decide, rfl⟩ ⟨Nat.le_of_ble_eq_true rfl, Nat.le_of_ble_eq_true rfl⟩ rfl rfl rfl rfl rfl rfl
theorem s88_8 : mm_wp d 88 8 [l0, l1, .int x, l3] st h Q ↔ mm_wp d 88 9 [l0, l1, .int x, l3] (.int x :: st) h Q := wp_iload_n rfl rfl
theorem s88_9 : mm_wp d 88 9 ls st h Q ↔ mm_wp d 88 10 ls (.int (0 : Int32) :: st) h Q := wp_iconst rfl rfl
theorem s88_10 : mm_wp d 88 10 ls st h Q ↔ mm_wp d 88 11 ls (.int (5 : Int32) :: st) h Q := wp_iconst rfl rfl
theorem s88_11 : mm_wp (d + 1) 88 11 ls [.int x3, .int x2, .int x] h Q ↔ mm_wp d 25 0 [.int x, .int x2, .int x3] [] h (mm_bk (d + 1) 88 11 ls [] Q) := wp_static rfl rfl ⟨by decide, rfl⟩ ⟨Nat.le_of_ble_eq_true rfl, Nat.le_of_ble_eq_true rfl⟩ rfl rfl rfl rfl
theorem s88_14 : mm_wp d 88 14 ls (.int x :: st) h Q ↔ if x = 0 then mm_wp d 88 17 ls st h Q else mm_wp d 88 27 ls st h Q := wp_ifne rfl rfl
theorem s88_17 : mm_wp d 88 17 ls st h Q ↔ mm_wp d 88 20 ls (.ref (mm_n h) :: st) (mm_nw h 30 6 6) Q := wp_new rfl rfl rfl rfl
theorem s88_20 : mm_wp d 88 20 ls (.ref a :: st) h Q ↔ mm_wp d 88 21 ls (.ref a :: .ref a :: st) h Q := wp_dupR rfl
theorem s88_21 : mm_wp d 88 21 ls st h Q ↔ mm_wp d 88 23 ls (.float (UInt32.ofNat 8) :: st) h Q := wp_ldcS rfl rfl rfl
theorem s88_23 : mm_wp d 88 23 ls (.float q :: .ref a :: [t0]) h Q ↔ (mm_s h a).1 = 30 ∧ mm_wp d 88 26 ls [t0] h Q := wp_excInit (z := 1001) rfl rfl (Nat.le_of_ble_eq_true rfl) rfl (Nat.le_of_ble_eq_true rfl)
theorem s88_26 : mm_wp d 88 26 ls (.ref a :: st) h Q ↔ 30 ≤ (mm_s h a).1 ∧ Q (.inr a) h := wp_athrow rfl rfl
theorem s88_27 : mm_wp d 88 27 [.ref a, l1, l2, l3] st h Q ↔ mm_wp d 88 28 [.ref a, l1, l2, l3] (.ref a :: st) h Q := wp_aloadR_n rfl rfl
theorem s88_28 : mm_wp d 88 28 ls (.ref a :: st) h Q ↔ (mm_s h a).1 = 9 ∧ mm_wp d 88 31 ls (mm_o (mm_r h a 2) :: st) h Q := wp_getR rfl rfl
theorem s88_31 : mm_wp d 88 31 ls (.ref a :: st) h Q ↔ (mm_s h a).1 = 8 ∧ mm_wp d 88 34 ls (mm_o (mm_r h a 3) :: st) h Q := wp_getR rfl rfl
theorem s88_34 : mm_wp d 88 34 [l0, .int x, l2, l3] st h Q ↔ mm_wp d 88 35 [l0, .int x, l2, l3] (.int x :: st) h Q := wp_iload_n rfl rfl
theorem s88_35 : mm_wp (d + 1) 88 35 ls [.int x2, .ref a] h Q ↔ (mm_s h a).1 = 7 ∧ mm_wp d 59 0 [.ref a, .int x2, mm_j] [] h (mm_bk (d + 1) 88 35 ls [] Q) := wp_virtual rfl rfl ⟨by decide, rfl⟩ ⟨Nat.le_of_ble_eq_true rfl, Nat.le_of_ble_eq_true rfl⟩ rfl rfl rfl rfl rfl rfl
theorem s88_38 : mm_wp d 88 38 [l0, l1, l2, l3] (.ref a :: st) h Q ↔ mm_wp d 88 39 [l0, l1, l2, .ref a] st h Q := wp_astoreR_n rfl rfl
theorem s88_38o : mm_wp d 88 38 [l0, l1, l2, l3] (mm_o o :: st) h Q ↔ mm_wp d 88 39 [l0, l1, l2, mm_o o] st h Q := wp_astore_n rfl o rfl
theorem s88_38n : mm_wp d 88 38 [l0, l1, l2, l3] (.null :: st) h Q ↔ mm_wp d 88 39 [l0, l1, l2, .null] st h Q := wp_astore_n rfl none rfl
theorem s88_39 : mm_wp d 88 39 [l0, l1, l2, .ref a] st h Q ↔ mm_wp d 88 40 [l0, l1, l2, .ref a] (.ref a :: st) h Q := wp_aloadR_n rfl rfl
theorem s88_39o : mm_wp d 88 39 [l0, l1, l2, mm_o o] st h Q ↔ mm_wp d 88 40 [l0, l1, l2, mm_o o] (mm_o o :: st) h Q := wp_aload_n rfl o rfl
theorem s88_39n : mm_wp d 88 39 [l0, l1, l2, .null] st h Q ↔ mm_wp d 88 40 [l0, l1, l2, .null] (.null :: st) h Q := wp_aload_n rfl none rfl
theorem s88_40 : mm_wp d 88 40 ls (mm_o o :: st) h Q ↔ if o = none then mm_wp d 88 43 ls st h Q else mm_wp d 88 47 ls st h Q := wp_ifnonnull (off := 7) rfl rfl o
theorem s88_40r : mm_wp d 88 40 ls (.ref a :: st) h Q ↔ mm_wp d 88 47 ls st h Q := wp_go (i := .ifnonnull 7) (len := 3) rfl rfl
theorem s88_40n : mm_wp d 88 40 ls (.null :: st) h Q ↔ mm_wp d 88 43 ls st h Q := wp_go (i := .ifnonnull 7) (len := 3) rfl rfl
theorem s88_43 : mm_wp d 88 43 ls st h Q ↔ mm_wp d 88 44 ls (.int (-1 : Int32) :: st) h Q := wp_iconst rfl rfl
theorem s88_44 : mm_wp d 88 44 ls st h Q ↔ mm_wp d 88 52 ls st h Q := wp_goto rfl rfl
theorem s88_47 : mm_wp d 88 47 [l0, l1, l2, .ref a] st h Q ↔ mm_wp d 88 48 [l0, l1, l2, .ref a] (.ref a :: st) h Q := wp_aloadR_n rfl rfl
theorem s88_47o : mm_wp d 88 47 [l0, l1, l2, mm_o o] st h Q ↔ mm_wp d 88 48 [l0, l1, l2, mm_o o] (mm_o o :: st) h Q := wp_aload_n rfl o rfl
theorem s88_47n : mm_wp d 88 47 [l0, l1, l2, .null] st h Q ↔ mm_wp d 88 48 [l0, l1, l2, .null] (.null :: st) h Q := wp_aload_n rfl none rfl
theorem s88_48 : mm_wp d 88 48 [l0, l1, .int x, l3] st h Q ↔ mm_wp d 88 49 [l0, l1, .int x, l3] (.int x :: st) h Q := wp_iload_n rfl rfl
theorem s88_49 : mm_wp (d + 1) 88 49 ls [.int x2, .ref a] h Q ↔ (mm_s h a).1 = 6 ∧ mm_wp d 89 0 [.ref a, .int x2] [] h (mm_bk (d + 1) 88 49 ls [] Q) := wp_virtual rfl rfl ⟨by decide, rfl⟩ ⟨Nat.le_of_ble_eq_true rfl, Nat.le_of_ble_eq_true rfl⟩ rfl rfl rfl rfl rfl rfl
theorem s88_52 : mm_wp d 88 52 ls (.int x :: st) h Q ↔ Q (.inl (some (.int x))) h := wp_iret rfl rfl
/-! 89: LoadRoom$Placed.tell(I)I -/
theorem s89_0 : mm_wp d 89 0 [l0, .int x] st h Q ↔ mm_wp d 89 1 [l0, .int x] (.int x :: st) h Q := wp_iload_n rfl rfl
theorem s89_1d (hx : x.toInt < 0 ∨ 4 < x.toInt) : mm_wp d 89 1 ls (.int x :: st) h Q ↔ mm_wp d 89 61 ls st h Q := wp_tabOut rfl hx rfl
theorem s89_1_0 : mm_wp d 89 1 ls (.int (0 : Int32) :: st) h Q ↔ mm_wp d 89 36 ls st h Q := wp_tabIn rfl (by decide) rfl
theorem s89_1_1 : mm_wp d 89 1 ls (.int (1 : Int32) :: st) h Q ↔ mm_wp d 89 41 ls st h Q := wp_tabIn rfl (by decide) rfl
theorem s89_1_2 : mm_wp d 89 1 ls (.int (2 : Int32) :: st) h Q ↔ mm_wp d 89 46 ls st h Q := wp_tabIn rfl (by decide) rfl
theorem s89_1_3 : mm_wp d 89 1 ls (.int (3 : Int32) :: st) h Q ↔ mm_wp d 89 51 ls st h Q := wp_tabIn rfl (by decide) rfl
theorem s89_1_4 : mm_wp d 89 1 ls (.int (4 : Int32) :: st) h Q ↔ mm_wp d 89 56 ls st h Q := wp_tabIn rfl (by decide) rfl
theorem s89_36 : mm_wp d 89 36 [.ref a, l1] st h Q ↔ mm_wp d 89 37 [.ref a, l1] (.ref a :: st) h Q := wp_aloadR_n rfl rfl
theorem s89_37 : mm_wp d 89 37 ls (.ref a :: st) h Q ↔ (mm_s h a).1 = 6 ∧ mm_wp d 89 40 ls (.int (mm_i h a 3) :: st) h Q := wp_getI rfl rfl (by decide) (by decide)
theorem s89_40 : mm_wp d 89 40 ls (.int x :: st) h Q ↔ Q (.inl (some (.int x))) h := wp_iret rfl rfl
theorem s89_41 : mm_wp d 89 41 [.ref a, l1] st h Q ↔ mm_wp d 89 42 [.ref a, l1] (.ref a :: st) h Q := wp_aloadR_n rfl rfl
theorem s89_42 : mm_wp d 89 42 ls (.ref a :: st) h Q ↔ (mm_s h a).1 = 6 ∧ mm_wp d 89 45 ls (.int (mm_i h a 4) :: st) h Q := wp_getI rfl rfl (by decide) (by decide)
theorem s89_45 : mm_wp d 89 45 ls (.int x :: st) h Q ↔ Q (.inl (some (.int x))) h := wp_iret rfl rfl
theorem s89_46 : mm_wp d 89 46 [.ref a, l1] st h Q ↔ mm_wp d 89 47 [.ref a, l1] (.ref a :: st) h Q := wp_aloadR_n rfl rfl
theorem s89_47 : mm_wp d 89 47 ls (.ref a :: st) h Q ↔ (mm_s h a).1 = 6 ∧ mm_wp d 89 50 ls (.int (mm_i h a 5) :: st) h Q := wp_getI rfl rfl (by decide) (by decide)
theorem s89_50 : mm_wp d 89 50 ls (.int x :: st) h Q ↔ Q (.inl (some (.int x))) h := wp_iret rfl rfl
theorem s89_51 : mm_wp d 89 51 [.ref a, l1] st h Q ↔ mm_wp d 89 52 [.ref a, l1] (.ref a :: st) h Q := wp_aloadR_n rfl rfl
theorem s89_52 : mm_wp d 89 52 ls (.ref a :: st) h Q ↔ (mm_s h a).1 = 6 ∧ mm_wp d 89 55 ls (.int (mm_i h a 2) :: st) h Q := wp_getI rfl rfl (by decide) (by decide)
theorem s89_55 : mm_wp d 89 55 ls (.int x :: st) h Q ↔ Q (.inl (some (.int x))) h := wp_iret rfl rfl
theorem s89_56 : mm_wp d 89 56 [.ref a, l1] st h Q ↔ mm_wp d 89 57 [.ref a, l1] (.ref a :: st) h Q := wp_aloadR_n rfl rfl
theorem s89_57 : mm_wp d 89 57 ls (.ref a :: st) h Q ↔ (mm_s h a).1 = 6 ∧ mm_wp d 89 60 ls (.int (mm_i h a 0) :: st) h Q := wp_getI rfl rfl (by decide) (by decide)
theorem s89_60 : mm_wp d 89 60 ls (.int x :: st) h Q ↔ Q (.inl (some (.int x))) h := wp_iret rfl rfl
theorem s89_61 : mm_wp d 89 61 [.ref a, l1] st h Q ↔ mm_wp d 89 62 [.ref a, l1] (.ref a :: st) h Q := wp_aloadR_n rfl rfl
theorem s89_62 : mm_wp d 89 62 ls (.ref a :: st) h Q ↔ (mm_s h a).1 = 6 ∧ mm_wp d 89 65 ls (.int (mm_i h a 15) :: st) h Q := wp_getI rfl rfl (by decide) (by decide)
theorem s89_65 : mm_wp d 89 65 ls (.int x :: st) h Q ↔ Q (.inl (some (.int x))) h := wp_iret rfl rfl
/-! 90: LoadRoomLaw.touch(LLoadRoom;II[J)I -/
theorem s90_0 : mm_wp d 90 0 [l0, l1, l2, .ref a, l4] st h Q ↔ mm_wp d 90 1 [l0, l1, l2, .ref a, l4] (.ref a :: st) h Q := wp_aloadR_n rfl rfl
theorem s90_0o : mm_wp d 90 0 [l0, l1, l2, mm_o o, l4] st h Q ↔ mm_wp d 90 1 [l0, l1, l2, mm_o o, l4] (mm_o o :: st) h Q := wp_aload_n rfl o rfl
theorem s90_0n : mm_wp d 90 0 [l0, l1, l2, .null, l4] st h Q ↔ mm_wp d 90 1 [l0, l1, l2, .null, l4] (.null :: st) h Q := wp_aload_n rfl none rfl
theorem s90_1 : mm_wp d 90 1 ls st h Q ↔ mm_wp d 90 2 ls (.int (0 : Int32) :: st) h Q := wp_iconst rfl rfl
theorem s90_2 : mm_wp d 90 2 [.ref a, l1, l2, l3, l4] st h Q ↔ mm_wp d 90 3 [.ref a, l1, l2, l3, l4] (.ref a :: st) h Q := wp_aloadR_n rfl rfl
theorem s90_2o : mm_wp d 90 2 [mm_o o, l1, l2, l3, l4] st h Q ↔ mm_wp d 90 3 [mm_o o, l1, l2, l3, l4] (mm_o o :: st) h Q := wp_aload_n rfl o rfl
theorem s90_2n : mm_wp d 90 2 [.null, l1, l2, l3, l4] st h Q ↔ mm_wp d 90 3 [.null, l1, l2, l3, l4] (.null :: st) h Q := wp_aload_n rfl none rfl
theorem s90_3 : mm_wp d 90 3 [l0, .int x, l2, l3, l4] st h Q ↔ mm_wp d 90 4 [l0, .int x, l2, l3, l4] (.int x :: st) h Q := wp_iload_n rfl rfl
theorem s90_4 : mm_wp d 90 4 [l0, l1, .int x, l3, l4] st h Q ↔ mm_wp d 90 5 [l0, l1, .int x, l3, l4] (.int x :: st) h Q := wp_iload_n rfl rfl
theorem s90_5 : mm_wp (d + 1) 90 5 ls [.int x3, .int x2, .ref a, t1, t0] h Q ↔ (mm_s h a).1 = 9 ∧ mm_wp d 91 0 [.ref a, .int x2, .int x3, mm_j, mm_j] [] h (mm_bk (d + 1) 90 5 ls [t1, t0] Q) := wp_virtual rfl rfl ⟨by decide, rfl⟩ ⟨Nat.le_of_ble_eq_true rfl, Nat.le_of_ble_eq_true rfl⟩ rfl rfl rfl rfl rfl rfl
theorem s90_8 : mm_wp d 90 8 ls (.int x :: st) h Q ↔ mm_wp d 90 9 ls (.long x.toInt64 :: st) h Q := wp_i2l rfl
theorem s90_9 : mm_wp d 90 9 ls (.long w :: .int x :: .ref a :: st) h Q ↔ ((mm_s h a).1 = 21 ∧ mm_in x (mm_s h a).2 = true) ∧ mm_wp d 90 10 ls st (mm_pl h a x.toNatClampNeg w) Q := wp_lastore rfl
theorem s90_10 : mm_wp d 90 10 ls st h Q ↔ mm_wp d 90 17 ls st h Q := wp_goto rfl rfl
theorem s90_13 : mm_wp d 90 13 [l0, l1, l2, l3, l4] (.ref a :: st) h Q ↔ mm_wp d 90 15 [l0, l1, l2, l3, .ref a] st h Q := wp_astoreR rfl rfl
theorem s90_13o : mm_wp d 90 13 [l0, l1, l2, l3, l4] (mm_o o :: st) h Q ↔ mm_wp d 90 15 [l0, l1, l2, l3, mm_o o] st h Q := wp_astore rfl o rfl
theorem s90_13n : mm_wp d 90 13 [l0, l1, l2, l3, l4] (.null :: st) h Q ↔ mm_wp d 90 15 [l0, l1, l2, l3, .null] st h Q := wp_astore rfl none rfl
theorem s90_15 : mm_wp d 90 15 ls st h Q ↔ mm_wp d 90 16 ls (.int (1 : Int32) :: st) h Q := wp_iconst rfl rfl
theorem s90_16 : mm_wp d 90 16 ls (.int x :: st) h Q ↔ Q (.inl (some (.int x))) h := wp_iret rfl rfl
theorem s90_17 : mm_wp d 90 17 ls st h Q ↔ mm_wp d 90 18 ls (.int (0 : Int32) :: st) h Q := wp_iconst rfl rfl
theorem s90_18 : mm_wp d 90 18 ls (.int x :: st) h Q ↔ Q (.inl (some (.int x))) h := wp_iret rfl rfl
/-! 91: LoadRoom.touch(II)I -/
theorem s91_0 : mm_wp d 91 0 [.ref a, l1, l2, l3, l4] st h Q ↔ mm_wp d 91 1 [.ref a, l1, l2, l3, l4] (.ref a :: st) h Q := wp_aloadR_n rfl rfl
theorem s91_1 : mm_wp d 91 1 ls (.ref a :: st) h Q ↔ (mm_s h a).1 = 9 ∧ mm_wp d 91 4 ls (mm_o (mm_r h a 1) :: st) h Q := wp_getR rfl rfl
theorem s91_4 : mm_wp d 91 4 [l0, .int x, l2, l3, l4] st h Q ↔ mm_wp d 91 5 [l0, .int x, l2, l3, l4] (.int x :: st) h Q := wp_iload_n rfl rfl
theorem s91_5 : mm_wp (d + 1) 91 5 ls [.int x2, .ref a] h Q ↔ (mm_s h a).1 = 2 ∧ mm_wp d 42 0 [.ref a, .int x2] [] h (mm_bk (d + 1) 91 5 ls [] Q) := wp_virtual rfl rfl ⟨by decide, rfl⟩ ⟨Nat.le_of_ble_eq_true rfl, Nat.le_of_ble_eq_true rfl⟩ rfl rfl rfl rfl rfl rfl
theorem s91_8 : mm_wp d 91 8 [.ref a, l1, l2, l3, l4] st h Q ↔ mm_wp d 91 9 [.ref a, l1, l2, l3, l4] (.ref a :: st) h Q := wp_aloadR_n rfl rfl
theorem s91_9 : mm_wp d 91 9 ls (.ref a :: st) h Q ↔ (mm_s h a).1 = 9 ∧ mm_wp d 91 12 ls (mm_o (mm_r h a 1) :: st) h Q := wp_getR rfl rfl
theorem s91_12 : mm_wp d 91 12 [l0, l1, .int x, l3, l4] st h Q ↔ mm_wp d 91 13 [l0, l1, .int x, l3, l4] (.int x :: st) h Q := wp_iload_n rfl rfl
theorem s91_13 : mm_wp (d + 1) 91 13 ls [.int x2, .ref a] h Q ↔ (mm_s h a).1 = 2 ∧ mm_wp d 42 0 [.ref a, .int x2] [] h (mm_bk (d + 1) 91 13 ls [] Q) := wp_virtual rfl rfl ⟨by decide, rfl⟩ ⟨Nat.le_of_ble_eq_true rfl, Nat.le_of_ble_eq_true rfl⟩ rfl rfl rfl rfl rfl rfl
theorem s91_16 : mm_wp d 91 16 [.ref a, l1, l2, l3, l4] st h Q ↔ mm_wp d 91 17 [.ref a, l1, l2, l3, l4] (.ref a :: st) h Q := wp_aloadR_n rfl rfl
theorem s91_17 : mm_wp d 91 17 ls (.ref a :: st) h Q ↔ (mm_s h a).1 = 9 ∧ mm_wp d 91 20 ls (mm_o (mm_r h a 2) :: st) h Q := wp_getR rfl rfl
theorem s91_20 : mm_wp d 91 20 ls (.ref a :: st) h Q ↔ (mm_s h a).1 = 8 ∧ mm_wp d 91 23 ls (mm_o (mm_r h a 3) :: st) h Q := wp_getR rfl rfl
theorem s91_23 : mm_wp d 91 23 [l0, .int x, l2, l3, l4] st h Q ↔ mm_wp d 91 24 [l0, .int x, l2, l3, l4] (.int x :: st) h Q := wp_iload_n rfl rfl
theorem s91_24 : mm_wp (d + 1) 91 24 ls [.int x2, .ref a] h Q ↔ (mm_s h a).1 = 7 ∧ mm_wp d 59 0 [.ref a, .int x2, mm_j] [] h (mm_bk (d + 1) 91 24 ls [] Q) := wp_virtual rfl rfl ⟨by decide, rfl⟩ ⟨Nat.le_of_ble_eq_true rfl, Nat.le_of_ble_eq_true rfl⟩ rfl rfl rfl rfl rfl rfl
theorem s91_27 : mm_wp d 91 27 [l0, l1, l2, l3, l4] (.ref a :: st) h Q ↔ mm_wp d 91 28 [l0, l1, l2, .ref a, l4] st h Q := wp_astoreR_n rfl rfl
theorem s91_27o : mm_wp d 91 27 [l0, l1, l2, l3, l4] (mm_o o :: st) h Q ↔ mm_wp d 91 28 [l0, l1, l2, mm_o o, l4] st h Q := wp_astore_n rfl o rfl
theorem s91_27n : mm_wp d 91 27 [l0, l1, l2, l3, l4] (.null :: st) h Q ↔ mm_wp d 91 28 [l0, l1, l2, .null, l4] st h Q := wp_astore_n rfl none rfl
theorem s91_28 : mm_wp d 91 28 [.ref a, l1, l2, l3, l4] st h Q ↔ mm_wp d 91 29 [.ref a, l1, l2, l3, l4] (.ref a :: st) h Q := wp_aloadR_n rfl rfl
theorem s91_29 : mm_wp d 91 29 ls (.ref a :: st) h Q ↔ (mm_s h a).1 = 9 ∧ mm_wp d 91 32 ls (mm_o (mm_r h a 2) :: st) h Q := wp_getR rfl rfl
theorem s91_32 : mm_wp d 91 32 ls (.ref a :: st) h Q ↔ (mm_s h a).1 = 8 ∧ mm_wp d 91 35 ls (mm_o (mm_r h a 3) :: st) h Q := wp_getR rfl rfl
theorem s91_35 : mm_wp d 91 35 [l0, l1, .int x, l3, l4] st h Q ↔ mm_wp d 91 36 [l0, l1, .int x, l3, l4] (.int x :: st) h Q := wp_iload_n rfl rfl
theorem s91_36 : mm_wp (d + 1) 91 36 ls [.int x2, .ref a] h Q ↔ (mm_s h a).1 = 7 ∧ mm_wp d 59 0 [.ref a, .int x2, mm_j] [] h (mm_bk (d + 1) 91 36 ls [] Q) := wp_virtual rfl rfl ⟨by decide, rfl⟩ ⟨Nat.le_of_ble_eq_true rfl, Nat.le_of_ble_eq_true rfl⟩ rfl rfl rfl rfl rfl rfl
theorem s91_39 : mm_wp d 91 39 [l0, l1, l2, l3, l4] (.ref a :: st) h Q ↔ mm_wp d 91 41 [l0, l1, l2, l3, .ref a] st h Q := wp_astoreR rfl rfl
theorem s91_39o : mm_wp d 91 39 [l0, l1, l2, l3, l4] (mm_o o :: st) h Q ↔ mm_wp d 91 41 [l0, l1, l2, l3, mm_o o] st h Q := wp_astore rfl o rfl
theorem s91_39n : mm_wp d 91 39 [l0, l1, l2, l3, l4] (.null :: st) h Q ↔ mm_wp d 91 41 [l0, l1, l2, l3, .null] st h Q := wp_astore rfl none rfl
theorem s91_41 : mm_wp d 91 41 [l0, l1, l2, .ref a, l4] st h Q ↔ mm_wp d 91 42 [l0, l1, l2, .ref a, l4] (.ref a :: st) h Q := wp_aloadR_n rfl rfl
theorem s91_41o : mm_wp d 91 41 [l0, l1, l2, mm_o o, l4] st h Q ↔ mm_wp d 91 42 [l0, l1, l2, mm_o o, l4] (mm_o o :: st) h Q := wp_aload_n rfl o rfl
theorem s91_41n : mm_wp d 91 41 [l0, l1, l2, .null, l4] st h Q ↔ mm_wp d 91 42 [l0, l1, l2, .null, l4] (.null :: st) h Q := wp_aload_n rfl none rfl
theorem s91_42 : mm_wp d 91 42 ls (mm_o o :: st) h Q ↔ if o = none then mm_wp d 91 50 ls st h Q else mm_wp d 91 45 ls st h Q := wp_ifnull (off := 8) rfl rfl o
theorem s91_42r : mm_wp d 91 42 ls (.ref a :: st) h Q ↔ mm_wp d 91 45 ls st h Q := wp_go (i := .ifnull 8) (len := 3) rfl rfl
theorem s91_42n : mm_wp d 91 42 ls (.null :: st) h Q ↔ mm_wp d 91 50 ls st h Q := wp_go (i := .ifnull 8) (len := 3) rfl rfl
theorem s91_45 : mm_wp d 91 45 [l0, l1, l2, l3, .ref a] st h Q ↔ mm_wp d 91 47 [l0, l1, l2, l3, .ref a] (.ref a :: st) h Q := wp_aloadR rfl rfl
theorem s91_45o : mm_wp d 91 45 [l0, l1, l2, l3, mm_o o] st h Q ↔ mm_wp d 91 47 [l0, l1, l2, l3, mm_o o] (mm_o o :: st) h Q := wp_aload rfl o rfl
theorem s91_45n : mm_wp d 91 45 [l0, l1, l2, l3, .null] st h Q ↔ mm_wp d 91 47 [l0, l1, l2, l3, .null] (.null :: st) h Q := wp_aload rfl none rfl
theorem s91_47 : mm_wp d 91 47 ls (mm_o o :: st) h Q ↔ if o = none then mm_wp d 91 50 ls st h Q else mm_wp d 91 54 ls st h Q := wp_ifnonnull (off := 7) rfl rfl o
theorem s91_47r : mm_wp d 91 47 ls (.ref a :: st) h Q ↔ mm_wp d 91 54 ls st h Q := wp_go (i := .ifnonnull 7) (len := 3) rfl rfl
theorem s91_47n : mm_wp d 91 47 ls (.null :: st) h Q ↔ mm_wp d 91 50 ls st h Q := wp_go (i := .ifnonnull 7) (len := 3) rfl rfl
theorem s91_50 : mm_wp d 91 50 ls st h Q ↔ mm_wp d 91 51 ls (.int (0 : Int32) :: st) h Q := wp_iconst rfl rfl
theorem s91_51 : mm_wp d 91 51 ls st h Q ↔ mm_wp d 91 60 ls st h Q := wp_goto rfl rfl
theorem s91_54 : mm_wp d 91 54 [l0, l1, l2, l3, .ref a] st h Q ↔ mm_wp d 91 56 [l0, l1, l2, l3, .ref a] (.ref a :: st) h Q := wp_aloadR rfl rfl
theorem s91_54o : mm_wp d 91 54 [l0, l1, l2, l3, mm_o o] st h Q ↔ mm_wp d 91 56 [l0, l1, l2, l3, mm_o o] (mm_o o :: st) h Q := wp_aload rfl o rfl
theorem s91_54n : mm_wp d 91 54 [l0, l1, l2, l3, .null] st h Q ↔ mm_wp d 91 56 [l0, l1, l2, l3, .null] (.null :: st) h Q := wp_aload rfl none rfl
theorem s91_56 : mm_wp d 91 56 [l0, l1, l2, .ref a, l4] st h Q ↔ mm_wp d 91 57 [l0, l1, l2, .ref a, l4] (.ref a :: st) h Q := wp_aloadR_n rfl rfl
theorem s91_56o : mm_wp d 91 56 [l0, l1, l2, mm_o o, l4] st h Q ↔ mm_wp d 91 57 [l0, l1, l2, mm_o o, l4] (mm_o o :: st) h Q := wp_aload_n rfl o rfl
theorem s91_56n : mm_wp d 91 56 [l0, l1, l2, .null, l4] st h Q ↔ mm_wp d 91 57 [l0, l1, l2, .null, l4] (.null :: st) h Q := wp_aload_n rfl none rfl
theorem s91_57 : mm_wp (d + 1) 91 57 ls [.ref b, .ref a] h Q ↔ (mm_s h a).1 = 6 ∧ mm_wp d 72 0 [.ref a, .ref b, mm_j, mm_j] [] h (mm_bk (d + 1) 91 57 ls [] Q) := wp_virtual rfl rfl ⟨by decide, rfl⟩ ⟨Nat.le_of_ble_eq_true rfl, Nat.le_of_ble_eq_true rfl⟩ rfl rfl rfl rfl rfl rfl
theorem s91_60 : mm_wp d 91 60 ls (.int x :: st) h Q ↔ Q (.inl (some (.int x))) h := wp_iret rfl rfl
/-! 92: LoadRoomLaw.axle(LLoadRoom;I[J)I -/
theorem s92_0 : mm_wp d 92 0 [l0, l1, .ref a, l3] st h Q ↔ mm_wp d 92 1 [l0, l1, .ref a, l3] (.ref a :: st) h Q := wp_aloadR_n rfl rfl
theorem s92_0o : mm_wp d 92 0 [l0, l1, mm_o o, l3] st h Q ↔ mm_wp d 92 1 [l0, l1, mm_o o, l3] (mm_o o :: st) h Q := wp_aload_n rfl o rfl
theorem s92_0n : mm_wp d 92 0 [l0, l1, .null, l3] st h Q ↔ mm_wp d 92 1 [l0, l1, .null, l3] (.null :: st) h Q := wp_aload_n rfl none rfl
theorem s92_1 : mm_wp d 92 1 ls st h Q ↔ mm_wp d 92 2 ls (.int (0 : Int32) :: st) h Q := wp_iconst rfl rfl
theorem s92_2 : mm_wp d 92 2 [.ref a, l1, l2, l3] st h Q ↔ mm_wp d 92 3 [.ref a, l1, l2, l3] (.ref a :: st) h Q := wp_aloadR_n rfl rfl
theorem s92_2o : mm_wp d 92 2 [mm_o o, l1, l2, l3] st h Q ↔ mm_wp d 92 3 [mm_o o, l1, l2, l3] (mm_o o :: st) h Q := wp_aload_n rfl o rfl
theorem s92_2n : mm_wp d 92 2 [.null, l1, l2, l3] st h Q ↔ mm_wp d 92 3 [.null, l1, l2, l3] (.null :: st) h Q := wp_aload_n rfl none rfl
theorem s92_3 : mm_wp d 92 3 [l0, .int x, l2, l3] st h Q ↔ mm_wp d 92 4 [l0, .int x, l2, l3] (.int x :: st) h Q := wp_iload_n rfl rfl
theorem s92_4 : mm_wp (d + 1) 92 4 ls [.int x2, .ref a, t1, t0] h Q ↔ (mm_s h a).1 = 9 ∧ mm_wp d 93 0 [.ref a, .int x2] [] h (mm_bk (d + 1) 92 4 ls [t1, t0] Q) := wp_virtual rfl rfl ⟨by decide, rfl⟩ ⟨Nat.le_of_ble_eq_true rfl, Nat.le_of_ble_eq_true rfl⟩ rfl rfl rfl rfl rfl rfl
theorem s92_7 : mm_wp d 92 7 ls (.int x :: st) h Q ↔ mm_wp d 92 8 ls (.long x.toInt64 :: st) h Q := wp_i2l rfl
theorem s92_8 : mm_wp d 92 8 ls (.long w :: .int x :: .ref a :: st) h Q ↔ ((mm_s h a).1 = 21 ∧ mm_in x (mm_s h a).2 = true) ∧ mm_wp d 92 9 ls st (mm_pl h a x.toNatClampNeg w) Q := wp_lastore rfl
theorem s92_9 : mm_wp d 92 9 ls st h Q ↔ mm_wp d 92 18 ls st h Q := wp_goto rfl rfl
theorem s92_12 : mm_wp d 92 12 [l0, l1, l2, l3] (.ref a :: st) h Q ↔ mm_wp d 92 13 [l0, l1, l2, .ref a] st h Q := wp_astoreR_n rfl rfl
theorem s92_12o : mm_wp d 92 12 [l0, l1, l2, l3] (mm_o o :: st) h Q ↔ mm_wp d 92 13 [l0, l1, l2, mm_o o] st h Q := wp_astore_n rfl o rfl
theorem s92_12n : mm_wp d 92 12 [l0, l1, l2, l3] (.null :: st) h Q ↔ mm_wp d 92 13 [l0, l1, l2, .null] st h Q := wp_astore_n rfl none rfl
theorem s92_13 : mm_wp d 92 13 ls st h Q ↔ mm_wp d 92 14 ls (.int (1 : Int32) :: st) h Q := wp_iconst rfl rfl
theorem s92_14 : mm_wp d 92 14 ls (.int x :: st) h Q ↔ Q (.inl (some (.int x))) h := wp_iret rfl rfl
theorem s92_15 : mm_wp d 92 15 [l0, l1, l2, l3] (.ref a :: st) h Q ↔ mm_wp d 92 16 [l0, l1, l2, .ref a] st h Q := wp_astoreR_n rfl rfl
theorem s92_15o : mm_wp d 92 15 [l0, l1, l2, l3] (mm_o o :: st) h Q ↔ mm_wp d 92 16 [l0, l1, l2, mm_o o] st h Q := wp_astore_n rfl o rfl
theorem s92_15n : mm_wp d 92 15 [l0, l1, l2, l3] (.null :: st) h Q ↔ mm_wp d 92 16 [l0, l1, l2, .null] st h Q := wp_astore_n rfl none rfl
theorem s92_16 : mm_wp d 92 16 ls st h Q ↔ mm_wp d 92 17 ls (.int (2 : Int32) :: st) h Q := wp_iconst rfl rfl
theorem s92_17 : mm_wp d 92 17 ls (.int x :: st) h Q ↔ Q (.inl (some (.int x))) h := wp_iret rfl rfl
theorem s92_18 : mm_wp d 92 18 ls st h Q ↔ mm_wp d 92 19 ls (.int (0 : Int32) :: st) h Q := wp_iconst rfl rfl
theorem s92_19 : mm_wp d 92 19 ls (.int x :: st) h Q ↔ Q (.inl (some (.int x))) h := wp_iret rfl rfl
/-! 93: LoadRoom.axle(I)I -/
theorem s93_0 : mm_wp d 93 0 [l0, .int x] st h Q ↔ mm_wp d 93 1 [l0, .int x] (.int x :: st) h Q := wp_iload_n rfl rfl
theorem s93_1 : mm_wp d 93 1 ls st h Q ↔ mm_wp d 93 2 ls (.int (0 : Int32) :: st) h Q := wp_iconst rfl rfl
theorem s93_2 : mm_wp d 93 2 ls st h Q ↔ mm_wp d 93 5 ls (.int (1000 : Int32) :: st) h Q := wp_sipush rfl rfl
theorem s93_5 : mm_wp (d + 1) 93 5 ls [.int x3, .int x2, .int x] h Q ↔ mm_wp d 25 0 [.int x, .int x2, .int x3] [] h (mm_bk (d + 1) 93 5 ls [] Q) := wp_static rfl rfl ⟨by decide, rfl⟩ ⟨Nat.le_of_ble_eq_true rfl, Nat.le_of_ble_eq_true rfl⟩ rfl rfl rfl rfl
theorem s93_8 : mm_wp d 93 8 ls (.int x :: st) h Q ↔ if x = 0 then mm_wp d 93 11 ls st h Q else mm_wp d 93 21 ls st h Q := wp_ifne rfl rfl
theorem s93_11 : mm_wp d 93 11 ls st h Q ↔ mm_wp d 93 14 ls (.ref (mm_n h) :: st) (mm_nw h 30 6 6) Q := wp_new rfl rfl rfl rfl
theorem s93_14 : mm_wp d 93 14 ls (.ref a :: st) h Q ↔ mm_wp d 93 15 ls (.ref a :: .ref a :: st) h Q := wp_dupR rfl
theorem s93_15 : mm_wp d 93 15 ls st h Q ↔ mm_wp d 93 17 ls (.float (UInt32.ofNat 9) :: st) h Q := wp_ldcS rfl rfl rfl
theorem s93_17 : mm_wp d 93 17 ls (.float q :: .ref a :: [t0]) h Q ↔ (mm_s h a).1 = 30 ∧ mm_wp d 93 20 ls [t0] h Q := wp_excInit (z := 1001) rfl rfl (Nat.le_of_ble_eq_true rfl) rfl (Nat.le_of_ble_eq_true rfl)
theorem s93_20 : mm_wp d 93 20 ls (.ref a :: st) h Q ↔ 30 ≤ (mm_s h a).1 ∧ Q (.inr a) h := wp_athrow rfl rfl
theorem s93_21 : mm_wp d 93 21 [l0, .int x] st h Q ↔ mm_wp d 93 22 [l0, .int x] (.int x :: st) h Q := wp_iload_n rfl rfl
theorem s93_22 : mm_wp d 93 22 [.ref a, l1] st h Q ↔ mm_wp d 93 23 [.ref a, l1] (.ref a :: st) h Q := wp_aloadR_n rfl rfl
theorem s93_23 : mm_wp d 93 23 ls (.ref a :: st) h Q ↔ (mm_s h a).1 = 9 ∧ mm_wp d 93 26 ls (mm_o (mm_r h a 3) :: st) h Q := wp_getR rfl rfl
theorem s93_26 : mm_wp (d + 1) 93 26 ls [.ref a, t0] h Q ↔ (mm_s h a).1 = 0 ∧ mm_wp d 94 0 [.ref a] [] h (mm_bk (d + 1) 93 26 ls [t0] Q) := wp_virtual rfl rfl ⟨by decide, rfl⟩ ⟨Nat.le_of_ble_eq_true rfl, Nat.le_of_ble_eq_true rfl⟩ rfl rfl rfl rfl rfl rfl
theorem s93_29 : mm_wp d 93 29 ls (.int x2 :: .int x :: st) h Q ↔ if x2 < x then mm_wp d 93 42 ls st h Q else mm_wp d 93 32 ls st h Q := wp_icmpgt rfl rfl
theorem s93_32 : mm_wp d 93 32 ls st h Q ↔ mm_wp d 93 35 ls (.ref (mm_n h) :: st) (mm_nw h 30 6 6) Q := wp_new rfl rfl rfl rfl
theorem s93_35 : mm_wp d 93 35 ls (.ref a :: st) h Q ↔ mm_wp d 93 36 ls (.ref a :: .ref a :: st) h Q := wp_dupR rfl
theorem s93_36 : mm_wp d 93 36 ls st h Q ↔ mm_wp d 93 38 ls (.float (UInt32.ofNat 10) :: st) h Q := wp_ldcS rfl rfl rfl
theorem s93_38 : mm_wp d 93 38 ls (.float q :: .ref a :: [t0]) h Q ↔ (mm_s h a).1 = 30 ∧ mm_wp d 93 41 ls [t0] h Q := wp_excInit (z := 1001) rfl rfl (Nat.le_of_ble_eq_true rfl) rfl (Nat.le_of_ble_eq_true rfl)
theorem s93_41 : mm_wp d 93 41 ls (.ref a :: st) h Q ↔ 30 ≤ (mm_s h a).1 ∧ Q (.inr a) h := wp_athrow rfl rfl
theorem s93_42 : mm_wp d 93 42 [.ref a, l1] st h Q ↔ mm_wp d 93 43 [.ref a, l1] (.ref a :: st) h Q := wp_aloadR_n rfl rfl
theorem s93_43 : mm_wp d 93 43 ls (.ref a :: st) h Q ↔ (mm_s h a).1 = 9 ∧ mm_wp d 93 46 ls (mm_o (mm_r h a 3) :: st) h Q := wp_getR rfl rfl
theorem s93_46 : mm_wp (d + 1) 93 46 ls [.ref a] h Q ↔ (mm_s h a).1 = 0 ∧ mm_wp d 95 0 [.ref a] [] h (mm_bk (d + 1) 93 46 ls [] Q) := wp_virtual rfl rfl ⟨by decide, rfl⟩ ⟨Nat.le_of_ble_eq_true rfl, Nat.le_of_ble_eq_true rfl⟩ rfl rfl rfl rfl rfl rfl
theorem s93_49 : mm_wp d 93 49 ls (.int x :: st) h Q ↔ if x = 0 then mm_wp d 93 62 ls st h Q else mm_wp d 93 52 ls st h Q := wp_ifeq rfl rfl
theorem s93_52 : mm_wp d 93 52 ls st h Q ↔ mm_wp d 93 55 ls (.ref (mm_n h) :: st) (mm_nw h 31 6 6) Q := wp_new rfl rfl rfl rfl
theorem s93_55 : mm_wp d 93 55 ls (.ref a :: st) h Q ↔ mm_wp d 93 56 ls (.ref a :: .ref a :: st) h Q := wp_dupR rfl
theorem s93_56 : mm_wp d 93 56 ls st h Q ↔ mm_wp d 93 58 ls (.float (UInt32.ofNat 11) :: st) h Q := wp_ldcS rfl rfl rfl
theorem s93_58 : mm_wp d 93 58 ls (.float q :: .ref a :: [t0]) h Q ↔ (mm_s h a).1 = 31 ∧ mm_wp d 93 61 ls [t0] h Q := wp_excInit (z := 1002) rfl rfl (Nat.le_of_ble_eq_true rfl) rfl (Nat.le_of_ble_eq_true rfl)
theorem s93_61 : mm_wp d 93 61 ls (.ref a :: st) h Q ↔ 30 ≤ (mm_s h a).1 ∧ Q (.inr a) h := wp_athrow rfl rfl
theorem s93_62 : mm_wp d 93 62 [.ref a, l1] st h Q ↔ mm_wp d 93 63 [.ref a, l1] (.ref a :: st) h Q := wp_aloadR_n rfl rfl
theorem s93_63 : mm_wp d 93 63 ls (.ref a :: st) h Q ↔ (mm_s h a).1 = 9 ∧ mm_wp d 93 66 ls (mm_o (mm_r h a 3) :: st) h Q := wp_getR rfl rfl
theorem s93_66 : mm_wp d 93 66 [l0, .int x] st h Q ↔ mm_wp d 93 67 [l0, .int x] (.int x :: st) h Q := wp_iload_n rfl rfl
theorem s93_67 : mm_wp (d + 1) 93 67 ls [.int x2, .ref a] h Q ↔ (mm_s h a).1 = 0 ∧ mm_wp d 96 0 [.ref a, .int x2] [] h (mm_bk (d + 1) 93 67 ls [] Q) := wp_virtual rfl rfl ⟨by decide, rfl⟩ ⟨Nat.le_of_ble_eq_true rfl, Nat.le_of_ble_eq_true rfl⟩ rfl rfl rfl rfl rfl rfl
theorem s93_70 : mm_wp d 93 70 ls (.int x :: st) h Q ↔ Q (.inl (some (.int x))) h := wp_iret rfl rfl
/-! 94: LoadRoom$Axles.lastPlace()I -/
theorem s94_0 : mm_wp d 94 0 [.ref a] st h Q ↔ mm_wp d 94 1 [.ref a] (.ref a :: st) h Q := wp_aloadR_n rfl rfl
theorem s94_1 : mm_wp d 94 1 ls (.ref a :: st) h Q ↔ (mm_s h a).1 = 0 ∧ mm_wp d 94 4 ls (.int (mm_i h a 1) :: st) h Q := wp_getI rfl rfl (by decide) (by decide)
theorem s94_4 : mm_wp d 94 4 ls (.int x :: st) h Q ↔ if x ≤ 0 then mm_wp d 94 21 ls st h Q else mm_wp d 94 7 ls st h Q := wp_ifle rfl rfl
theorem s94_7 : mm_wp d 94 7 [.ref a] st h Q ↔ mm_wp d 94 8 [.ref a] (.ref a :: st) h Q := wp_aloadR_n rfl rfl
theorem s94_8 : mm_wp d 94 8 ls (.ref a :: st) h Q ↔ (mm_s h a).1 = 0 ∧ mm_wp d 94 11 ls (mm_o (mm_r h a 0) :: st) h Q := wp_getR rfl rfl
theorem s94_11 : mm_wp d 94 11 [.ref a] st h Q ↔ mm_wp d 94 12 [.ref a] (.ref a :: st) h Q := wp_aloadR_n rfl rfl
theorem s94_12 : mm_wp d 94 12 ls (.ref a :: st) h Q ↔ (mm_s h a).1 = 0 ∧ mm_wp d 94 15 ls (.int (mm_i h a 1) :: st) h Q := wp_getI rfl rfl (by decide) (by decide)
theorem s94_15 : mm_wp d 94 15 ls st h Q ↔ mm_wp d 94 16 ls (.int (1 : Int32) :: st) h Q := wp_iconst rfl rfl
theorem s94_16 : mm_wp d 94 16 ls (.int x2 :: .int x :: st) h Q ↔ mm_wp d 94 17 ls (.int (x - x2) :: st) h Q := wp_isub rfl
theorem s94_17 : mm_wp d 94 17 ls (.int x :: .ref a :: st) h Q ↔ ((mm_s h a).1 = 20 ∧ mm_in x (mm_s h a).2 = true) ∧ mm_wp d 94 18 ls (.int (mm_i h a x.toNatClampNeg) :: st) h Q := wp_iaload rfl
theorem s94_18 : mm_wp d 94 18 ls st h Q ↔ mm_wp d 94 22 ls st h Q := wp_goto rfl rfl
theorem s94_21 : mm_wp d 94 21 ls st h Q ↔ mm_wp d 94 22 ls (.int (-1 : Int32) :: st) h Q := wp_iconst rfl rfl
theorem s94_22 : mm_wp d 94 22 ls (.int x :: st) h Q ↔ Q (.inl (some (.int x))) h := wp_iret rfl rfl
/-! 95: LoadRoom$Axles.isFull()Z -/
theorem s95_0 : mm_wp d 95 0 [.ref a] st h Q ↔ mm_wp d 95 1 [.ref a] (.ref a :: st) h Q := wp_aloadR_n rfl rfl
theorem s95_1 : mm_wp d 95 1 ls (.ref a :: st) h Q ↔ (mm_s h a).1 = 0 ∧ mm_wp d 95 4 ls (.int (mm_i h a 1) :: st) h Q := wp_getI rfl rfl (by decide) (by decide)
theorem s95_4 : mm_wp d 95 4 ls st h Q ↔ mm_wp d 95 6 ls (.int (6 : Int32) :: st) h Q := wp_bipush rfl rfl
theorem s95_6 : mm_wp d 95 6 ls (.int x2 :: .int x :: st) h Q ↔ if x < x2 then mm_wp d 95 13 ls st h Q else mm_wp d 95 9 ls st h Q := wp_icmplt rfl rfl
theorem s95_9 : mm_wp d 95 9 ls st h Q ↔ mm_wp d 95 10 ls (.int (1 : Int32) :: st) h Q := wp_iconst rfl rfl
theorem s95_10 : mm_wp d 95 10 ls st h Q ↔ mm_wp d 95 14 ls st h Q := wp_goto rfl rfl
theorem s95_13 : mm_wp d 95 13 ls st h Q ↔ mm_wp d 95 14 ls (.int (0 : Int32) :: st) h Q := wp_iconst rfl rfl
theorem s95_14 : mm_wp d 95 14 ls (.int x :: st) h Q ↔ (x = 0 ∨ x = 1) ∧ Q (.inl (some (.int x))) h := wp_zret rfl rfl
/-! 96: LoadRoom$Axles.add(I)I -/
theorem s96_0 : mm_wp d 96 0 [.ref a, l1] st h Q ↔ mm_wp d 96 1 [.ref a, l1] (.ref a :: st) h Q := wp_aloadR_n rfl rfl
theorem s96_1 : mm_wp (d + 1) 96 1 ls [.ref a] h Q ↔ (mm_s h a).1 = 0 ∧ mm_wp d 95 0 [.ref a] [] h (mm_bk (d + 1) 96 1 ls [] Q) := wp_virtual rfl rfl ⟨by decide, rfl⟩ ⟨Nat.le_of_ble_eq_true rfl, Nat.le_of_ble_eq_true rfl⟩ rfl rfl rfl rfl rfl rfl
theorem s96_4 : mm_wp d 96 4 ls (.int x :: st) h Q ↔ if x = 0 then mm_wp d 96 9 ls st h Q else mm_wp d 96 7 ls st h Q := wp_ifeq rfl rfl
theorem s96_7 : mm_wp d 96 7 ls st h Q ↔ mm_wp d 96 8 ls (.int (-1 : Int32) :: st) h Q := wp_iconst rfl rfl
theorem s96_8 : mm_wp d 96 8 ls (.int x :: st) h Q ↔ Q (.inl (some (.int x))) h := wp_iret rfl rfl
theorem s96_9 : mm_wp d 96 9 [.ref a, l1] st h Q ↔ mm_wp d 96 10 [.ref a, l1] (.ref a :: st) h Q := wp_aloadR_n rfl rfl
theorem s96_10 : mm_wp d 96 10 ls (.ref a :: st) h Q ↔ (mm_s h a).1 = 0 ∧ mm_wp d 96 13 ls (mm_o (mm_r h a 0) :: st) h Q := wp_getR rfl rfl
theorem s96_13 : mm_wp d 96 13 [.ref a, l1] st h Q ↔ mm_wp d 96 14 [.ref a, l1] (.ref a :: st) h Q := wp_aloadR_n rfl rfl
theorem s96_14 : mm_wp d 96 14 ls (.ref a :: st) h Q ↔ (mm_s h a).1 = 0 ∧ mm_wp d 96 17 ls (.int (mm_i h a 1) :: st) h Q := wp_getI rfl rfl (by decide) (by decide)
theorem s96_17 : mm_wp d 96 17 [l0, .int x] st h Q ↔ mm_wp d 96 18 [l0, .int x] (.int x :: st) h Q := wp_iload_n rfl rfl
theorem s96_18 : mm_wp d 96 18 ls (.int x2 :: .int x :: .ref a :: st) h Q ↔ ((mm_s h a).1 = 20 ∧ ¬ a = 0 ∧ mm_in x (mm_s h a).2 = true) ∧ mm_wp d 96 19 ls st (mm_pi h a x.toNatClampNeg x2) Q := wp_iastore rfl
theorem s96_19 : mm_wp d 96 19 [.ref a, l1] st h Q ↔ mm_wp d 96 20 [.ref a, l1] (.ref a :: st) h Q := wp_aloadR_n rfl rfl
theorem s96_20 : mm_wp d 96 20 ls (.ref a :: st) h Q ↔ mm_wp d 96 21 ls (.ref a :: .ref a :: st) h Q := wp_dupR rfl
theorem s96_21 : mm_wp d 96 21 ls (.ref a :: st) h Q ↔ (mm_s h a).1 = 0 ∧ mm_wp d 96 24 ls (.int (mm_i h a 1) :: st) h Q := wp_getI rfl rfl (by decide) (by decide)
theorem s96_24 : mm_wp d 96 24 ls st h Q ↔ mm_wp d 96 25 ls (.int (1 : Int32) :: st) h Q := wp_iconst rfl rfl
theorem s96_25 : mm_wp d 96 25 ls (.int x2 :: .int x :: st) h Q ↔ mm_wp d 96 26 ls (.int (x + x2) :: st) h Q := wp_iadd rfl
theorem s96_26 : mm_wp d 96 26 ls (.int x :: .ref a :: st) h Q ↔ (mm_s h a).1 = 0 ∧ mm_wp d 96 29 ls st (mm_pi h a 1 x) Q := wp_putI rfl rfl
theorem s96_29 : mm_wp d 96 29 [.ref a, l1] st h Q ↔ mm_wp d 96 30 [.ref a, l1] (.ref a :: st) h Q := wp_aloadR_n rfl rfl
theorem s96_30 : mm_wp d 96 30 ls (.ref a :: st) h Q ↔ (mm_s h a).1 = 0 ∧ mm_wp d 96 33 ls (.int (mm_i h a 1) :: st) h Q := wp_getI rfl rfl (by decide) (by decide)
theorem s96_33 : mm_wp d 96 33 ls st h Q ↔ mm_wp d 96 34 ls (.int (1 : Int32) :: st) h Q := wp_iconst rfl rfl
theorem s96_34 : mm_wp d 96 34 ls (.int x2 :: .int x :: st) h Q ↔ mm_wp d 96 35 ls (.int (x - x2) :: st) h Q := wp_isub rfl
theorem s96_35 : mm_wp d 96 35 ls (.int x :: st) h Q ↔ Q (.inl (some (.int x))) h := wp_iret rfl rfl
/-! 97: LoadRoomLaw.load(LLoadRoom;II[J)I -/
theorem s97_0 : mm_wp d 97 0 [l0, l1, l2, .ref a, l4] st h Q ↔ mm_wp d 97 1 [l0, l1, l2, .ref a, l4] (.ref a :: st) h Q := wp_aloadR_n rfl rfl
theorem s97_0o : mm_wp d 97 0 [l0, l1, l2, mm_o o, l4] st h Q ↔ mm_wp d 97 1 [l0, l1, l2, mm_o o, l4] (mm_o o :: st) h Q := wp_aload_n rfl o rfl
theorem s97_0n : mm_wp d 97 0 [l0, l1, l2, .null, l4] st h Q ↔ mm_wp d 97 1 [l0, l1, l2, .null, l4] (.null :: st) h Q := wp_aload_n rfl none rfl
theorem s97_1 : mm_wp d 97 1 ls st h Q ↔ mm_wp d 97 2 ls (.int (0 : Int32) :: st) h Q := wp_iconst rfl rfl
theorem s97_2 : mm_wp d 97 2 [.ref a, l1, l2, l3, l4] st h Q ↔ mm_wp d 97 3 [.ref a, l1, l2, l3, l4] (.ref a :: st) h Q := wp_aloadR_n rfl rfl
theorem s97_2o : mm_wp d 97 2 [mm_o o, l1, l2, l3, l4] st h Q ↔ mm_wp d 97 3 [mm_o o, l1, l2, l3, l4] (mm_o o :: st) h Q := wp_aload_n rfl o rfl
theorem s97_2n : mm_wp d 97 2 [.null, l1, l2, l3, l4] st h Q ↔ mm_wp d 97 3 [.null, l1, l2, l3, l4] (.null :: st) h Q := wp_aload_n rfl none rfl
theorem s97_3 : mm_wp d 97 3 [l0, .int x, l2, l3, l4] st h Q ↔ mm_wp d 97 4 [l0, .int x, l2, l3, l4] (.int x :: st) h Q := wp_iload_n rfl rfl
theorem s97_4 : mm_wp d 97 4 [l0, l1, .int x, l3, l4] st h Q ↔ mm_wp d 97 5 [l0, l1, .int x, l3, l4] (.int x :: st) h Q := wp_iload_n rfl rfl
theorem s97_5 : mm_wp (d + 1) 97 5 ls [.int x3, .int x2, .ref a, t1, t0] h Q ↔ (mm_s h a).1 = 9 ∧ mm_wp d 98 0 [.ref a, .int x2, .int x3] [] h (mm_bk (d + 1) 97 5 ls [t1, t0] Q) := wp_virtual rfl rfl ⟨by decide, rfl⟩ ⟨Nat.le_of_ble_eq_true rfl, Nat.le_of_ble_eq_true rfl⟩ rfl rfl rfl rfl rfl rfl
theorem s97_8 : mm_wp d 97 8 ls (.long w :: .int x :: .ref a :: st) h Q ↔ ((mm_s h a).1 = 21 ∧ mm_in x (mm_s h a).2 = true) ∧ mm_wp d 97 9 ls st (mm_pl h a x.toNatClampNeg w) Q := wp_lastore rfl
theorem s97_9 : mm_wp d 97 9 ls st h Q ↔ mm_wp d 97 24 ls st h Q := wp_goto rfl rfl
theorem s97_12 : mm_wp d 97 12 [l0, l1, l2, l3, l4] (.ref a :: st) h Q ↔ mm_wp d 97 14 [l0, l1, l2, l3, .ref a] st h Q := wp_astoreR rfl rfl
theorem s97_12o : mm_wp d 97 12 [l0, l1, l2, l3, l4] (mm_o o :: st) h Q ↔ mm_wp d 97 14 [l0, l1, l2, l3, mm_o o] st h Q := wp_astore rfl o rfl
theorem s97_12n : mm_wp d 97 12 [l0, l1, l2, l3, l4] (.null :: st) h Q ↔ mm_wp d 97 14 [l0, l1, l2, l3, .null] st h Q := wp_astore rfl none rfl
theorem s97_14 : mm_wp d 97 14 ls st h Q ↔ mm_wp d 97 15 ls (.int (1 : Int32) :: st) h Q := wp_iconst rfl rfl
theorem s97_15 : mm_wp d 97 15 ls (.int x :: st) h Q ↔ Q (.inl (some (.int x))) h := wp_iret rfl rfl
theorem s97_16 : mm_wp d 97 16 [l0, l1, l2, l3, l4] (.ref a :: st) h Q ↔ mm_wp d 97 18 [l0, l1, l2, l3, .ref a] st h Q := wp_astoreR rfl rfl
theorem s97_16o : mm_wp d 97 16 [l0, l1, l2, l3, l4] (mm_o o :: st) h Q ↔ mm_wp d 97 18 [l0, l1, l2, l3, mm_o o] st h Q := wp_astore rfl o rfl
theorem s97_16n : mm_wp d 97 16 [l0, l1, l2, l3, l4] (.null :: st) h Q ↔ mm_wp d 97 18 [l0, l1, l2, l3, .null] st h Q := wp_astore rfl none rfl
theorem s97_18 : mm_wp d 97 18 ls st h Q ↔ mm_wp d 97 19 ls (.int (2 : Int32) :: st) h Q := wp_iconst rfl rfl
theorem s97_19 : mm_wp d 97 19 ls (.int x :: st) h Q ↔ Q (.inl (some (.int x))) h := wp_iret rfl rfl
theorem s97_20 : mm_wp d 97 20 [l0, l1, l2, l3, l4] (.ref a :: st) h Q ↔ mm_wp d 97 22 [l0, l1, l2, l3, .ref a] st h Q := wp_astoreR rfl rfl
theorem s97_20o : mm_wp d 97 20 [l0, l1, l2, l3, l4] (mm_o o :: st) h Q ↔ mm_wp d 97 22 [l0, l1, l2, l3, mm_o o] st h Q := wp_astore rfl o rfl
theorem s97_20n : mm_wp d 97 20 [l0, l1, l2, l3, l4] (.null :: st) h Q ↔ mm_wp d 97 22 [l0, l1, l2, l3, .null] st h Q := wp_astore rfl none rfl
theorem s97_22 : mm_wp d 97 22 ls st h Q ↔ mm_wp d 97 23 ls (.int (3 : Int32) :: st) h Q := wp_iconst rfl rfl
theorem s97_23 : mm_wp d 97 23 ls (.int x :: st) h Q ↔ Q (.inl (some (.int x))) h := wp_iret rfl rfl
theorem s97_24 : mm_wp d 97 24 ls st h Q ↔ mm_wp d 97 25 ls (.int (0 : Int32) :: st) h Q := wp_iconst rfl rfl
theorem s97_25 : mm_wp d 97 25 ls (.int x :: st) h Q ↔ Q (.inl (some (.int x))) h := wp_iret rfl rfl
/-! 98: LoadRoom.load(II)J -/
theorem s98_0 : mm_wp d 98 0 [.ref a, l1, l2] st h Q ↔ mm_wp d 98 1 [.ref a, l1, l2] (.ref a :: st) h Q := wp_aloadR_n rfl rfl
theorem s98_1 : mm_wp d 98 1 ls (.ref a :: st) h Q ↔ (mm_s h a).1 = 9 ∧ mm_wp d 98 4 ls (mm_o (mm_r h a 3) :: st) h Q := wp_getR rfl rfl
theorem s98_4 : mm_wp d 98 4 ls (.ref a :: st) h Q ↔ (mm_s h a).1 = 0 ∧ mm_wp d 98 7 ls (.int (mm_i h a 1) :: st) h Q := wp_getI rfl rfl (by decide) (by decide)
theorem s98_7 : mm_wp d 98 7 ls (.int x :: st) h Q ↔ if x = 0 then mm_wp d 98 10 ls st h Q else mm_wp d 98 20 ls st h Q := wp_ifne rfl rfl
theorem s98_10 : mm_wp d 98 10 ls st h Q ↔ mm_wp d 98 13 ls (.ref (mm_n h) :: st) (mm_nw h 33 6 6) Q := wp_new rfl rfl rfl rfl
theorem s98_13 : mm_wp d 98 13 ls (.ref a :: st) h Q ↔ mm_wp d 98 14 ls (.ref a :: .ref a :: st) h Q := wp_dupR rfl
theorem s98_14 : mm_wp d 98 14 ls st h Q ↔ mm_wp d 98 16 ls (.float (UInt32.ofNat 12) :: st) h Q := wp_ldcS rfl rfl rfl
theorem s98_16 : mm_wp d 98 16 ls (.float q :: .ref a :: [t0]) h Q ↔ (mm_s h a).1 = 33 ∧ mm_wp d 98 19 ls [t0] h Q := wp_excInit (z := 1004) rfl rfl (Nat.le_of_ble_eq_true rfl) rfl (Nat.le_of_ble_eq_true rfl)
theorem s98_19 : mm_wp d 98 19 ls (.ref a :: st) h Q ↔ 30 ≤ (mm_s h a).1 ∧ Q (.inr a) h := wp_athrow rfl rfl
theorem s98_20 : mm_wp d 98 20 [.ref a, l1, l2] st h Q ↔ mm_wp d 98 21 [.ref a, l1, l2] (.ref a :: st) h Q := wp_aloadR_n rfl rfl
theorem s98_21 : mm_wp d 98 21 ls (.ref a :: st) h Q ↔ (mm_s h a).1 = 9 ∧ mm_wp d 98 24 ls (mm_o (mm_r h a 3) :: st) h Q := wp_getR rfl rfl
theorem s98_24 : mm_wp d 98 24 [l0, .int x, l2] st h Q ↔ mm_wp d 98 25 [l0, .int x, l2] (.int x :: st) h Q := wp_iload_n rfl rfl
theorem s98_25 : mm_wp (d + 1) 98 25 ls [.int x2, .ref a] h Q ↔ (mm_s h a).1 = 0 ∧ mm_wp d 99 0 [.ref a, .int x2] [] h (mm_bk (d + 1) 98 25 ls [] Q) := wp_virtual rfl rfl ⟨by decide, rfl⟩ ⟨Nat.le_of_ble_eq_true rfl, Nat.le_of_ble_eq_true rfl⟩ rfl rfl rfl rfl rfl rfl
theorem s98_28 : mm_wp d 98 28 ls (.int x :: st) h Q ↔ if x = 0 then mm_wp d 98 31 ls st h Q else mm_wp d 98 41 ls st h Q := wp_ifne rfl rfl
theorem s98_31 : mm_wp d 98 31 ls st h Q ↔ mm_wp d 98 34 ls (.ref (mm_n h) :: st) (mm_nw h 32 6 6) Q := wp_new rfl rfl rfl rfl
theorem s98_34 : mm_wp d 98 34 ls (.ref a :: st) h Q ↔ mm_wp d 98 35 ls (.ref a :: .ref a :: st) h Q := wp_dupR rfl
theorem s98_35 : mm_wp d 98 35 ls st h Q ↔ mm_wp d 98 37 ls (.float (UInt32.ofNat 13) :: st) h Q := wp_ldcS rfl rfl rfl
theorem s98_37 : mm_wp d 98 37 ls (.float q :: .ref a :: [t0]) h Q ↔ (mm_s h a).1 = 32 ∧ mm_wp d 98 40 ls [t0] h Q := wp_excInit (z := 1003) rfl rfl (Nat.le_of_ble_eq_true rfl) rfl (Nat.le_of_ble_eq_true rfl)
theorem s98_40 : mm_wp d 98 40 ls (.ref a :: st) h Q ↔ 30 ≤ (mm_s h a).1 ∧ Q (.inr a) h := wp_athrow rfl rfl
theorem s98_41 : mm_wp d 98 41 [l0, l1, .int x] st h Q ↔ mm_wp d 98 42 [l0, l1, .int x] (.int x :: st) h Q := wp_iload_n rfl rfl
theorem s98_42 : mm_wp d 98 42 ls st h Q ↔ mm_wp d 98 43 ls (.int (0 : Int32) :: st) h Q := wp_iconst rfl rfl
theorem s98_43 : mm_wp d 98 43 ls st h Q ↔ mm_wp d 98 44 ls (.int (1 : Int32) :: st) h Q := wp_iconst rfl rfl
theorem s98_44 : mm_wp (d + 1) 98 44 ls [.int x3, .int x2, .int x] h Q ↔ mm_wp d 25 0 [.int x, .int x2, .int x3] [] h (mm_bk (d + 1) 98 44 ls [] Q) := wp_static rfl rfl ⟨by decide, rfl⟩ ⟨Nat.le_of_ble_eq_true rfl, Nat.le_of_ble_eq_true rfl⟩ rfl rfl rfl rfl
theorem s98_47 : mm_wp d 98 47 ls (.int x :: st) h Q ↔ if x = 0 then mm_wp d 98 50 ls st h Q else mm_wp d 98 60 ls st h Q := wp_ifne rfl rfl
theorem s98_50 : mm_wp d 98 50 ls st h Q ↔ mm_wp d 98 53 ls (.ref (mm_n h) :: st) (mm_nw h 30 6 6) Q := wp_new rfl rfl rfl rfl
theorem s98_53 : mm_wp d 98 53 ls (.ref a :: st) h Q ↔ mm_wp d 98 54 ls (.ref a :: .ref a :: st) h Q := wp_dupR rfl
theorem s98_54 : mm_wp d 98 54 ls st h Q ↔ mm_wp d 98 56 ls (.float (UInt32.ofNat 14) :: st) h Q := wp_ldcS rfl rfl rfl
theorem s98_56 : mm_wp d 98 56 ls (.float q :: .ref a :: [t0]) h Q ↔ (mm_s h a).1 = 30 ∧ mm_wp d 98 59 ls [t0] h Q := wp_excInit (z := 1001) rfl rfl (Nat.le_of_ble_eq_true rfl) rfl (Nat.le_of_ble_eq_true rfl)
theorem s98_59 : mm_wp d 98 59 ls (.ref a :: st) h Q ↔ 30 ≤ (mm_s h a).1 ∧ Q (.inr a) h := wp_athrow rfl rfl
theorem s98_60 : mm_wp d 98 60 [.ref a, l1, l2] st h Q ↔ mm_wp d 98 61 [.ref a, l1, l2] (.ref a :: st) h Q := wp_aloadR_n rfl rfl
theorem s98_61 : mm_wp d 98 61 ls (.ref a :: st) h Q ↔ (mm_s h a).1 = 9 ∧ mm_wp d 98 64 ls (mm_o (mm_r h a 3) :: st) h Q := wp_getR rfl rfl
theorem s98_64 : mm_wp d 98 64 [l0, .int x, l2] st h Q ↔ mm_wp d 98 65 [l0, .int x, l2] (.int x :: st) h Q := wp_iload_n rfl rfl
theorem s98_65 : mm_wp d 98 65 [l0, l1, .int x] st h Q ↔ mm_wp d 98 66 [l0, l1, .int x] (.int x :: st) h Q := wp_iload_n rfl rfl
theorem s98_66 : mm_wp d 98 66 [.ref a, l1, l2] st h Q ↔ mm_wp d 98 67 [.ref a, l1, l2] (.ref a :: st) h Q := wp_aloadR_n rfl rfl
theorem s98_67 : mm_wp d 98 67 ls (.ref a :: st) h Q ↔ (mm_s h a).1 = 9 ∧ mm_wp d 98 70 ls (mm_o (mm_r h a 2) :: st) h Q := wp_getR rfl rfl
theorem s98_70 : mm_wp d 98 70 ls (.ref a :: st) h Q ↔ (mm_s h a).1 = 8 ∧ mm_wp d 98 73 ls (mm_o (mm_r h a 3) :: st) h Q := wp_getR rfl rfl
theorem s98_73 : mm_wp (d + 1) 98 73 ls [.ref b, .int x3, .int x2, .ref a] h Q ↔ (mm_s h a).1 = 0 ∧ mm_wp d 100 0 [.ref a, .int x2, .int x3, .ref b, mm_j, mm_j, mm_j, mm_j, mm_j, mm_j] [] h (mm_bk (d + 1) 98 73 ls [] Q) := wp_virtual rfl rfl ⟨by decide, rfl⟩ ⟨Nat.le_of_ble_eq_true rfl, Nat.le_of_ble_eq_true rfl⟩ rfl rfl rfl rfl rfl rfl
theorem s98_76 : mm_wp d 98 76 ls (.long w :: st) h Q ↔ Q (.inl (some (.long w))) h := wp_lret rfl rfl
/-! 99: LoadRoom$Axles.has(I)Z -/
theorem s99_0 : mm_wp d 99 0 [l0, .int x] st h Q ↔ mm_wp d 99 1 [l0, .int x] (.int x :: st) h Q := wp_iload_n rfl rfl
theorem s99_1 : mm_wp d 99 1 ls (.int x :: st) h Q ↔ if x < 0 then mm_wp d 99 16 ls st h Q else mm_wp d 99 4 ls st h Q := wp_iflt rfl rfl
theorem s99_4 : mm_wp d 99 4 [l0, .int x] st h Q ↔ mm_wp d 99 5 [l0, .int x] (.int x :: st) h Q := wp_iload_n rfl rfl
theorem s99_5 : mm_wp d 99 5 [.ref a, l1] st h Q ↔ mm_wp d 99 6 [.ref a, l1] (.ref a :: st) h Q := wp_aloadR_n rfl rfl
theorem s99_6 : mm_wp d 99 6 ls (.ref a :: st) h Q ↔ (mm_s h a).1 = 0 ∧ mm_wp d 99 9 ls (.int (mm_i h a 1) :: st) h Q := wp_getI rfl rfl (by decide) (by decide)
theorem s99_9 : mm_wp d 99 9 ls (.int x2 :: .int x :: st) h Q ↔ if x2 ≤ x then mm_wp d 99 16 ls st h Q else mm_wp d 99 12 ls st h Q := wp_icmpge rfl rfl
theorem s99_12 : mm_wp d 99 12 ls st h Q ↔ mm_wp d 99 13 ls (.int (1 : Int32) :: st) h Q := wp_iconst rfl rfl
theorem s99_13 : mm_wp d 99 13 ls st h Q ↔ mm_wp d 99 17 ls st h Q := wp_goto rfl rfl
theorem s99_16 : mm_wp d 99 16 ls st h Q ↔ mm_wp d 99 17 ls (.int (0 : Int32) :: st) h Q := wp_iconst rfl rfl
theorem s99_17 : mm_wp d 99 17 ls (.int x :: st) h Q ↔ (x = 0 ∨ x = 1) ∧ Q (.inl (some (.int x))) h := wp_zret rfl rfl
/-! 100: LoadRoom$Axles.share(IILLoadRoom$Row;)J -/
theorem s100_0 : mm_wp d 100 0 [.ref a, l1, l2, l3, l4, l5, l6, l7, l8, l9] st h Q ↔ mm_wp d 100 1 [.ref a, l1, l2, l3, l4, l5, l6, l7, l8, l9] (.ref a :: st) h Q := wp_aloadR_n rfl rfl
theorem s100_1 : mm_wp d 100 1 [l0, .int x, l2, l3, l4, l5, l6, l7, l8, l9] st h Q ↔ mm_wp d 100 2 [l0, .int x, l2, l3, l4, l5, l6, l7, l8, l9] (.int x :: st) h Q := wp_iload_n rfl rfl
theorem s100_2 : mm_wp d 100 2 ls st h Q ↔ mm_wp d 100 3 ls (.int (1 : Int32) :: st) h Q := wp_iconst rfl rfl
theorem s100_3 : mm_wp d 100 3 ls (.int x2 :: .int x :: st) h Q ↔ mm_wp d 100 4 ls (.int (x - x2) :: st) h Q := wp_isub rfl
theorem s100_4 : mm_wp (d + 1) 100 4 ls [.int x2, .ref a] h Q ↔ (mm_s h a).1 = 0 ∧ mm_wp d 101 0 [.ref a, .int x2] [] h (mm_bk (d + 1) 100 4 ls [] Q) := wp_virtual rfl rfl ⟨by decide, rfl⟩ ⟨Nat.le_of_ble_eq_true rfl, Nat.le_of_ble_eq_true rfl⟩ rfl rfl rfl rfl rfl rfl
theorem s100_7 : mm_wp d 100 7 ls (.int x :: st) h Q ↔ mm_wp d 100 8 ls (.long x.toInt64 :: st) h Q := wp_i2l rfl
theorem s100_8 : mm_wp d 100 8 [l0, l1, l2, l3, l4, l5, l6, l7, l8, l9] (.long w :: st) h Q ↔ mm_wp d 100 10 [l0, l1, l2, l3, .long w, mm_j, l6, l7, l8, l9] st h Q := wp_lstore rfl rfl
theorem s100_10 : mm_wp d 100 10 [.ref a, l1, l2, l3, l4, l5, l6, l7, l8, l9] st h Q ↔ mm_wp d 100 11 [.ref a, l1, l2, l3, l4, l5, l6, l7, l8, l9] (.ref a :: st) h Q := wp_aloadR_n rfl rfl
theorem s100_11 : mm_wp d 100 11 [l0, .int x, l2, l3, l4, l5, l6, l7, l8, l9] st h Q ↔ mm_wp d 100 12 [l0, .int x, l2, l3, l4, l5, l6, l7, l8, l9] (.int x :: st) h Q := wp_iload_n rfl rfl
theorem s100_12 : mm_wp (d + 1) 100 12 ls [.int x2, .ref a] h Q ↔ (mm_s h a).1 = 0 ∧ mm_wp d 101 0 [.ref a, .int x2] [] h (mm_bk (d + 1) 100 12 ls [] Q) := wp_virtual rfl rfl ⟨by decide, rfl⟩ ⟨Nat.le_of_ble_eq_true rfl, Nat.le_of_ble_eq_true rfl⟩ rfl rfl rfl rfl rfl rfl
theorem s100_15 : mm_wp d 100 15 ls (.int x :: st) h Q ↔ mm_wp d 100 16 ls (.long x.toInt64 :: st) h Q := wp_i2l rfl
theorem s100_16 : mm_wp d 100 16 [l0, l1, l2, l3, l4, l5, l6, l7, l8, l9] (.long w :: st) h Q ↔ mm_wp d 100 18 [l0, l1, l2, l3, l4, l5, .long w, mm_j, l8, l9] st h Q := wp_lstore rfl rfl
theorem s100_18 : mm_wp d 100 18 [.ref a, l1, l2, l3, l4, l5, l6, l7, l8, l9] st h Q ↔ mm_wp d 100 19 [.ref a, l1, l2, l3, l4, l5, l6, l7, l8, l9] (.ref a :: st) h Q := wp_aloadR_n rfl rfl
theorem s100_19 : mm_wp d 100 19 [l0, .int x, l2, l3, l4, l5, l6, l7, l8, l9] st h Q ↔ mm_wp d 100 20 [l0, .int x, l2, l3, l4, l5, l6, l7, l8, l9] (.int x :: st) h Q := wp_iload_n rfl rfl
theorem s100_20 : mm_wp d 100 20 [l0, l1, l2, .ref a, l4, l5, l6, l7, l8, l9] st h Q ↔ mm_wp d 100 21 [l0, l1, l2, .ref a, l4, l5, l6, l7, l8, l9] (.ref a :: st) h Q := wp_aloadR_n rfl rfl
theorem s100_20o : mm_wp d 100 20 [l0, l1, l2, mm_o o, l4, l5, l6, l7, l8, l9] st h Q ↔ mm_wp d 100 21 [l0, l1, l2, mm_o o, l4, l5, l6, l7, l8, l9] (mm_o o :: st) h Q := wp_aload_n rfl o rfl
theorem s100_20n : mm_wp d 100 20 [l0, l1, l2, .null, l4, l5, l6, l7, l8, l9] st h Q ↔ mm_wp d 100 21 [l0, l1, l2, .null, l4, l5, l6, l7, l8, l9] (.null :: st) h Q := wp_aload_n rfl none rfl
theorem s100_21 : mm_wp (d + 1) 100 21 ls [.ref b, .int x2, .ref a] h Q ↔ (mm_s h a).1 = 0 ∧ mm_wp d 102 0 [.ref a, .int x2, .ref b, mm_j, mm_j, mm_j, mm_j, mm_j] [] h (mm_bk (d + 1) 100 21 ls [] Q) := wp_virtual rfl rfl ⟨by decide, rfl⟩ ⟨Nat.le_of_ble_eq_true rfl, Nat.le_of_ble_eq_true rfl⟩ rfl rfl rfl rfl rfl rfl
theorem s100_24 : mm_wp d 100 24 [l0, l1, l2, l3, l4, l5, .long w, l7, l8, l9] st h Q ↔ mm_wp d 100 26 [l0, l1, l2, l3, l4, l5, .long w, l7, l8, l9] (.long w :: st) h Q := wp_lload rfl rfl
theorem s100_26 : mm_wp d 100 26 ls (.long w2 :: .long w :: st) h Q ↔ mm_wp d 100 27 ls (.long (w * w2) :: st) h Q := wp_lmul rfl
theorem s100_27 : mm_wp d 100 27 [.ref a, l1, l2, l3, l4, l5, l6, l7, l8, l9] st h Q ↔ mm_wp d 100 28 [.ref a, l1, l2, l3, l4, l5, l6, l7, l8, l9] (.ref a :: st) h Q := wp_aloadR_n rfl rfl
theorem s100_28 : mm_wp d 100 28 [l0, .int x, l2, l3, l4, l5, l6, l7, l8, l9] st h Q ↔ mm_wp d 100 29 [l0, .int x, l2, l3, l4, l5, l6, l7, l8, l9] (.int x :: st) h Q := wp_iload_n rfl rfl
theorem s100_29 : mm_wp d 100 29 [l0, l1, l2, .ref a, l4, l5, l6, l7, l8, l9] st h Q ↔ mm_wp d 100 30 [l0, l1, l2, .ref a, l4, l5, l6, l7, l8, l9] (.ref a :: st) h Q := wp_aloadR_n rfl rfl
theorem s100_29o : mm_wp d 100 29 [l0, l1, l2, mm_o o, l4, l5, l6, l7, l8, l9] st h Q ↔ mm_wp d 100 30 [l0, l1, l2, mm_o o, l4, l5, l6, l7, l8, l9] (mm_o o :: st) h Q := wp_aload_n rfl o rfl
theorem s100_29n : mm_wp d 100 29 [l0, l1, l2, .null, l4, l5, l6, l7, l8, l9] st h Q ↔ mm_wp d 100 30 [l0, l1, l2, .null, l4, l5, l6, l7, l8, l9] (.null :: st) h Q := wp_aload_n rfl none rfl
theorem s100_30 : mm_wp (d + 1) 100 30 ls [.ref b, .int x2, .ref a, t0] h Q ↔ (mm_s h a).1 = 0 ∧ mm_wp d 104 0 [.ref a, .int x2, .ref b, mm_j, mm_j, mm_j, mm_j, mm_j] [] h (mm_bk (d + 1) 100 30 ls [t0] Q) := wp_virtual rfl rfl ⟨by decide, rfl⟩ ⟨Nat.le_of_ble_eq_true rfl, Nat.le_of_ble_eq_true rfl⟩ rfl rfl rfl rfl rfl rfl
theorem s100_33 : mm_wp d 100 33 [l0, l1, l2, l3, .long w, l5, l6, l7, l8, l9] st h Q ↔ mm_wp d 100 35 [l0, l1, l2, l3, .long w, l5, l6, l7, l8, l9] (.long w :: st) h Q := wp_lload rfl rfl
theorem s100_35 : mm_wp d 100 35 ls (.long w2 :: .long w :: st) h Q ↔ mm_wp d 100 36 ls (.long (w * w2) :: st) h Q := wp_lmul rfl
theorem s100_36 : mm_wp d 100 36 ls (.long w2 :: .long w :: st) h Q ↔ mm_wp d 100 37 ls (.long (w + w2) :: st) h Q := wp_ladd rfl
theorem s100_37 : mm_wp d 100 37 [l0, l1, l2, l3, l4, l5, l6, l7, l8, l9] (.long w :: st) h Q ↔ mm_wp d 100 39 [l0, l1, l2, l3, l4, l5, l6, l7, .long w, mm_j] st h Q := wp_lstore rfl rfl
theorem s100_39 : mm_wp d 100 39 [l0, l1, l2, l3, l4, l5, l6, l7, .long w, l9] st h Q ↔ mm_wp d 100 41 [l0, l1, l2, l3, l4, l5, l6, l7, .long w, l9] (.long w :: st) h Q := wp_lload rfl rfl
theorem s100_41 : mm_wp d 100 41 [l0, l1, l2, l3, .long w, l5, l6, l7, l8, l9] st h Q ↔ mm_wp d 100 43 [l0, l1, l2, l3, .long w, l5, l6, l7, l8, l9] (.long w :: st) h Q := wp_lload rfl rfl
theorem s100_43 : mm_wp d 100 43 [l0, l1, l2, l3, l4, l5, .long w, l7, l8, l9] st h Q ↔ mm_wp d 100 45 [l0, l1, l2, l3, l4, l5, .long w, l7, l8, l9] (.long w :: st) h Q := wp_lload rfl rfl
theorem s100_45 : mm_wp d 100 45 ls (.long w2 :: .long w :: st) h Q ↔ mm_wp d 100 46 ls (.long (w * w2) :: st) h Q := wp_lmul rfl
theorem s100_46 : mm_wp d 100 46 [l0, l1, .int x, l3, l4, l5, l6, l7, l8, l9] st h Q ↔ mm_wp d 100 47 [l0, l1, .int x, l3, l4, l5, l6, l7, l8, l9] (.int x :: st) h Q := wp_iload_n rfl rfl
theorem s100_47 : mm_wp (d + 1) 100 47 ls [.int x3, .long w2, .long w] h Q ↔ mm_wp d 105 0 [.long w, mm_j, .long w2, mm_j, .int x3, mm_j, mm_j, mm_j, mm_j] [] h (mm_bk (d + 1) 100 47 ls [] Q) := wp_static rfl rfl ⟨by decide, rfl⟩ ⟨Nat.le_of_ble_eq_true rfl, Nat.le_of_ble_eq_true rfl⟩ rfl rfl rfl rfl
theorem s100_50 : mm_wp d 100 50 ls (.long w :: st) h Q ↔ Q (.inl (some (.long w))) h := wp_lret rfl rfl
/-! 101: LoadRoom$Axles.gap(I)I -/
theorem s101_0 : mm_wp d 101 0 [.ref a, l1] st h Q ↔ mm_wp d 101 1 [.ref a, l1] (.ref a :: st) h Q := wp_aloadR_n rfl rfl
theorem s101_1 : mm_wp d 101 1 [l0, .int x] st h Q ↔ mm_wp d 101 2 [l0, .int x] (.int x :: st) h Q := wp_iload_n rfl rfl
theorem s101_2 : mm_wp (d + 1) 101 2 ls [.int x2, .ref a] h Q ↔ (mm_s h a).1 = 0 ∧ mm_wp d 99 0 [.ref a, .int x2] [] h (mm_bk (d + 1) 101 2 ls [] Q) := wp_virtual rfl rfl ⟨by decide, rfl⟩ ⟨Nat.le_of_ble_eq_true rfl, Nat.le_of_ble_eq_true rfl⟩ rfl rfl rfl rfl rfl rfl
theorem s101_5 : mm_wp d 101 5 ls (.int x :: st) h Q ↔ if x = 0 then mm_wp d 101 38 ls st h Q else mm_wp d 101 8 ls st h Q := wp_ifeq rfl rfl
theorem s101_8 : mm_wp d 101 8 [.ref a, l1] st h Q ↔ mm_wp d 101 9 [.ref a, l1] (.ref a :: st) h Q := wp_aloadR_n rfl rfl
theorem s101_9 : mm_wp d 101 9 [l0, .int x] st h Q ↔ mm_wp d 101 10 [l0, .int x] (.int x :: st) h Q := wp_iload_n rfl rfl
theorem s101_10 : mm_wp d 101 10 ls st h Q ↔ mm_wp d 101 11 ls (.int (1 : Int32) :: st) h Q := wp_iconst rfl rfl
theorem s101_11 : mm_wp d 101 11 ls (.int x2 :: .int x :: st) h Q ↔ mm_wp d 101 12 ls (.int (x + x2) :: st) h Q := wp_iadd rfl
theorem s101_12 : mm_wp (d + 1) 101 12 ls [.int x2, .ref a] h Q ↔ (mm_s h a).1 = 0 ∧ mm_wp d 99 0 [.ref a, .int x2] [] h (mm_bk (d + 1) 101 12 ls [] Q) := wp_virtual rfl rfl ⟨by decide, rfl⟩ ⟨Nat.le_of_ble_eq_true rfl, Nat.le_of_ble_eq_true rfl⟩ rfl rfl rfl rfl rfl rfl
theorem s101_15 : mm_wp d 101 15 ls (.int x :: st) h Q ↔ if x = 0 then mm_wp d 101 38 ls st h Q else mm_wp d 101 18 ls st h Q := wp_ifeq rfl rfl
theorem s101_18 : mm_wp d 101 18 ls st h Q ↔ mm_wp d 101 19 ls (.int (2 : Int32) :: st) h Q := wp_iconst rfl rfl
theorem s101_19 : mm_wp d 101 19 [.ref a, l1] st h Q ↔ mm_wp d 101 20 [.ref a, l1] (.ref a :: st) h Q := wp_aloadR_n rfl rfl
theorem s101_20 : mm_wp d 101 20 ls (.ref a :: st) h Q ↔ (mm_s h a).1 = 0 ∧ mm_wp d 101 23 ls (mm_o (mm_r h a 0) :: st) h Q := wp_getR rfl rfl
theorem s101_23 : mm_wp d 101 23 [l0, .int x] st h Q ↔ mm_wp d 101 24 [l0, .int x] (.int x :: st) h Q := wp_iload_n rfl rfl
theorem s101_24 : mm_wp d 101 24 ls st h Q ↔ mm_wp d 101 25 ls (.int (1 : Int32) :: st) h Q := wp_iconst rfl rfl
theorem s101_25 : mm_wp d 101 25 ls (.int x2 :: .int x :: st) h Q ↔ mm_wp d 101 26 ls (.int (x + x2) :: st) h Q := wp_iadd rfl
theorem s101_26 : mm_wp d 101 26 ls (.int x :: .ref a :: st) h Q ↔ ((mm_s h a).1 = 20 ∧ mm_in x (mm_s h a).2 = true) ∧ mm_wp d 101 27 ls (.int (mm_i h a x.toNatClampNeg) :: st) h Q := wp_iaload rfl
theorem s101_27 : mm_wp d 101 27 [.ref a, l1] st h Q ↔ mm_wp d 101 28 [.ref a, l1] (.ref a :: st) h Q := wp_aloadR_n rfl rfl
theorem s101_28 : mm_wp d 101 28 ls (.ref a :: st) h Q ↔ (mm_s h a).1 = 0 ∧ mm_wp d 101 31 ls (mm_o (mm_r h a 0) :: st) h Q := wp_getR rfl rfl
theorem s101_31 : mm_wp d 101 31 [l0, .int x] st h Q ↔ mm_wp d 101 32 [l0, .int x] (.int x :: st) h Q := wp_iload_n rfl rfl
theorem s101_32 : mm_wp d 101 32 ls (.int x :: .ref a :: st) h Q ↔ ((mm_s h a).1 = 20 ∧ mm_in x (mm_s h a).2 = true) ∧ mm_wp d 101 33 ls (.int (mm_i h a x.toNatClampNeg) :: st) h Q := wp_iaload rfl
theorem s101_33 : mm_wp d 101 33 ls (.int x2 :: .int x :: st) h Q ↔ mm_wp d 101 34 ls (.int (x - x2) :: st) h Q := wp_isub rfl
theorem s101_34 : mm_wp d 101 34 ls (.int x2 :: .int x :: st) h Q ↔ mm_wp d 101 35 ls (.int (x * x2) :: st) h Q := wp_imul rfl
theorem s101_35 : mm_wp d 101 35 ls st h Q ↔ mm_wp d 101 39 ls st h Q := wp_goto rfl rfl
theorem s101_38 : mm_wp d 101 38 ls st h Q ↔ mm_wp d 101 39 ls (.int (1 : Int32) :: st) h Q := wp_iconst rfl rfl
theorem s101_39 : mm_wp d 101 39 ls (.int x :: st) h Q ↔ Q (.inl (some (.int x))) h := wp_iret rfl rfl
/-! 102: LoadRoom$Axles.sumFromBefore(ILLoadRoom$Row;)J -/
theorem s102_0 : mm_wp d 102 0 ls st h Q ↔ mm_wp d 102 1 ls (.long (0 : Int64) :: st) h Q := wp_lconst rfl rfl
theorem s102_1 : mm_wp d 102 1 [l0, l1, l2, l3, l4, l5, l6, l7] (.long w :: st) h Q ↔ mm_wp d 102 2 [l0, l1, l2, .long w, mm_j, l5, l6, l7] st h Q := wp_lstore_n rfl rfl
theorem s102_2 : mm_wp d 102 2 ls st h Q ↔ mm_wp d 102 3 ls (.int (0 : Int32) :: st) h Q := wp_iconst rfl rfl
theorem s102_3 : mm_wp d 102 3 [l0, l1, l2, l3, l4, l5, l6, l7] (.int x :: st) h Q ↔ mm_wp d 102 5 [l0, l1, l2, l3, l4, .int x, l6, l7] st h Q := wp_istore rfl rfl
theorem s102_5 : mm_wp d 102 5 [l0, l1, l2, l3, l4, .int x, l6, l7] st h Q ↔ mm_wp d 102 7 [l0, l1, l2, l3, l4, .int x, l6, l7] (.int x :: st) h Q := wp_iload rfl rfl
theorem s102_7 : mm_wp d 102 7 [l0, l1, .ref a, l3, l4, l5, l6, l7] st h Q ↔ mm_wp d 102 8 [l0, l1, .ref a, l3, l4, l5, l6, l7] (.ref a :: st) h Q := wp_aloadR_n rfl rfl
theorem s102_7o : mm_wp d 102 7 [l0, l1, mm_o o, l3, l4, l5, l6, l7] st h Q ↔ mm_wp d 102 8 [l0, l1, mm_o o, l3, l4, l5, l6, l7] (mm_o o :: st) h Q := wp_aload_n rfl o rfl
theorem s102_7n : mm_wp d 102 7 [l0, l1, .null, l3, l4, l5, l6, l7] st h Q ↔ mm_wp d 102 8 [l0, l1, .null, l3, l4, l5, l6, l7] (.null :: st) h Q := wp_aload_n rfl none rfl
theorem s102_8 : mm_wp d 102 8 ls (.ref a :: st) h Q ↔ (mm_s h a).1 = 7 ∧ mm_wp d 102 11 ls (.int (mm_i h a 1) :: st) h Q := wp_getI rfl rfl (by decide) (by decide)
theorem s102_11 : mm_wp d 102 11 ls (.int x2 :: .int x :: st) h Q ↔ if x2 ≤ x then mm_wp d 102 90 ls st h Q else mm_wp d 102 14 ls st h Q := wp_icmpge rfl rfl
theorem s102_14 : mm_wp d 102 14 [l0, l1, .ref a, l3, l4, l5, l6, l7] st h Q ↔ mm_wp d 102 15 [l0, l1, .ref a, l3, l4, l5, l6, l7] (.ref a :: st) h Q := wp_aloadR_n rfl rfl
theorem s102_14o : mm_wp d 102 14 [l0, l1, mm_o o, l3, l4, l5, l6, l7] st h Q ↔ mm_wp d 102 15 [l0, l1, mm_o o, l3, l4, l5, l6, l7] (mm_o o :: st) h Q := wp_aload_n rfl o rfl
theorem s102_14n : mm_wp d 102 14 [l0, l1, .null, l3, l4, l5, l6, l7] st h Q ↔ mm_wp d 102 15 [l0, l1, .null, l3, l4, l5, l6, l7] (.null :: st) h Q := wp_aload_n rfl none rfl
theorem s102_15 : mm_wp d 102 15 ls (.ref a :: st) h Q ↔ (mm_s h a).1 = 7 ∧ mm_wp d 102 18 ls (mm_o (mm_r h a 0) :: st) h Q := wp_getR rfl rfl
theorem s102_18 : mm_wp d 102 18 [l0, l1, l2, l3, l4, .int x, l6, l7] st h Q ↔ mm_wp d 102 20 [l0, l1, l2, l3, l4, .int x, l6, l7] (.int x :: st) h Q := wp_iload rfl rfl
theorem s102_20 : mm_wp d 102 20 ls (.int x :: .ref a :: st) h Q ↔ (23 ≤ (mm_s h a).1 ∧ (mm_s h a).1 ≤ 26 ∧ mm_in x (mm_s h a).2 = true) ∧ mm_wp d 102 21 ls (mm_o (mm_r h a x.toNatClampNeg) :: st) h Q := wp_aaload rfl
theorem s102_21 : mm_wp d 102 21 [l0, l1, l2, l3, l4, l5, l6, l7] (.ref a :: st) h Q ↔ mm_wp d 102 23 [l0, l1, l2, l3, l4, l5, .ref a, l7] st h Q := wp_astoreR rfl rfl
theorem s102_21o : mm_wp d 102 21 [l0, l1, l2, l3, l4, l5, l6, l7] (mm_o o :: st) h Q ↔ mm_wp d 102 23 [l0, l1, l2, l3, l4, l5, mm_o o, l7] st h Q := wp_astore rfl o rfl
theorem s102_21n : mm_wp d 102 21 [l0, l1, l2, l3, l4, l5, l6, l7] (.null :: st) h Q ↔ mm_wp d 102 23 [l0, l1, l2, l3, l4, l5, .null, l7] st h Q := wp_astore rfl none rfl
theorem s102_23 : mm_wp d 102 23 ls st h Q ↔ mm_wp d 102 24 ls (.int (2 : Int32) :: st) h Q := wp_iconst rfl rfl
theorem s102_24 : mm_wp d 102 24 [l0, l1, l2, l3, l4, l5, .ref a, l7] st h Q ↔ mm_wp d 102 26 [l0, l1, l2, l3, l4, l5, .ref a, l7] (.ref a :: st) h Q := wp_aloadR rfl rfl
theorem s102_24o : mm_wp d 102 24 [l0, l1, l2, l3, l4, l5, mm_o o, l7] st h Q ↔ mm_wp d 102 26 [l0, l1, l2, l3, l4, l5, mm_o o, l7] (mm_o o :: st) h Q := wp_aload rfl o rfl
theorem s102_24n : mm_wp d 102 24 [l0, l1, l2, l3, l4, l5, .null, l7] st h Q ↔ mm_wp d 102 26 [l0, l1, l2, l3, l4, l5, .null, l7] (.null :: st) h Q := wp_aload rfl none rfl
theorem s102_26 : mm_wp d 102 26 ls (.ref a :: st) h Q ↔ (mm_s h a).1 = 6 ∧ mm_wp d 102 29 ls (.int (mm_i h a 5) :: st) h Q := wp_getI rfl rfl (by decide) (by decide)
theorem s102_29 : mm_wp d 102 29 ls (.int x2 :: .int x :: st) h Q ↔ mm_wp d 102 30 ls (.int (x * x2) :: st) h Q := wp_imul rfl
theorem s102_30 : mm_wp d 102 30 [l0, l1, l2, l3, l4, l5, .ref a, l7] st h Q ↔ mm_wp d 102 32 [l0, l1, l2, l3, l4, l5, .ref a, l7] (.ref a :: st) h Q := wp_aloadR rfl rfl
theorem s102_30o : mm_wp d 102 30 [l0, l1, l2, l3, l4, l5, mm_o o, l7] st h Q ↔ mm_wp d 102 32 [l0, l1, l2, l3, l4, l5, mm_o o, l7] (mm_o o :: st) h Q := wp_aload rfl o rfl
theorem s102_30n : mm_wp d 102 30 [l0, l1, l2, l3, l4, l5, .null, l7] st h Q ↔ mm_wp d 102 32 [l0, l1, l2, l3, l4, l5, .null, l7] (.null :: st) h Q := wp_aload rfl none rfl
theorem s102_32 : mm_wp d 102 32 ls (.ref a :: st) h Q ↔ (mm_s h a).1 = 6 ∧ mm_wp d 102 35 ls (.int (mm_i h a 11) :: st) h Q := wp_getI rfl rfl (by decide) (by decide)
theorem s102_35 : mm_wp d 102 35 ls (.int x2 :: .int x :: st) h Q ↔ mm_wp d 102 36 ls (.int (x + x2) :: st) h Q := wp_iadd rfl
theorem s102_36 : mm_wp d 102 36 [l0, l1, l2, l3, l4, l5, l6, l7] (.int x :: st) h Q ↔ mm_wp d 102 38 [l0, l1, l2, l3, l4, l5, l6, .int x] st h Q := wp_istore rfl rfl
theorem s102_38 : mm_wp d 102 38 [.ref a, l1, l2, l3, l4, l5, l6, l7] st h Q ↔ mm_wp d 102 39 [.ref a, l1, l2, l3, l4, l5, l6, l7] (.ref a :: st) h Q := wp_aloadR_n rfl rfl
theorem s102_39 : mm_wp d 102 39 [l0, .int x, l2, l3, l4, l5, l6, l7] st h Q ↔ mm_wp d 102 40 [l0, .int x, l2, l3, l4, l5, l6, l7] (.int x :: st) h Q := wp_iload_n rfl rfl
theorem s102_40 : mm_wp d 102 40 ls st h Q ↔ mm_wp d 102 41 ls (.int (1 : Int32) :: st) h Q := wp_iconst rfl rfl
theorem s102_41 : mm_wp d 102 41 ls (.int x2 :: .int x :: st) h Q ↔ mm_wp d 102 42 ls (.int (x - x2) :: st) h Q := wp_isub rfl
theorem s102_42 : mm_wp (d + 1) 102 42 ls [.int x2, .ref a] h Q ↔ (mm_s h a).1 = 0 ∧ mm_wp d 99 0 [.ref a, .int x2] [] h (mm_bk (d + 1) 102 42 ls [] Q) := wp_virtual rfl rfl ⟨by decide, rfl⟩ ⟨Nat.le_of_ble_eq_true rfl, Nat.le_of_ble_eq_true rfl⟩ rfl rfl rfl rfl rfl rfl
theorem s102_45 : mm_wp d 102 45 ls (.int x :: st) h Q ↔ if x = 0 then mm_wp d 102 84 ls st h Q else mm_wp d 102 48 ls st h Q := wp_ifeq rfl rfl
theorem s102_48 : mm_wp d 102 48 [.ref a, l1, l2, l3, l4, l5, l6, l7] st h Q ↔ mm_wp d 102 49 [.ref a, l1, l2, l3, l4, l5, l6, l7] (.ref a :: st) h Q := wp_aloadR_n rfl rfl
theorem s102_49 : mm_wp d 102 49 [l0, l1, l2, l3, l4, l5, l6, .int x] st h Q ↔ mm_wp d 102 51 [l0, l1, l2, l3, l4, l5, l6, .int x] (.int x :: st) h Q := wp_iload rfl rfl
theorem s102_51 : mm_wp (d + 1) 102 51 ls [.int x2, .ref a] h Q ↔ (mm_s h a).1 = 0 ∧ mm_wp d 103 0 [.ref a, .int x2, mm_j, mm_j] [] h (mm_bk (d + 1) 102 51 ls [] Q) := wp_virtual rfl rfl ⟨by decide, rfl⟩ ⟨Nat.le_of_ble_eq_true rfl, Nat.le_of_ble_eq_true rfl⟩ rfl rfl rfl rfl rfl rfl
theorem s102_54 : mm_wp d 102 54 [l0, .int x, l2, l3, l4, l5, l6, l7] st h Q ↔ mm_wp d 102 55 [l0, .int x, l2, l3, l4, l5, l6, l7] (.int x :: st) h Q := wp_iload_n rfl rfl
theorem s102_55 : mm_wp d 102 55 ls st h Q ↔ mm_wp d 102 56 ls (.int (1 : Int32) :: st) h Q := wp_iconst rfl rfl
theorem s102_56 : mm_wp d 102 56 ls (.int x2 :: .int x :: st) h Q ↔ mm_wp d 102 57 ls (.int (x - x2) :: st) h Q := wp_isub rfl
theorem s102_57 : mm_wp d 102 57 ls (.int x2 :: .int x :: st) h Q ↔ if x = x2 then mm_wp d 102 60 ls st h Q else mm_wp d 102 84 ls st h Q := wp_icmpne rfl rfl
theorem s102_60 : mm_wp d 102 60 [l0, l1, l2, .long w, l4, l5, l6, l7] st h Q ↔ mm_wp d 102 61 [l0, l1, l2, .long w, l4, l5, l6, l7] (.long w :: st) h Q := wp_lload_n rfl rfl
theorem s102_61 : mm_wp d 102 61 [l0, l1, l2, l3, l4, l5, .ref a, l7] st h Q ↔ mm_wp d 102 63 [l0, l1, l2, l3, l4, l5, .ref a, l7] (.ref a :: st) h Q := wp_aloadR rfl rfl
theorem s102_61o : mm_wp d 102 61 [l0, l1, l2, l3, l4, l5, mm_o o, l7] st h Q ↔ mm_wp d 102 63 [l0, l1, l2, l3, l4, l5, mm_o o, l7] (mm_o o :: st) h Q := wp_aload rfl o rfl
theorem s102_61n : mm_wp d 102 61 [l0, l1, l2, l3, l4, l5, .null, l7] st h Q ↔ mm_wp d 102 63 [l0, l1, l2, l3, l4, l5, .null, l7] (.null :: st) h Q := wp_aload rfl none rfl
theorem s102_63 : mm_wp d 102 63 ls (.ref a :: st) h Q ↔ (mm_s h a).1 = 6 ∧ mm_wp d 102 66 ls (.int (mm_i h a 12) :: st) h Q := wp_getI rfl rfl (by decide) (by decide)
theorem s102_66 : mm_wp d 102 66 ls (.int x :: st) h Q ↔ mm_wp d 102 67 ls (.long x.toInt64 :: st) h Q := wp_i2l rfl
theorem s102_67 : mm_wp d 102 67 [l0, l1, l2, l3, l4, l5, l6, .int x] st h Q ↔ mm_wp d 102 69 [l0, l1, l2, l3, l4, l5, l6, .int x] (.int x :: st) h Q := wp_iload rfl rfl
theorem s102_69 : mm_wp d 102 69 ls st h Q ↔ mm_wp d 102 70 ls (.int (2 : Int32) :: st) h Q := wp_iconst rfl rfl
theorem s102_70 : mm_wp d 102 70 [.ref a, l1, l2, l3, l4, l5, l6, l7] st h Q ↔ mm_wp d 102 71 [.ref a, l1, l2, l3, l4, l5, l6, l7] (.ref a :: st) h Q := wp_aloadR_n rfl rfl
theorem s102_71 : mm_wp d 102 71 ls (.ref a :: st) h Q ↔ (mm_s h a).1 = 0 ∧ mm_wp d 102 74 ls (mm_o (mm_r h a 0) :: st) h Q := wp_getR rfl rfl
theorem s102_74 : mm_wp d 102 74 [l0, .int x, l2, l3, l4, l5, l6, l7] st h Q ↔ mm_wp d 102 75 [l0, .int x, l2, l3, l4, l5, l6, l7] (.int x :: st) h Q := wp_iload_n rfl rfl
theorem s102_75 : mm_wp d 102 75 ls st h Q ↔ mm_wp d 102 76 ls (.int (1 : Int32) :: st) h Q := wp_iconst rfl rfl
theorem s102_76 : mm_wp d 102 76 ls (.int x2 :: .int x :: st) h Q ↔ mm_wp d 102 77 ls (.int (x - x2) :: st) h Q := wp_isub rfl
theorem s102_77 : mm_wp d 102 77 ls (.int x :: .ref a :: st) h Q ↔ ((mm_s h a).1 = 20 ∧ mm_in x (mm_s h a).2 = true) ∧ mm_wp d 102 78 ls (.int (mm_i h a x.toNatClampNeg) :: st) h Q := wp_iaload rfl
theorem s102_78 : mm_wp d 102 78 ls (.int x2 :: .int x :: st) h Q ↔ mm_wp d 102 79 ls (.int (x * x2) :: st) h Q := wp_imul rfl
theorem s102_79 : mm_wp d 102 79 ls (.int x2 :: .int x :: st) h Q ↔ mm_wp d 102 80 ls (.int (x - x2) :: st) h Q := wp_isub rfl
theorem s102_80 : mm_wp d 102 80 ls (.int x :: st) h Q ↔ mm_wp d 102 81 ls (.long x.toInt64 :: st) h Q := wp_i2l rfl
theorem s102_81 : mm_wp d 102 81 ls (.long w2 :: .long w :: st) h Q ↔ mm_wp d 102 82 ls (.long (w * w2) :: st) h Q := wp_lmul rfl
theorem s102_82 : mm_wp d 102 82 ls (.long w2 :: .long w :: st) h Q ↔ mm_wp d 102 83 ls (.long (w + w2) :: st) h Q := wp_ladd rfl
theorem s102_83 : mm_wp d 102 83 [l0, l1, l2, l3, l4, l5, l6, l7] (.long w :: st) h Q ↔ mm_wp d 102 84 [l0, l1, l2, .long w, mm_j, l5, l6, l7] st h Q := wp_lstore_n rfl rfl
theorem s102_84 : mm_wp d 102 84 [l0, l1, l2, l3, l4, .int x, l6, l7] st h Q ↔ mm_wp d 102 87 [l0, l1, l2, l3, l4, .int (x + (1 : Int32)), l6, l7] st h Q := wp_iinc rfl rfl rfl rfl
theorem s102_87 : mm_wp d 102 87 ls st h Q ↔ mm_wp d 102 5 ls st h Q := wp_goto rfl rfl
theorem s102_90 : mm_wp d 102 90 [l0, l1, l2, .long w, l4, l5, l6, l7] st h Q ↔ mm_wp d 102 91 [l0, l1, l2, .long w, l4, l5, l6, l7] (.long w :: st) h Q := wp_lload_n rfl rfl
theorem s102_91 : mm_wp d 102 91 ls (.long w :: st) h Q ↔ Q (.inl (some (.long w))) h := wp_lret rfl rfl
end
