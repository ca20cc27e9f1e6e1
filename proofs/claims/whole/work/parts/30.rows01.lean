/-! rows of the program, by rows.py -/
section
variable {d : Nat} {ls st : List Value} {h : mm_H} {Q : mm_Q} {o : Option Nat} {a b c : Nat} {x y x1 x2 x3 x4 x5 x6 : Int32} {w w2 w3 w4 : Int64} {q : UInt32} {l0 l1 l2 l3 l4 l5 l6 l7 l8 l9 l10 l11 l12 l13 l14 l15 l16 t0 t1 t2 t3 t4 t5 : Value}
/-! 0: LoadRoomLaw.law([I)Z -/
theorem s0_0 : mm_wp d 0 0 ls st h Q ↔ mm_wp d 0 3 ls (.ref (mm_n h) :: st) (mm_nw h 9 4 4) Q := wp_new rfl rfl rfl rfl
theorem s0_3 : mm_wp d 0 3 ls (.ref a :: st) h Q ↔ mm_wp d 0 4 ls (.ref a :: .ref a :: st) h Q := wp_dupR rfl
theorem s0_4 : mm_wp d 0 4 [.ref a, l1, l2, l3, l4, l5, l6, l7] st h Q ↔ mm_wp d 0 5 [.ref a, l1, l2, l3, l4, l5, l6, l7] (.ref a :: st) h Q := wp_aloadR_n rfl rfl
theorem s0_4o : mm_wp d 0 4 [mm_o o, l1, l2, l3, l4, l5, l6, l7] st h Q ↔ mm_wp d 0 5 [mm_o o, l1, l2, l3, l4, l5, l6, l7] (mm_o o :: st) h Q := wp_aload_n rfl o rfl
theorem s0_4n : mm_wp d 0 4 [.null, l1, l2, l3, l4, l5, l6, l7] st h Q ↔ mm_wp d 0 5 [.null, l1, l2, l3, l4, l5, l6, l7] (.null :: st) h Q := wp_aload_n rfl none rfl
theorem s0_5 : mm_wp d 0 5 ls st h Q ↔ mm_wp d 0 6 ls (.int (0 : Int32) :: st) h Q := wp_iconst rfl rfl
theorem s0_6 : mm_wp (d + 1) 0 6 ls [.int x2, .ref a, t1, t0] h Q ↔ mm_wp d 21 0 [.ref a, .int x2] [] h (mm_bk (d + 1) 0 6 ls [t1, t0] Q) := wp_static rfl rfl ⟨by decide, rfl⟩ ⟨Nat.le_of_ble_eq_true rfl, Nat.le_of_ble_eq_true rfl⟩ rfl rfl rfl rfl
theorem s0_9 : mm_wp d 0 9 [.ref a, l1, l2, l3, l4, l5, l6, l7] st h Q ↔ mm_wp d 0 10 [.ref a, l1, l2, l3, l4, l5, l6, l7] (.ref a :: st) h Q := wp_aloadR_n rfl rfl
theorem s0_9o : mm_wp d 0 9 [mm_o o, l1, l2, l3, l4, l5, l6, l7] st h Q ↔ mm_wp d 0 10 [mm_o o, l1, l2, l3, l4, l5, l6, l7] (mm_o o :: st) h Q := wp_aload_n rfl o rfl
theorem s0_9n : mm_wp d 0 9 [.null, l1, l2, l3, l4, l5, l6, l7] st h Q ↔ mm_wp d 0 10 [.null, l1, l2, l3, l4, l5, l6, l7] (.null :: st) h Q := wp_aload_n rfl none rfl
theorem s0_10 : mm_wp d 0 10 ls st h Q ↔ mm_wp d 0 11 ls (.int (1 : Int32) :: st) h Q := wp_iconst rfl rfl
theorem s0_11 : mm_wp (d + 1) 0 11 ls [.int x2, .ref a, t2, t1, t0] h Q ↔ mm_wp d 21 0 [.ref a, .int x2] [] h (mm_bk (d + 1) 0 11 ls [t2, t1, t0] Q) := wp_static rfl rfl ⟨by decide, rfl⟩ ⟨Nat.le_of_ble_eq_true rfl, Nat.le_of_ble_eq_true rfl⟩ rfl rfl rfl rfl
theorem s0_14 : mm_wp d 0 14 [.ref a, l1, l2, l3, l4, l5, l6, l7] st h Q ↔ mm_wp d 0 15 [.ref a, l1, l2, l3, l4, l5, l6, l7] (.ref a :: st) h Q := wp_aloadR_n rfl rfl
theorem s0_14o : mm_wp d 0 14 [mm_o o, l1, l2, l3, l4, l5, l6, l7] st h Q ↔ mm_wp d 0 15 [mm_o o, l1, l2, l3, l4, l5, l6, l7] (mm_o o :: st) h Q := wp_aload_n rfl o rfl
theorem s0_14n : mm_wp d 0 14 [.null, l1, l2, l3, l4, l5, l6, l7] st h Q ↔ mm_wp d 0 15 [.null, l1, l2, l3, l4, l5, l6, l7] (.null :: st) h Q := wp_aload_n rfl none rfl
theorem s0_15 : mm_wp d 0 15 ls st h Q ↔ mm_wp d 0 16 ls (.int (2 : Int32) :: st) h Q := wp_iconst rfl rfl
theorem s0_16 : mm_wp (d + 1) 0 16 ls [.int x2, .ref a, t3, t2, t1, t0] h Q ↔ mm_wp d 21 0 [.ref a, .int x2] [] h (mm_bk (d + 1) 0 16 ls [t3, t2, t1, t0] Q) := wp_static rfl rfl ⟨by decide, rfl⟩ ⟨Nat.le_of_ble_eq_true rfl, Nat.le_of_ble_eq_true rfl⟩ rfl rfl rfl rfl
theorem s0_19 : mm_wp (d + 1) 0 19 ls [.int x4, .int x3, .int x2, .ref a, t0] h Q ↔ mm_wp d 1 0 [.ref a, .int x2, .int x3, .int x4] [] h (mm_bk (d + 1) 0 19 ls [t0] Q) := wp_special (a := a) rfl rfl ⟨by decide, rfl⟩ ⟨Nat.le_of_ble_eq_true rfl, Nat.le_of_ble_eq_true rfl⟩ rfl rfl rfl rfl rfl
theorem s0_22 : mm_wp d 0 22 [l0, l1, l2, l3, l4, l5, l6, l7] (.ref a :: st) h Q ↔ mm_wp d 0 23 [l0, .ref a, l2, l3, l4, l5, l6, l7] st h Q := wp_astoreR_n rfl rfl
theorem s0_22o : mm_wp d 0 22 [l0, l1, l2, l3, l4, l5, l6, l7] (mm_o o :: st) h Q ↔ mm_wp d 0 23 [l0, mm_o o, l2, l3, l4, l5, l6, l7] st h Q := wp_astore_n rfl o rfl
theorem s0_22n : mm_wp d 0 22 [l0, l1, l2, l3, l4, l5, l6, l7] (.null :: st) h Q ↔ mm_wp d 0 23 [l0, .null, l2, l3, l4, l5, l6, l7] st h Q := wp_astore_n rfl none rfl
theorem s0_23 : mm_wp d 0 23 ls st h Q ↔ mm_wp d 0 26 ls (.ref (mm_n h) :: st) (mm_nw h 10 34 34) Q := wp_new rfl rfl rfl rfl
theorem s0_26 : mm_wp d 0 26 ls (.ref a :: st) h Q ↔ mm_wp d 0 27 ls (.ref a :: .ref a :: st) h Q := wp_dupR rfl
theorem s0_27 : mm_wp d 0 27 [.ref a, l1, l2, l3, l4, l5, l6, l7] st h Q ↔ mm_wp d 0 28 [.ref a, l1, l2, l3, l4, l5, l6, l7] (.ref a :: st) h Q := wp_aloadR_n rfl rfl
theorem s0_27o : mm_wp d 0 27 [mm_o o, l1, l2, l3, l4, l5, l6, l7] st h Q ↔ mm_wp d 0 28 [mm_o o, l1, l2, l3, l4, l5, l6, l7] (mm_o o :: st) h Q := wp_aload_n rfl o rfl
theorem s0_27n : mm_wp d 0 27 [.null, l1, l2, l3, l4, l5, l6, l7] st h Q ↔ mm_wp d 0 28 [.null, l1, l2, l3, l4, l5, l6, l7] (.null :: st) h Q := wp_aload_n rfl none rfl
theorem s0_28 : mm_wp d 0 28 ls st h Q ↔ mm_wp d 0 29 ls (.int (0 : Int32) :: st) h Q := wp_iconst rfl rfl
theorem s0_29 : mm_wp (d + 1) 0 29 ls [.int x2, .ref a, t1, t0] h Q ↔ mm_wp d 21 0 [.ref a, .int x2] [] h (mm_bk (d + 1) 0 29 ls [t1, t0] Q) := wp_static rfl rfl ⟨by decide, rfl⟩ ⟨Nat.le_of_ble_eq_true rfl, Nat.le_of_ble_eq_true rfl⟩ rfl rfl rfl rfl
theorem s0_32 : mm_wp d 0 32 [.ref a, l1, l2, l3, l4, l5, l6, l7] st h Q ↔ mm_wp d 0 33 [.ref a, l1, l2, l3, l4, l5, l6, l7] (.ref a :: st) h Q := wp_aloadR_n rfl rfl
theorem s0_32o : mm_wp d 0 32 [mm_o o, l1, l2, l3, l4, l5, l6, l7] st h Q ↔ mm_wp d 0 33 [mm_o o, l1, l2, l3, l4, l5, l6, l7] (mm_o o :: st) h Q := wp_aload_n rfl o rfl
theorem s0_32n : mm_wp d 0 32 [.null, l1, l2, l3, l4, l5, l6, l7] st h Q ↔ mm_wp d 0 33 [.null, l1, l2, l3, l4, l5, l6, l7] (.null :: st) h Q := wp_aload_n rfl none rfl
theorem s0_33 : mm_wp d 0 33 ls st h Q ↔ mm_wp d 0 34 ls (.int (1 : Int32) :: st) h Q := wp_iconst rfl rfl
theorem s0_34 : mm_wp (d + 1) 0 34 ls [.int x2, .ref a, t2, t1, t0] h Q ↔ mm_wp d 21 0 [.ref a, .int x2] [] h (mm_bk (d + 1) 0 34 ls [t2, t1, t0] Q) := wp_static rfl rfl ⟨by decide, rfl⟩ ⟨Nat.le_of_ble_eq_true rfl, Nat.le_of_ble_eq_true rfl⟩ rfl rfl rfl rfl
theorem s0_37 : mm_wp d 0 37 [.ref a, l1, l2, l3, l4, l5, l6, l7] st h Q ↔ mm_wp d 0 38 [.ref a, l1, l2, l3, l4, l5, l6, l7] (.ref a :: st) h Q := wp_aloadR_n rfl rfl
theorem s0_37o : mm_wp d 0 37 [mm_o o, l1, l2, l3, l4, l5, l6, l7] st h Q ↔ mm_wp d 0 38 [mm_o o, l1, l2, l3, l4, l5, l6, l7] (mm_o o :: st) h Q := wp_aload_n rfl o rfl
theorem s0_37n : mm_wp d 0 37 [.null, l1, l2, l3, l4, l5, l6, l7] st h Q ↔ mm_wp d 0 38 [.null, l1, l2, l3, l4, l5, l6, l7] (.null :: st) h Q := wp_aload_n rfl none rfl
theorem s0_38 : mm_wp d 0 38 ls st h Q ↔ mm_wp d 0 39 ls (.int (2 : Int32) :: st) h Q := wp_iconst rfl rfl
theorem s0_39 : mm_wp (d + 1) 0 39 ls [.int x2, .ref a, t3, t2, t1, t0] h Q ↔ mm_wp d 21 0 [.ref a, .int x2] [] h (mm_bk (d + 1) 0 39 ls [t3, t2, t1, t0] Q) := wp_static rfl rfl ⟨by decide, rfl⟩ ⟨Nat.le_of_ble_eq_true rfl, Nat.le_of_ble_eq_true rfl⟩ rfl rfl rfl rfl
theorem s0_42 : mm_wp (d + 1) 0 42 ls [.int x4, .int x3, .int x2, .ref a, t0] h Q ↔ mm_wp d 108 0 [.ref a, .int x2, .int x3, .int x4] [] h (mm_bk (d + 1) 0 42 ls [t0] Q) := wp_special (a := a) rfl rfl ⟨by decide, rfl⟩ ⟨Nat.le_of_ble_eq_true rfl, Nat.le_of_ble_eq_true rfl⟩ rfl rfl rfl rfl rfl
theorem s0_45 : mm_wp d 0 45 [l0, l1, l2, l3, l4, l5, l6, l7] (.ref a :: st) h Q ↔ mm_wp d 0 46 [l0, l1, .ref a, l3, l4, l5, l6, l7] st h Q := wp_astoreR_n rfl rfl
theorem s0_45o : mm_wp d 0 45 [l0, l1, l2, l3, l4, l5, l6, l7] (mm_o o :: st) h Q ↔ mm_wp d 0 46 [l0, l1, mm_o o, l3, l4, l5, l6, l7] st h Q := wp_astore_n rfl o rfl
theorem s0_45n : mm_wp d 0 45 [l0, l1, l2, l3, l4, l5, l6, l7] (.null :: st) h Q ↔ mm_wp d 0 46 [l0, l1, .null, l3, l4, l5, l6, l7] st h Q := wp_astore_n rfl none rfl
theorem s0_46 : mm_wp d 0 46 ls st h Q ↔ mm_wp d 0 47 ls (.int (1 : Int32) :: st) h Q := wp_iconst rfl rfl
theorem s0_47 : mm_wp d 0 47 ls (.int x :: st) h Q ↔ (0 ≤ x ∧ x ≤ 1000) ∧ mm_wp d 0 49 ls (.ref (mm_n h) :: st) (mm_nw h 21 x.toNatClampNeg x.toNatClampNeg) Q := wp_newL rfl
theorem s0_49 : mm_wp d 0 49 [l0, l1, l2, l3, l4, l5, l6, l7] (.ref a :: st) h Q ↔ mm_wp d 0 50 [l0, l1, l2, .ref a, l4, l5, l6, l7] st h Q := wp_astoreR_n rfl rfl
theorem s0_49o : mm_wp d 0 49 [l0, l1, l2, l3, l4, l5, l6, l7] (mm_o o :: st) h Q ↔ mm_wp d 0 50 [l0, l1, l2, mm_o o, l4, l5, l6, l7] st h Q := wp_astore_n rfl o rfl
theorem s0_49n : mm_wp d 0 49 [l0, l1, l2, l3, l4, l5, l6, l7] (.null :: st) h Q ↔ mm_wp d 0 50 [l0, l1, l2, .null, l4, l5, l6, l7] st h Q := wp_astore_n rfl none rfl
theorem s0_50 : mm_wp d 0 50 ls st h Q ↔ mm_wp d 0 51 ls (.int (3 : Int32) :: st) h Q := wp_iconst rfl rfl
theorem s0_51 : mm_wp d 0 51 [l0, l1, l2, l3, l4, l5, l6, l7] (.int x :: st) h Q ↔ mm_wp d 0 53 [l0, l1, l2, l3, .int x, l5, l6, l7] st h Q := wp_istore rfl rfl
theorem s0_53 : mm_wp d 0 53 [l0, l1, l2, l3, .int x, l5, l6, l7] st h Q ↔ mm_wp d 0 55 [l0, l1, l2, l3, .int x, l5, l6, l7] (.int x :: st) h Q := wp_iload rfl rfl
theorem s0_55 : mm_wp d 0 55 [.ref a, l1, l2, l3, l4, l5, l6, l7] st h Q ↔ mm_wp d 0 56 [.ref a, l1, l2, l3, l4, l5, l6, l7] (.ref a :: st) h Q := wp_aloadR_n rfl rfl
theorem s0_55o : mm_wp d 0 55 [mm_o o, l1, l2, l3, l4, l5, l6, l7] st h Q ↔ mm_wp d 0 56 [mm_o o, l1, l2, l3, l4, l5, l6, l7] (mm_o o :: st) h Q := wp_aload_n rfl o rfl
theorem s0_55n : mm_wp d 0 55 [.null, l1, l2, l3, l4, l5, l6, l7] st h Q ↔ mm_wp d 0 56 [.null, l1, l2, l3, l4, l5, l6, l7] (.null :: st) h Q := wp_aload_n rfl none rfl
theorem s0_56 : mm_wp d 0 56 ls (.ref a :: st) h Q ↔ (20 ≤ (mm_s h a).1 ∧ (mm_s h a).1 ≤ 26) ∧ mm_wp d 0 57 ls (.int (nI (mm_s h a).2) :: st) h Q := wp_alen rfl
theorem s0_57 : mm_wp d 0 57 ls st h Q ↔ mm_wp d 0 58 ls (.int (5 : Int32) :: st) h Q := wp_iconst rfl rfl
theorem s0_58 : mm_wp d 0 58 ls (.int x2 :: .int x :: st) h Q ↔ mm_wp d 0 59 ls (.int (x - x2) :: st) h Q := wp_isub rfl
theorem s0_59 : mm_wp d 0 59 ls (.int x2 :: .int x :: st) h Q ↔ if x2 < x then mm_wp d 0 866 ls st h Q else mm_wp d 0 62 ls st h Q := wp_icmpgt rfl rfl
theorem s0_62 : mm_wp d 0 62 [.ref a, l1, l2, l3, l4, l5, l6, l7] st h Q ↔ mm_wp d 0 63 [.ref a, l1, l2, l3, l4, l5, l6, l7] (.ref a :: st) h Q := wp_aloadR_n rfl rfl
theorem s0_62o : mm_wp d 0 62 [mm_o o, l1, l2, l3, l4, l5, l6, l7] st h Q ↔ mm_wp d 0 63 [mm_o o, l1, l2, l3, l4, l5, l6, l7] (mm_o o :: st) h Q := wp_aload_n rfl o rfl
theorem s0_62n : mm_wp d 0 62 [.null, l1, l2, l3, l4, l5, l6, l7] st h Q ↔ mm_wp d 0 63 [.null, l1, l2, l3, l4, l5, l6, l7] (.null :: st) h Q := wp_aload_n rfl none rfl
theorem s0_63 : mm_wp d 0 63 [l0, l1, l2, l3, .int x, l5, l6, l7] st h Q ↔ mm_wp d 0 65 [l0, l1, l2, l3, .int x, l5, l6, l7] (.int x :: st) h Q := wp_iload rfl rfl
theorem s0_65 : mm_wp d 0 65 ls (.int x :: .ref a :: st) h Q ↔ ((mm_s h a).1 = 20 ∧ mm_in x (mm_s h a).2 = true) ∧ mm_wp d 0 66 ls (.int (mm_i h a x.toNatClampNeg) :: st) h Q := wp_iaload rfl
theorem s0_66 : mm_wp d 0 66 ls st h Q ↔ mm_wp d 0 68 ls (.int (15 : Int32) :: st) h Q := wp_bipush rfl rfl
theorem s0_68 : mm_wp d 0 68 ls (.int x2 :: .int x :: st) h Q ↔ mm_wp d 0 69 ls (.int (x &&& x2) :: st) h Q := wp_iand rfl
theorem s0_69d (hx : x.toInt < 0 ∨ 13 < x.toInt) : mm_wp d 0 69 ls (.int x :: st) h Q ↔ mm_wp d 0 860 ls st h Q := wp_tabOut rfl hx rfl
theorem s0_69_0 : mm_wp d 0 69 ls (.int (0 : Int32) :: st) h Q ↔ mm_wp d 0 140 ls st h Q := wp_tabIn rfl (by decide) rfl
theorem s0_69_1 : mm_wp d 0 69 ls (.int (1 : Int32) :: st) h Q ↔ mm_wp d 0 232 ls st h Q := wp_tabIn rfl (by decide) rfl
theorem s0_69_2 : mm_wp d 0 69 ls (.int (2 : Int32) :: st) h Q ↔ mm_wp d 0 300 ls st h Q := wp_tabIn rfl (by decide) rfl
theorem s0_69_3 : mm_wp d 0 69 ls (.int (3 : Int32) :: st) h Q ↔ mm_wp d 0 368 ls st h Q := wp_tabIn rfl (by decide) rfl
theorem s0_69_4 : mm_wp d 0 69 ls (.int (4 : Int32) :: st) h Q ↔ mm_wp d 0 436 ls st h Q := wp_tabIn rfl (by decide) rfl
theorem s0_69_5 : mm_wp d 0 69 ls (.int (5 : Int32) :: st) h Q ↔ mm_wp d 0 492 ls st h Q := wp_tabIn rfl (by decide) rfl
theorem s0_69_6 : mm_wp d 0 69 ls (.int (6 : Int32) :: st) h Q ↔ mm_wp d 0 548 ls st h Q := wp_tabIn rfl (by decide) rfl
theorem s0_69_7 : mm_wp d 0 69 ls (.int (7 : Int32) :: st) h Q ↔ mm_wp d 0 561 ls st h Q := wp_tabIn rfl (by decide) rfl
theorem s0_69_8 : mm_wp d 0 69 ls (.int (8 : Int32) :: st) h Q ↔ mm_wp d 0 574 ls st h Q := wp_tabIn rfl (by decide) rfl
theorem s0_69_9 : mm_wp d 0 69 ls (.int (9 : Int32) :: st) h Q ↔ mm_wp d 0 587 ls st h Q := wp_tabIn rfl (by decide) rfl
theorem s0_69_10 : mm_wp d 0 69 ls (.int (10 : Int32) :: st) h Q ↔ mm_wp d 0 655 ls st h Q := wp_tabIn rfl (by decide) rfl
theorem s0_69_11 : mm_wp d 0 69 ls (.int (11 : Int32) :: st) h Q ↔ mm_wp d 0 669 ls st h Q := wp_tabIn rfl (by decide) rfl
theorem s0_69_12 : mm_wp d 0 69 ls (.int (12 : Int32) :: st) h Q ↔ mm_wp d 0 737 ls st h Q := wp_tabIn rfl (by decide) rfl
theorem s0_69_13 : mm_wp d 0 69 ls (.int (13 : Int32) :: st) h Q ↔ mm_wp d 0 793 ls st h Q := wp_tabIn rfl (by decide) rfl
theorem s0_140 : mm_wp d 0 140 [l0, .ref a, l2, l3, l4, l5, l6, l7] st h Q ↔ mm_wp d 0 141 [l0, .ref a, l2, l3, l4, l5, l6, l7] (.ref a :: st) h Q := wp_aloadR_n rfl rfl
theorem s0_140o : mm_wp d 0 140 [l0, mm_o o, l2, l3, l4, l5, l6, l7] st h Q ↔ mm_wp d 0 141 [l0, mm_o o, l2, l3, l4, l5, l6, l7] (mm_o o :: st) h Q := wp_aload_n rfl o rfl
theorem s0_140n : mm_wp d 0 140 [l0, .null, l2, l3, l4, l5, l6, l7] st h Q ↔ mm_wp d 0 141 [l0, .null, l2, l3, l4, l5, l6, l7] (.null :: st) h Q := wp_aload_n rfl none rfl
theorem s0_141 : mm_wp d 0 141 [.ref a, l1, l2, l3, l4, l5, l6, l7] st h Q ↔ mm_wp d 0 142 [.ref a, l1, l2, l3, l4, l5, l6, l7] (.ref a :: st) h Q := wp_aloadR_n rfl rfl
theorem s0_141o : mm_wp d 0 141 [mm_o o, l1, l2, l3, l4, l5, l6, l7] st h Q ↔ mm_wp d 0 142 [mm_o o, l1, l2, l3, l4, l5, l6, l7] (mm_o o :: st) h Q := wp_aload_n rfl o rfl
theorem s0_141n : mm_wp d 0 141 [.null, l1, l2, l3, l4, l5, l6, l7] st h Q ↔ mm_wp d 0 142 [.null, l1, l2, l3, l4, l5, l6, l7] (.null :: st) h Q := wp_aload_n rfl none rfl
theorem s0_142 : mm_wp d 0 142 [l0, l1, l2, l3, .int x, l5, l6, l7] st h Q ↔ mm_wp d 0 144 [l0, l1, l2, l3, .int x, l5, l6, l7] (.int x :: st) h Q := wp_iload rfl rfl
theorem s0_144 : mm_wp d 0 144 ls st h Q ↔ mm_wp d 0 145 ls (.int (1 : Int32) :: st) h Q := wp_iconst rfl rfl
theorem s0_145 : mm_wp d 0 145 ls (.int x2 :: .int x :: st) h Q ↔ mm_wp d 0 146 ls (.int (x + x2) :: st) h Q := wp_iadd rfl
theorem s0_146 : mm_wp d 0 146 ls (.int x :: .ref a :: st) h Q ↔ ((mm_s h a).1 = 20 ∧ mm_in x (mm_s h a).2 = true) ∧ mm_wp d 0 147 ls (.int (mm_i h a x.toNatClampNeg) :: st) h Q := wp_iaload rfl
theorem s0_147 : mm_wp d 0 147 [.ref a, l1, l2, l3, l4, l5, l6, l7] st h Q ↔ mm_wp d 0 148 [.ref a, l1, l2, l3, l4, l5, l6, l7] (.ref a :: st) h Q := wp_aloadR_n rfl rfl
theorem s0_147o : mm_wp d 0 147 [mm_o o, l1, l2, l3, l4, l5, l6, l7] st h Q ↔ mm_wp d 0 148 [mm_o o, l1, l2, l3, l4, l5, l6, l7] (mm_o o :: st) h Q := wp_aload_n rfl o rfl
theorem s0_147n : mm_wp d 0 147 [.null, l1, l2, l3, l4, l5, l6, l7] st h Q ↔ mm_wp d 0 148 [.null, l1, l2, l3, l4, l5, l6, l7] (.null :: st) h Q := wp_aload_n rfl none rfl
theorem s0_148 : mm_wp d 0 148 [l0, l1, l2, l3, .int x, l5, l6, l7] st h Q ↔ mm_wp d 0 150 [l0, l1, l2, l3, .int x, l5, l6, l7] (.int x :: st) h Q := wp_iload rfl rfl
theorem s0_150 : mm_wp d 0 150 ls st h Q ↔ mm_wp d 0 151 ls (.int (2 : Int32) :: st) h Q := wp_iconst rfl rfl
theorem s0_151 : mm_wp d 0 151 ls (.int x2 :: .int x :: st) h Q ↔ mm_wp d 0 152 ls (.int (x + x2) :: st) h Q := wp_iadd rfl
theorem s0_152 : mm_wp d 0 152 ls (.int x :: .ref a :: st) h Q ↔ ((mm_s h a).1 = 20 ∧ mm_in x (mm_s h a).2 = true) ∧ mm_wp d 0 153 ls (.int (mm_i h a x.toNatClampNeg) :: st) h Q := wp_iaload rfl
theorem s0_153 : mm_wp d 0 153 [.ref a, l1, l2, l3, l4, l5, l6, l7] st h Q ↔ mm_wp d 0 154 [.ref a, l1, l2, l3, l4, l5, l6, l7] (.ref a :: st) h Q := wp_aloadR_n rfl rfl
theorem s0_153o : mm_wp d 0 153 [mm_o o, l1, l2, l3, l4, l5, l6, l7] st h Q ↔ mm_wp d 0 154 [mm_o o, l1, l2, l3, l4, l5, l6, l7] (mm_o o :: st) h Q := wp_aload_n rfl o rfl
theorem s0_153n : mm_wp d 0 153 [.null, l1, l2, l3, l4, l5, l6, l7] st h Q ↔ mm_wp d 0 154 [.null, l1, l2, l3, l4, l5, l6, l7] (.null :: st) h Q := wp_aload_n rfl none rfl
theorem s0_154 : mm_wp d 0 154 [l0, l1, l2, l3, .int x, l5, l6, l7] st h Q ↔ mm_wp d 0 156 [l0, l1, l2, l3, .int x, l5, l6, l7] (.int x :: st) h Q := wp_iload rfl rfl
theorem s0_156 : mm_wp d 0 156 ls st h Q ↔ mm_wp d 0 157 ls (.int (3 : Int32) :: st) h Q := wp_iconst rfl rfl
theorem s0_157 : mm_wp d 0 157 ls (.int x2 :: .int x :: st) h Q ↔ mm_wp d 0 158 ls (.int (x + x2) :: st) h Q := wp_iadd rfl
theorem s0_158 : mm_wp d 0 158 ls (.int x :: .ref a :: st) h Q ↔ ((mm_s h a).1 = 20 ∧ mm_in x (mm_s h a).2 = true) ∧ mm_wp d 0 159 ls (.int (mm_i h a x.toNatClampNeg) :: st) h Q := wp_iaload rfl
theorem s0_159 : mm_wp d 0 159 [.ref a, l1, l2, l3, l4, l5, l6, l7] st h Q ↔ mm_wp d 0 160 [.ref a, l1, l2, l3, l4, l5, l6, l7] (.ref a :: st) h Q := wp_aloadR_n rfl rfl
theorem s0_159o : mm_wp d 0 159 [mm_o o, l1, l2, l3, l4, l5, l6, l7] st h Q ↔ mm_wp d 0 160 [mm_o o, l1, l2, l3, l4, l5, l6, l7] (mm_o o :: st) h Q := wp_aload_n rfl o rfl
theorem s0_159n : mm_wp d 0 159 [.null, l1, l2, l3, l4, l5, l6, l7] st h Q ↔ mm_wp d 0 160 [.null, l1, l2, l3, l4, l5, l6, l7] (.null :: st) h Q := wp_aload_n rfl none rfl
theorem s0_160 : mm_wp d 0 160 [l0, l1, l2, l3, .int x, l5, l6, l7] st h Q ↔ mm_wp d 0 162 [l0, l1, l2, l3, .int x, l5, l6, l7] (.int x :: st) h Q := wp_iload rfl rfl
theorem s0_162 : mm_wp d 0 162 ls st h Q ↔ mm_wp d 0 163 ls (.int (4 : Int32) :: st) h Q := wp_iconst rfl rfl
theorem s0_163 : mm_wp d 0 163 ls (.int x2 :: .int x :: st) h Q ↔ mm_wp d 0 164 ls (.int (x + x2) :: st) h Q := wp_iadd rfl
theorem s0_164 : mm_wp d 0 164 ls (.int x :: .ref a :: st) h Q ↔ ((mm_s h a).1 = 20 ∧ mm_in x (mm_s h a).2 = true) ∧ mm_wp d 0 165 ls (.int (mm_i h a x.toNatClampNeg) :: st) h Q := wp_iaload rfl
theorem s0_165 : mm_wp d 0 165 [l0, l1, l2, .ref a, l4, l5, l6, l7] st h Q ↔ mm_wp d 0 166 [l0, l1, l2, .ref a, l4, l5, l6, l7] (.ref a :: st) h Q := wp_aloadR_n rfl rfl
theorem s0_165o : mm_wp d 0 165 [l0, l1, l2, mm_o o, l4, l5, l6, l7] st h Q ↔ mm_wp d 0 166 [l0, l1, l2, mm_o o, l4, l5, l6, l7] (mm_o o :: st) h Q := wp_aload_n rfl o rfl
theorem s0_165n : mm_wp d 0 165 [l0, l1, l2, .null, l4, l5, l6, l7] st h Q ↔ mm_wp d 0 166 [l0, l1, l2, .null, l4, l5, l6, l7] (.null :: st) h Q := wp_aload_n rfl none rfl
theorem s0_166 : mm_wp (d + 1) 0 166 ls [.ref b, .int x5, .int x4, .int x3, .int x2, .ref a] h Q ↔ mm_wp d 22 0 [.ref a, .int x2, .int x3, .int x4, .int x5, .ref b, mm_j] [] h (mm_bk (d + 1) 0 166 ls [] Q) := wp_static rfl rfl ⟨by decide, rfl⟩ ⟨Nat.le_of_ble_eq_true rfl, Nat.le_of_ble_eq_true rfl⟩ rfl rfl rfl rfl
theorem s0_169 : mm_wp d 0 169 [l0, l1, l2, l3, l4, l5, l6, l7] (.int x :: st) h Q ↔ mm_wp d 0 171 [l0, l1, l2, l3, l4, .int x, l6, l7] st h Q := wp_istore rfl rfl
theorem s0_171 : mm_wp d 0 171 [l0, l1, .ref a, l3, l4, l5, l6, l7] st h Q ↔ mm_wp d 0 172 [l0, l1, .ref a, l3, l4, l5, l6, l7] (.ref a :: st) h Q := wp_aloadR_n rfl rfl
theorem s0_171o : mm_wp d 0 171 [l0, l1, mm_o o, l3, l4, l5, l6, l7] st h Q ↔ mm_wp d 0 172 [l0, l1, mm_o o, l3, l4, l5, l6, l7] (mm_o o :: st) h Q := wp_aload_n rfl o rfl
theorem s0_171n : mm_wp d 0 171 [l0, l1, .null, l3, l4, l5, l6, l7] st h Q ↔ mm_wp d 0 172 [l0, l1, .null, l3, l4, l5, l6, l7] (.null :: st) h Q := wp_aload_n rfl none rfl
theorem s0_172 : mm_wp d 0 172 [.ref a, l1, l2, l3, l4, l5, l6, l7] st h Q ↔ mm_wp d 0 173 [.ref a, l1, l2, l3, l4, l5, l6, l7] (.ref a :: st) h Q := wp_aloadR_n rfl rfl
theorem s0_172o : mm_wp d 0 172 [mm_o o, l1, l2, l3, l4, l5, l6, l7] st h Q ↔ mm_wp d 0 173 [mm_o o, l1, l2, l3, l4, l5, l6, l7] (mm_o o :: st) h Q := wp_aload_n rfl o rfl
theorem s0_172n : mm_wp d 0 172 [.null, l1, l2, l3, l4, l5, l6, l7] st h Q ↔ mm_wp d 0 173 [.null, l1, l2, l3, l4, l5, l6, l7] (.null :: st) h Q := wp_aload_n rfl none rfl
theorem s0_173 : mm_wp d 0 173 [l0, l1, l2, l3, .int x, l5, l6, l7] st h Q ↔ mm_wp d 0 175 [l0, l1, l2, l3, .int x, l5, l6, l7] (.int x :: st) h Q := wp_iload rfl rfl
theorem s0_175 : mm_wp d 0 175 ls st h Q ↔ mm_wp d 0 176 ls (.int (1 : Int32) :: st) h Q := wp_iconst rfl rfl
theorem s0_176 : mm_wp d 0 176 ls (.int x2 :: .int x :: st) h Q ↔ mm_wp d 0 177 ls (.int (x + x2) :: st) h Q := wp_iadd rfl
theorem s0_177 : mm_wp d 0 177 ls (.int x :: .ref a :: st) h Q ↔ ((mm_s h a).1 = 20 ∧ mm_in x (mm_s h a).2 = true) ∧ mm_wp d 0 178 ls (.int (mm_i h a x.toNatClampNeg) :: st) h Q := wp_iaload rfl
theorem s0_178 : mm_wp d 0 178 [.ref a, l1, l2, l3, l4, l5, l6, l7] st h Q ↔ mm_wp d 0 179 [.ref a, l1, l2, l3, l4, l5, l6, l7] (.ref a :: st) h Q := wp_aloadR_n rfl rfl
theorem s0_178o : mm_wp d 0 178 [mm_o o, l1, l2, l3, l4, l5, l6, l7] st h Q ↔ mm_wp d 0 179 [mm_o o, l1, l2, l3, l4, l5, l6, l7] (mm_o o :: st) h Q := wp_aload_n rfl o rfl
theorem s0_178n : mm_wp d 0 178 [.null, l1, l2, l3, l4, l5, l6, l7] st h Q ↔ mm_wp d 0 179 [.null, l1, l2, l3, l4, l5, l6, l7] (.null :: st) h Q := wp_aload_n rfl none rfl
theorem s0_179 : mm_wp d 0 179 [l0, l1, l2, l3, .int x, l5, l6, l7] st h Q ↔ mm_wp d 0 181 [l0, l1, l2, l3, .int x, l5, l6, l7] (.int x :: st) h Q := wp_iload rfl rfl
theorem s0_181 : mm_wp d 0 181 ls st h Q ↔ mm_wp d 0 182 ls (.int (2 : Int32) :: st) h Q := wp_iconst rfl rfl
theorem s0_182 : mm_wp d 0 182 ls (.int x2 :: .int x :: st) h Q ↔ mm_wp d 0 183 ls (.int (x + x2) :: st) h Q := wp_iadd rfl
theorem s0_183 : mm_wp d 0 183 ls (.int x :: .ref a :: st) h Q ↔ ((mm_s h a).1 = 20 ∧ mm_in x (mm_s h a).2 = true) ∧ mm_wp d 0 184 ls (.int (mm_i h a x.toNatClampNeg) :: st) h Q := wp_iaload rfl
theorem s0_184 : mm_wp d 0 184 [.ref a, l1, l2, l3, l4, l5, l6, l7] st h Q ↔ mm_wp d 0 185 [.ref a, l1, l2, l3, l4, l5, l6, l7] (.ref a :: st) h Q := wp_aloadR_n rfl rfl
theorem s0_184o : mm_wp d 0 184 [mm_o o, l1, l2, l3, l4, l5, l6, l7] st h Q ↔ mm_wp d 0 185 [mm_o o, l1, l2, l3, l4, l5, l6, l7] (mm_o o :: st) h Q := wp_aload_n rfl o rfl
theorem s0_184n : mm_wp d 0 184 [.null, l1, l2, l3, l4, l5, l6, l7] st h Q ↔ mm_wp d 0 185 [.null, l1, l2, l3, l4, l5, l6, l7] (.null :: st) h Q := wp_aload_n rfl none rfl
theorem s0_185 : mm_wp d 0 185 [l0, l1, l2, l3, .int x, l5, l6, l7] st h Q ↔ mm_wp d 0 187 [l0, l1, l2, l3, .int x, l5, l6, l7] (.int x :: st) h Q := wp_iload rfl rfl
theorem s0_187 : mm_wp d 0 187 ls st h Q ↔ mm_wp d 0 188 ls (.int (3 : Int32) :: st) h Q := wp_iconst rfl rfl
theorem s0_188 : mm_wp d 0 188 ls (.int x2 :: .int x :: st) h Q ↔ mm_wp d 0 189 ls (.int (x + x2) :: st) h Q := wp_iadd rfl
theorem s0_189 : mm_wp d 0 189 ls (.int x :: .ref a :: st) h Q ↔ ((mm_s h a).1 = 20 ∧ mm_in x (mm_s h a).2 = true) ∧ mm_wp d 0 190 ls (.int (mm_i h a x.toNatClampNeg) :: st) h Q := wp_iaload rfl
theorem s0_190 : mm_wp d 0 190 [.ref a, l1, l2, l3, l4, l5, l6, l7] st h Q ↔ mm_wp d 0 191 [.ref a, l1, l2, l3, l4, l5, l6, l7] (.ref a :: st) h Q := wp_aloadR_n rfl rfl
theorem s0_190o : mm_wp d 0 190 [mm_o o, l1, l2, l3, l4, l5, l6, l7] st h Q ↔ mm_wp d 0 191 [mm_o o, l1, l2, l3, l4, l5, l6, l7] (mm_o o :: st) h Q := wp_aload_n rfl o rfl
theorem s0_190n : mm_wp d 0 190 [.null, l1, l2, l3, l4, l5, l6, l7] st h Q ↔ mm_wp d 0 191 [.null, l1, l2, l3, l4, l5, l6, l7] (.null :: st) h Q := wp_aload_n rfl none rfl
theorem s0_191 : mm_wp d 0 191 [l0, l1, l2, l3, .int x, l5, l6, l7] st h Q ↔ mm_wp d 0 193 [l0, l1, l2, l3, .int x, l5, l6, l7] (.int x :: st) h Q := wp_iload rfl rfl
theorem s0_193 : mm_wp d 0 193 ls st h Q ↔ mm_wp d 0 194 ls (.int (4 : Int32) :: st) h Q := wp_iconst rfl rfl
theorem s0_194 : mm_wp d 0 194 ls (.int x2 :: .int x :: st) h Q ↔ mm_wp d 0 195 ls (.int (x + x2) :: st) h Q := wp_iadd rfl
theorem s0_195 : mm_wp d 0 195 ls (.int x :: .ref a :: st) h Q ↔ ((mm_s h a).1 = 20 ∧ mm_in x (mm_s h a).2 = true) ∧ mm_wp d 0 196 ls (.int (mm_i h a x.toNatClampNeg) :: st) h Q := wp_iaload rfl
theorem s0_196 : mm_wp (d + 1) 0 196 ls [.int x5, .int x4, .int x3, .int x2, .ref a] h Q ↔ (mm_s h a).1 = 10 ∧ mm_wp d 111 0 [.ref a, .int x2, .int x3, .int x4, .int x5, mm_j] [] h (mm_bk (d + 1) 0 196 ls [] Q) := wp_virtual rfl rfl ⟨by decide, rfl⟩ ⟨Nat.le_of_ble_eq_true rfl, Nat.le_of_ble_eq_true rfl⟩ rfl rfl rfl rfl rfl rfl
theorem s0_199 : mm_wp d 0 199 [l0, l1, l2, l3, l4, l5, l6, l7] (.int x :: st) h Q ↔ mm_wp d 0 201 [l0, l1, l2, l3, l4, l5, .int x, l7] st h Q := wp_istore rfl rfl
theorem s0_201 : mm_wp d 0 201 [l0, l1, .ref a, l3, l4, l5, l6, l7] st h Q ↔ mm_wp d 0 202 [l0, l1, .ref a, l3, l4, l5, l6, l7] (.ref a :: st) h Q := wp_aloadR_n rfl rfl
theorem s0_201o : mm_wp d 0 201 [l0, l1, mm_o o, l3, l4, l5, l6, l7] st h Q ↔ mm_wp d 0 202 [l0, l1, mm_o o, l3, l4, l5, l6, l7] (mm_o o :: st) h Q := wp_aload_n rfl o rfl
theorem s0_201n : mm_wp d 0 201 [l0, l1, .null, l3, l4, l5, l6, l7] st h Q ↔ mm_wp d 0 202 [l0, l1, .null, l3, l4, l5, l6, l7] (.null :: st) h Q := wp_aload_n rfl none rfl
theorem s0_202 : mm_wp (d + 1) 0 202 ls [.ref a] h Q ↔ (mm_s h a).1 = 10 ∧ mm_wp d 110 0 [.ref a] [] h (mm_bk (d + 1) 0 202 ls [] Q) := wp_virtual rfl rfl ⟨by decide, rfl⟩ ⟨Nat.le_of_ble_eq_true rfl, Nat.le_of_ble_eq_true rfl⟩ rfl rfl rfl rfl rfl rfl
theorem s0_205 : mm_wp d 0 205 [l0, l1, l2, l3, l4, .int x, l6, l7] st h Q ↔ mm_wp d 0 207 [l0, l1, l2, l3, l4, .int x, l6, l7] (.int x :: st) h Q := wp_iload rfl rfl
theorem s0_207 : mm_wp d 0 207 ls (.int x2 :: .int x :: st) h Q ↔ if x = x2 then mm_wp d 0 212 ls st h Q else mm_wp d 0 210 ls st h Q := wp_icmpeq rfl rfl
theorem s0_210 : mm_wp d 0 210 ls st h Q ↔ mm_wp d 0 211 ls (.int (0 : Int32) :: st) h Q := wp_iconst rfl rfl
theorem s0_211 : mm_wp d 0 211 ls (.int x :: st) h Q ↔ (x = 0 ∨ x = 1) ∧ Q (.inl (some (.int x))) h := wp_zret rfl rfl
theorem s0_212 : mm_wp d 0 212 [l0, l1, l2, l3, l4, .int x, l6, l7] st h Q ↔ mm_wp d 0 214 [l0, l1, l2, l3, l4, .int x, l6, l7] (.int x :: st) h Q := wp_iload rfl rfl
theorem s0_214 : mm_wp d 0 214 ls (.int x :: st) h Q ↔ if x = 0 then mm_wp d 0 217 ls st h Q else mm_wp d 0 229 ls st h Q := wp_ifne rfl rfl
theorem s0_217 : mm_wp d 0 217 [l0, l1, l2, .ref a, l4, l5, l6, l7] st h Q ↔ mm_wp d 0 218 [l0, l1, l2, .ref a, l4, l5, l6, l7] (.ref a :: st) h Q := wp_aloadR_n rfl rfl
theorem s0_217o : mm_wp d 0 217 [l0, l1, l2, mm_o o, l4, l5, l6, l7] st h Q ↔ mm_wp d 0 218 [l0, l1, l2, mm_o o, l4, l5, l6, l7] (mm_o o :: st) h Q := wp_aload_n rfl o rfl
theorem s0_217n : mm_wp d 0 217 [l0, l1, l2, .null, l4, l5, l6, l7] st h Q ↔ mm_wp d 0 218 [l0, l1, l2, .null, l4, l5, l6, l7] (.null :: st) h Q := wp_aload_n rfl none rfl
theorem s0_218 : mm_wp d 0 218 ls st h Q ↔ mm_wp d 0 219 ls (.int (0 : Int32) :: st) h Q := wp_iconst rfl rfl
theorem s0_219 : mm_wp d 0 219 ls (.int x :: .ref a :: st) h Q ↔ ((mm_s h a).1 = 21 ∧ mm_in x (mm_s h a).2 = true) ∧ mm_wp d 0 220 ls (.long (mm_l h a x.toNatClampNeg) :: st) h Q := wp_laload rfl
theorem s0_220 : mm_wp d 0 220 [l0, l1, l2, l3, l4, l5, .int x, l7] st h Q ↔ mm_wp d 0 222 [l0, l1, l2, l3, l4, l5, .int x, l7] (.int x :: st) h Q := wp_iload rfl rfl
theorem s0_222 : mm_wp d 0 222 ls (.int x :: st) h Q ↔ mm_wp d 0 223 ls (.long x.toInt64 :: st) h Q := wp_i2l rfl
theorem s0_223 : mm_wp d 0 223 ls (.long w2 :: .long w :: st) h Q ↔ mm_wp d 0 224 ls (.int (if w2 < w then 1 else if w = w2 then 0 else -1) :: st) h Q := wp_lcmp rfl
theorem s0_224 : mm_wp d 0 224 ls (.int x :: st) h Q ↔ if x = 0 then mm_wp d 0 229 ls st h Q else mm_wp d 0 227 ls st h Q := wp_ifeq rfl rfl
theorem s0_227 : mm_wp d 0 227 ls st h Q ↔ mm_wp d 0 228 ls (.int (0 : Int32) :: st) h Q := wp_iconst rfl rfl
theorem s0_228 : mm_wp d 0 228 ls (.int x :: st) h Q ↔ (x = 0 ∨ x = 1) ∧ Q (.inl (some (.int x))) h := wp_zret rfl rfl
theorem s0_229 : mm_wp d 0 229 ls st h Q ↔ mm_wp d 0 860 ls st h Q := wp_goto rfl rfl
theorem s0_232 : mm_wp d 0 232 [l0, .ref a, l2, l3, l4, l5, l6, l7] st h Q ↔ mm_wp d 0 233 [l0, .ref a, l2, l3, l4, l5, l6, l7] (.ref a :: st) h Q := wp_aloadR_n rfl rfl
theorem s0_232o : mm_wp d 0 232 [l0, mm_o o, l2, l3, l4, l5, l6, l7] st h Q ↔ mm_wp d 0 233 [l0, mm_o o, l2, l3, l4, l5, l6, l7] (mm_o o :: st) h Q := wp_aload_n rfl o rfl
theorem s0_232n : mm_wp d 0 232 [l0, .null, l2, l3, l4, l5, l6, l7] st h Q ↔ mm_wp d 0 233 [l0, .null, l2, l3, l4, l5, l6, l7] (.null :: st) h Q := wp_aload_n rfl none rfl
theorem s0_233 : mm_wp d 0 233 [.ref a, l1, l2, l3, l4, l5, l6, l7] st h Q ↔ mm_wp d 0 234 [.ref a, l1, l2, l3, l4, l5, l6, l7] (.ref a :: st) h Q := wp_aloadR_n rfl rfl
theorem s0_233o : mm_wp d 0 233 [mm_o o, l1, l2, l3, l4, l5, l6, l7] st h Q ↔ mm_wp d 0 234 [mm_o o, l1, l2, l3, l4, l5, l6, l7] (mm_o o :: st) h Q := wp_aload_n rfl o rfl
theorem s0_233n : mm_wp d 0 233 [.null, l1, l2, l3, l4, l5, l6, l7] st h Q ↔ mm_wp d 0 234 [.null, l1, l2, l3, l4, l5, l6, l7] (.null :: st) h Q := wp_aload_n rfl none rfl
theorem s0_234 : mm_wp d 0 234 [l0, l1, l2, l3, .int x, l5, l6, l7] st h Q ↔ mm_wp d 0 236 [l0, l1, l2, l3, .int x, l5, l6, l7] (.int x :: st) h Q := wp_iload rfl rfl
theorem s0_236 : mm_wp d 0 236 ls st h Q ↔ mm_wp d 0 237 ls (.int (1 : Int32) :: st) h Q := wp_iconst rfl rfl
theorem s0_237 : mm_wp d 0 237 ls (.int x2 :: .int x :: st) h Q ↔ mm_wp d 0 238 ls (.int (x + x2) :: st) h Q := wp_iadd rfl
theorem s0_238 : mm_wp d 0 238 ls (.int x :: .ref a :: st) h Q ↔ ((mm_s h a).1 = 20 ∧ mm_in x (mm_s h a).2 = true) ∧ mm_wp d 0 239 ls (.int (mm_i h a x.toNatClampNeg) :: st) h Q := wp_iaload rfl
theorem s0_239 : mm_wp d 0 239 [.ref a, l1, l2, l3, l4, l5, l6, l7] st h Q ↔ mm_wp d 0 240 [.ref a, l1, l2, l3, l4, l5, l6, l7] (.ref a :: st) h Q := wp_aloadR_n rfl rfl
theorem s0_239o : mm_wp d 0 239 [mm_o o, l1, l2, l3, l4, l5, l6, l7] st h Q ↔ mm_wp d 0 240 [mm_o o, l1, l2, l3, l4, l5, l6, l7] (mm_o o :: st) h Q := wp_aload_n rfl o rfl
theorem s0_239n : mm_wp d 0 239 [.null, l1, l2, l3, l4, l5, l6, l7] st h Q ↔ mm_wp d 0 240 [.null, l1, l2, l3, l4, l5, l6, l7] (.null :: st) h Q := wp_aload_n rfl none rfl
theorem s0_240 : mm_wp d 0 240 [l0, l1, l2, l3, .int x, l5, l6, l7] st h Q ↔ mm_wp d 0 242 [l0, l1, l2, l3, .int x, l5, l6, l7] (.int x :: st) h Q := wp_iload rfl rfl
theorem s0_242 : mm_wp d 0 242 ls st h Q ↔ mm_wp d 0 243 ls (.int (2 : Int32) :: st) h Q := wp_iconst rfl rfl
theorem s0_243 : mm_wp d 0 243 ls (.int x2 :: .int x :: st) h Q ↔ mm_wp d 0 244 ls (.int (x + x2) :: st) h Q := wp_iadd rfl
theorem s0_244 : mm_wp d 0 244 ls (.int x :: .ref a :: st) h Q ↔ ((mm_s h a).1 = 20 ∧ mm_in x (mm_s h a).2 = true) ∧ mm_wp d 0 245 ls (.int (mm_i h a x.toNatClampNeg) :: st) h Q := wp_iaload rfl
theorem s0_245 : mm_wp d 0 245 [l0, l1, l2, .ref a, l4, l5, l6, l7] st h Q ↔ mm_wp d 0 246 [l0, l1, l2, .ref a, l4, l5, l6, l7] (.ref a :: st) h Q := wp_aloadR_n rfl rfl
theorem s0_245o : mm_wp d 0 245 [l0, l1, l2, mm_o o, l4, l5, l6, l7] st h Q ↔ mm_wp d 0 246 [l0, l1, l2, mm_o o, l4, l5, l6, l7] (mm_o o :: st) h Q := wp_aload_n rfl o rfl
theorem s0_245n : mm_wp d 0 245 [l0, l1, l2, .null, l4, l5, l6, l7] st h Q ↔ mm_wp d 0 246 [l0, l1, l2, .null, l4, l5, l6, l7] (.null :: st) h Q := wp_aload_n rfl none rfl
theorem s0_246 : mm_wp (d + 1) 0 246 ls [.ref b, .int x3, .int x2, .ref a] h Q ↔ mm_wp d 39 0 [.ref a, .int x2, .int x3, .ref b, mm_j] [] h (mm_bk (d + 1) 0 246 ls [] Q) := wp_static rfl rfl ⟨by decide, rfl⟩ ⟨Nat.le_of_ble_eq_true rfl, Nat.le_of_ble_eq_true rfl⟩ rfl rfl rfl rfl
theorem s0_249 : mm_wp d 0 249 [l0, l1, l2, l3, l4, l5, l6, l7] (.int x :: st) h Q ↔ mm_wp d 0 251 [l0, l1, l2, l3, l4, .int x, l6, l7] st h Q := wp_istore rfl rfl
theorem s0_251 : mm_wp d 0 251 [l0, l1, .ref a, l3, l4, l5, l6, l7] st h Q ↔ mm_wp d 0 252 [l0, l1, .ref a, l3, l4, l5, l6, l7] (.ref a :: st) h Q := wp_aloadR_n rfl rfl
theorem s0_251o : mm_wp d 0 251 [l0, l1, mm_o o, l3, l4, l5, l6, l7] st h Q ↔ mm_wp d 0 252 [l0, l1, mm_o o, l3, l4, l5, l6, l7] (mm_o o :: st) h Q := wp_aload_n rfl o rfl
theorem s0_251n : mm_wp d 0 251 [l0, l1, .null, l3, l4, l5, l6, l7] st h Q ↔ mm_wp d 0 252 [l0, l1, .null, l3, l4, l5, l6, l7] (.null :: st) h Q := wp_aload_n rfl none rfl
theorem s0_252 : mm_wp d 0 252 [.ref a, l1, l2, l3, l4, l5, l6, l7] st h Q ↔ mm_wp d 0 253 [.ref a, l1, l2, l3, l4, l5, l6, l7] (.ref a :: st) h Q := wp_aloadR_n rfl rfl
theorem s0_252o : mm_wp d 0 252 [mm_o o, l1, l2, l3, l4, l5, l6, l7] st h Q ↔ mm_wp d 0 253 [mm_o o, l1, l2, l3, l4, l5, l6, l7] (mm_o o :: st) h Q := wp_aload_n rfl o rfl
theorem s0_252n : mm_wp d 0 252 [.null, l1, l2, l3, l4, l5, l6, l7] st h Q ↔ mm_wp d 0 253 [.null, l1, l2, l3, l4, l5, l6, l7] (.null :: st) h Q := wp_aload_n rfl none rfl
theorem s0_253 : mm_wp d 0 253 [l0, l1, l2, l3, .int x, l5, l6, l7] st h Q ↔ mm_wp d 0 255 [l0, l1, l2, l3, .int x, l5, l6, l7] (.int x :: st) h Q := wp_iload rfl rfl
theorem s0_255 : mm_wp d 0 255 ls st h Q ↔ mm_wp d 0 256 ls (.int (1 : Int32) :: st) h Q := wp_iconst rfl rfl
theorem s0_256 : mm_wp d 0 256 ls (.int x2 :: .int x :: st) h Q ↔ mm_wp d 0 257 ls (.int (x + x2) :: st) h Q := wp_iadd rfl
theorem s0_257 : mm_wp d 0 257 ls (.int x :: .ref a :: st) h Q ↔ ((mm_s h a).1 = 20 ∧ mm_in x (mm_s h a).2 = true) ∧ mm_wp d 0 258 ls (.int (mm_i h a x.toNatClampNeg) :: st) h Q := wp_iaload rfl
theorem s0_258 : mm_wp d 0 258 [.ref a, l1, l2, l3, l4, l5, l6, l7] st h Q ↔ mm_wp d 0 259 [.ref a, l1, l2, l3, l4, l5, l6, l7] (.ref a :: st) h Q := wp_aloadR_n rfl rfl
theorem s0_258o : mm_wp d 0 258 [mm_o o, l1, l2, l3, l4, l5, l6, l7] st h Q ↔ mm_wp d 0 259 [mm_o o, l1, l2, l3, l4, l5, l6, l7] (mm_o o :: st) h Q := wp_aload_n rfl o rfl
theorem s0_258n : mm_wp d 0 258 [.null, l1, l2, l3, l4, l5, l6, l7] st h Q ↔ mm_wp d 0 259 [.null, l1, l2, l3, l4, l5, l6, l7] (.null :: st) h Q := wp_aload_n rfl none rfl
theorem s0_259 : mm_wp d 0 259 [l0, l1, l2, l3, .int x, l5, l6, l7] st h Q ↔ mm_wp d 0 261 [l0, l1, l2, l3, .int x, l5, l6, l7] (.int x :: st) h Q := wp_iload rfl rfl
theorem s0_261 : mm_wp d 0 261 ls st h Q ↔ mm_wp d 0 262 ls (.int (2 : Int32) :: st) h Q := wp_iconst rfl rfl
theorem s0_262 : mm_wp d 0 262 ls (.int x2 :: .int x :: st) h Q ↔ mm_wp d 0 263 ls (.int (x + x2) :: st) h Q := wp_iadd rfl
theorem s0_263 : mm_wp d 0 263 ls (.int x :: .ref a :: st) h Q ↔ ((mm_s h a).1 = 20 ∧ mm_in x (mm_s h a).2 = true) ∧ mm_wp d 0 264 ls (.int (mm_i h a x.toNatClampNeg) :: st) h Q := wp_iaload rfl
theorem s0_264 : mm_wp (d + 1) 0 264 ls [.int x3, .int x2, .ref a] h Q ↔ (mm_s h a).1 = 10 ∧ mm_wp d 114 0 [.ref a, .int x2, .int x3, mm_j] [] h (mm_bk (d + 1) 0 264 ls [] Q) := wp_virtual rfl rfl ⟨by decide, rfl⟩ ⟨Nat.le_of_ble_eq_true rfl, Nat.le_of_ble_eq_true rfl⟩ rfl rfl rfl rfl rfl rfl
theorem s0_267 : mm_wp d 0 267 [l0, l1, l2, l3, l4, l5, l6, l7] (.int x :: st) h Q ↔ mm_wp d 0 269 [l0, l1, l2, l3, l4, l5, .int x, l7] st h Q := wp_istore rfl rfl
theorem s0_269 : mm_wp d 0 269 [l0, l1, .ref a, l3, l4, l5, l6, l7] st h Q ↔ mm_wp d 0 270 [l0, l1, .ref a, l3, l4, l5, l6, l7] (.ref a :: st) h Q := wp_aloadR_n rfl rfl
theorem s0_269o : mm_wp d 0 269 [l0, l1, mm_o o, l3, l4, l5, l6, l7] st h Q ↔ mm_wp d 0 270 [l0, l1, mm_o o, l3, l4, l5, l6, l7] (mm_o o :: st) h Q := wp_aload_n rfl o rfl
theorem s0_269n : mm_wp d 0 269 [l0, l1, .null, l3, l4, l5, l6, l7] st h Q ↔ mm_wp d 0 270 [l0, l1, .null, l3, l4, l5, l6, l7] (.null :: st) h Q := wp_aload_n rfl none rfl
theorem s0_270 : mm_wp (d + 1) 0 270 ls [.ref a] h Q ↔ (mm_s h a).1 = 10 ∧ mm_wp d 110 0 [.ref a] [] h (mm_bk (d + 1) 0 270 ls [] Q) := wp_virtual rfl rfl ⟨by decide, rfl⟩ ⟨Nat.le_of_ble_eq_true rfl, Nat.le_of_ble_eq_true rfl⟩ rfl rfl rfl rfl rfl rfl
theorem s0_273 : mm_wp d 0 273 [l0, l1, l2, l3, l4, .int x, l6, l7] st h Q ↔ mm_wp d 0 275 [l0, l1, l2, l3, l4, .int x, l6, l7] (.int x :: st) h Q := wp_iload rfl rfl
theorem s0_275 : mm_wp d 0 275 ls (.int x2 :: .int x :: st) h Q ↔ if x = x2 then mm_wp d 0 280 ls st h Q else mm_wp d 0 278 ls st h Q := wp_icmpeq rfl rfl
theorem s0_278 : mm_wp d 0 278 ls st h Q ↔ mm_wp d 0 279 ls (.int (0 : Int32) :: st) h Q := wp_iconst rfl rfl
theorem s0_279 : mm_wp d 0 279 ls (.int x :: st) h Q ↔ (x = 0 ∨ x = 1) ∧ Q (.inl (some (.int x))) h := wp_zret rfl rfl
theorem s0_280 : mm_wp d 0 280 [l0, l1, l2, l3, l4, .int x, l6, l7] st h Q ↔ mm_wp d 0 282 [l0, l1, l2, l3, l4, .int x, l6, l7] (.int x :: st) h Q := wp_iload rfl rfl
theorem s0_282 : mm_wp d 0 282 ls (.int x :: st) h Q ↔ if x = 0 then mm_wp d 0 285 ls st h Q else mm_wp d 0 297 ls st h Q := wp_ifne rfl rfl
theorem s0_285 : mm_wp d 0 285 [l0, l1, l2, .ref a, l4, l5, l6, l7] st h Q ↔ mm_wp d 0 286 [l0, l1, l2, .ref a, l4, l5, l6, l7] (.ref a :: st) h Q := wp_aloadR_n rfl rfl
theorem s0_285o : mm_wp d 0 285 [l0, l1, l2, mm_o o, l4, l5, l6, l7] st h Q ↔ mm_wp d 0 286 [l0, l1, l2, mm_o o, l4, l5, l6, l7] (mm_o o :: st) h Q := wp_aload_n rfl o rfl
theorem s0_285n : mm_wp d 0 285 [l0, l1, l2, .null, l4, l5, l6, l7] st h Q ↔ mm_wp d 0 286 [l0, l1, l2, .null, l4, l5, l6, l7] (.null :: st) h Q := wp_aload_n rfl none rfl
theorem s0_286 : mm_wp d 0 286 ls st h Q ↔ mm_wp d 0 287 ls (.int (0 : Int32) :: st) h Q := wp_iconst rfl rfl
theorem s0_287 : mm_wp d 0 287 ls (.int x :: .ref a :: st) h Q ↔ ((mm_s h a).1 = 21 ∧ mm_in x (mm_s h a).2 = true) ∧ mm_wp d 0 288 ls (.long (mm_l h a x.toNatClampNeg) :: st) h Q := wp_laload rfl
theorem s0_288 : mm_wp d 0 288 [l0, l1, l2, l3, l4, l5, .int x, l7] st h Q ↔ mm_wp d 0 290 [l0, l1, l2, l3, l4, l5, .int x, l7] (.int x :: st) h Q := wp_iload rfl rfl
theorem s0_290 : mm_wp d 0 290 ls (.int x :: st) h Q ↔ mm_wp d 0 291 ls (.long x.toInt64 :: st) h Q := wp_i2l rfl
theorem s0_291 : mm_wp d 0 291 ls (.long w2 :: .long w :: st) h Q ↔ mm_wp d 0 292 ls (.int (if w2 < w then 1 else if w = w2 then 0 else -1) :: st) h Q := wp_lcmp rfl
theorem s0_292 : mm_wp d 0 292 ls (.int x :: st) h Q ↔ if x = 0 then mm_wp d 0 297 ls st h Q else mm_wp d 0 295 ls st h Q := wp_ifeq rfl rfl
theorem s0_295 : mm_wp d 0 295 ls st h Q ↔ mm_wp d 0 296 ls (.int (0 : Int32) :: st) h Q := wp_iconst rfl rfl
theorem s0_296 : mm_wp d 0 296 ls (.int x :: st) h Q ↔ (x = 0 ∨ x = 1) ∧ Q (.inl (some (.int x))) h := wp_zret rfl rfl
theorem s0_297 : mm_wp d 0 297 ls st h Q ↔ mm_wp d 0 860 ls st h Q := wp_goto rfl rfl
theorem s0_300 : mm_wp d 0 300 [l0, .ref a, l2, l3, l4, l5, l6, l7] st h Q ↔ mm_wp d 0 301 [l0, .ref a, l2, l3, l4, l5, l6, l7] (.ref a :: st) h Q := wp_aloadR_n rfl rfl
theorem s0_300o : mm_wp d 0 300 [l0, mm_o o, l2, l3, l4, l5, l6, l7] st h Q ↔ mm_wp d 0 301 [l0, mm_o o, l2, l3, l4, l5, l6, l7] (mm_o o :: st) h Q := wp_aload_n rfl o rfl
theorem s0_300n : mm_wp d 0 300 [l0, .null, l2, l3, l4, l5, l6, l7] st h Q ↔ mm_wp d 0 301 [l0, .null, l2, l3, l4, l5, l6, l7] (.null :: st) h Q := wp_aload_n rfl none rfl
theorem s0_301 : mm_wp d 0 301 [.ref a, l1, l2, l3, l4, l5, l6, l7] st h Q ↔ mm_wp d 0 302 [.ref a, l1, l2, l3, l4, l5, l6, l7] (.ref a :: st) h Q := wp_aloadR_n rfl rfl
theorem s0_301o : mm_wp d 0 301 [mm_o o, l1, l2, l3, l4, l5, l6, l7] st h Q ↔ mm_wp d 0 302 [mm_o o, l1, l2, l3, l4, l5, l6, l7] (mm_o o :: st) h Q := wp_aload_n rfl o rfl
theorem s0_301n : mm_wp d 0 301 [.null, l1, l2, l3, l4, l5, l6, l7] st h Q ↔ mm_wp d 0 302 [.null, l1, l2, l3, l4, l5, l6, l7] (.null :: st) h Q := wp_aload_n rfl none rfl
theorem s0_302 : mm_wp d 0 302 [l0, l1, l2, l3, .int x, l5, l6, l7] st h Q ↔ mm_wp d 0 304 [l0, l1, l2, l3, .int x, l5, l6, l7] (.int x :: st) h Q := wp_iload rfl rfl
theorem s0_304 : mm_wp d 0 304 ls st h Q ↔ mm_wp d 0 305 ls (.int (1 : Int32) :: st) h Q := wp_iconst rfl rfl
theorem s0_305 : mm_wp d 0 305 ls (.int x2 :: .int x :: st) h Q ↔ mm_wp d 0 306 ls (.int (x + x2) :: st) h Q := wp_iadd rfl
theorem s0_306 : mm_wp d 0 306 ls (.int x :: .ref a :: st) h Q ↔ ((mm_s h a).1 = 20 ∧ mm_in x (mm_s h a).2 = true) ∧ mm_wp d 0 307 ls (.int (mm_i h a x.toNatClampNeg) :: st) h Q := wp_iaload rfl
theorem s0_307 : mm_wp d 0 307 [.ref a, l1, l2, l3, l4, l5, l6, l7] st h Q ↔ mm_wp d 0 308 [.ref a, l1, l2, l3, l4, l5, l6, l7] (.ref a :: st) h Q := wp_aloadR_n rfl rfl
theorem s0_307o : mm_wp d 0 307 [mm_o o, l1, l2, l3, l4, l5, l6, l7] st h Q ↔ mm_wp d 0 308 [mm_o o, l1, l2, l3, l4, l5, l6, l7] (mm_o o :: st) h Q := wp_aload_n rfl o rfl
theorem s0_307n : mm_wp d 0 307 [.null, l1, l2, l3, l4, l5, l6, l7] st h Q ↔ mm_wp d 0 308 [.null, l1, l2, l3, l4, l5, l6, l7] (.null :: st) h Q := wp_aload_n rfl none rfl
theorem s0_308 : mm_wp d 0 308 [l0, l1, l2, l3, .int x, l5, l6, l7] st h Q ↔ mm_wp d 0 310 [l0, l1, l2, l3, .int x, l5, l6, l7] (.int x :: st) h Q := wp_iload rfl rfl
theorem s0_310 : mm_wp d 0 310 ls st h Q ↔ mm_wp d 0 311 ls (.int (2 : Int32) :: st) h Q := wp_iconst rfl rfl
theorem s0_311 : mm_wp d 0 311 ls (.int x2 :: .int x :: st) h Q ↔ mm_wp d 0 312 ls (.int (x + x2) :: st) h Q := wp_iadd rfl
theorem s0_312 : mm_wp d 0 312 ls (.int x :: .ref a :: st) h Q ↔ ((mm_s h a).1 = 20 ∧ mm_in x (mm_s h a).2 = true) ∧ mm_wp d 0 313 ls (.int (mm_i h a x.toNatClampNeg) :: st) h Q := wp_iaload rfl
theorem s0_313 : mm_wp d 0 313 [l0, l1, l2, .ref a, l4, l5, l6, l7] st h Q ↔ mm_wp d 0 314 [l0, l1, l2, .ref a, l4, l5, l6, l7] (.ref a :: st) h Q := wp_aloadR_n rfl rfl
theorem s0_313o : mm_wp d 0 313 [l0, l1, l2, mm_o o, l4, l5, l6, l7] st h Q ↔ mm_wp d 0 314 [l0, l1, l2, mm_o o, l4, l5, l6, l7] (mm_o o :: st) h Q := wp_aload_n rfl o rfl
theorem s0_313n : mm_wp d 0 313 [l0, l1, l2, .null, l4, l5, l6, l7] st h Q ↔ mm_wp d 0 314 [l0, l1, l2, .null, l4, l5, l6, l7] (.null :: st) h Q := wp_aload_n rfl none rfl
theorem s0_314 : mm_wp (d + 1) 0 314 ls [.ref b, .int x3, .int x2, .ref a] h Q ↔ mm_wp d 43 0 [.ref a, .int x2, .int x3, .ref b, mm_j] [] h (mm_bk (d + 1) 0 314 ls [] Q) := wp_static rfl rfl ⟨by decide, rfl⟩ ⟨Nat.le_of_ble_eq_true rfl, Nat.le_of_ble_eq_true rfl⟩ rfl rfl rfl rfl
theorem s0_317 : mm_wp d 0 317 [l0, l1, l2, l3, l4, l5, l6, l7] (.int x :: st) h Q ↔ mm_wp d 0 319 [l0, l1, l2, l3, l4, .int x, l6, l7] st h Q := wp_istore rfl rfl
theorem s0_319 : mm_wp d 0 319 [l0, l1, .ref a, l3, l4, l5, l6, l7] st h Q ↔ mm_wp d 0 320 [l0, l1, .ref a, l3, l4, l5, l6, l7] (.ref a :: st) h Q := wp_aloadR_n rfl rfl
theorem s0_319o : mm_wp d 0 319 [l0, l1, mm_o o, l3, l4, l5, l6, l7] st h Q ↔ mm_wp d 0 320 [l0, l1, mm_o o, l3, l4, l5, l6, l7] (mm_o o :: st) h Q := wp_aload_n rfl o rfl
theorem s0_319n : mm_wp d 0 319 [l0, l1, .null, l3, l4, l5, l6, l7] st h Q ↔ mm_wp d 0 320 [l0, l1, .null, l3, l4, l5, l6, l7] (.null :: st) h Q := wp_aload_n rfl none rfl
theorem s0_320 : mm_wp d 0 320 [.ref a, l1, l2, l3, l4, l5, l6, l7] st h Q ↔ mm_wp d 0 321 [.ref a, l1, l2, l3, l4, l5, l6, l7] (.ref a :: st) h Q := wp_aloadR_n rfl rfl
theorem s0_320o : mm_wp d 0 320 [mm_o o, l1, l2, l3, l4, l5, l6, l7] st h Q ↔ mm_wp d 0 321 [mm_o o, l1, l2, l3, l4, l5, l6, l7] (mm_o o :: st) h Q := wp_aload_n rfl o rfl
theorem s0_320n : mm_wp d 0 320 [.null, l1, l2, l3, l4, l5, l6, l7] st h Q ↔ mm_wp d 0 321 [.null, l1, l2, l3, l4, l5, l6, l7] (.null :: st) h Q := wp_aload_n rfl none rfl
theorem s0_321 : mm_wp d 0 321 [l0, l1, l2, l3, .int x, l5, l6, l7] st h Q ↔ mm_wp d 0 323 [l0, l1, l2, l3, .int x, l5, l6, l7] (.int x :: st) h Q := wp_iload rfl rfl
theorem s0_323 : mm_wp d 0 323 ls st h Q ↔ mm_wp d 0 324 ls (.int (1 : Int32) :: st) h Q := wp_iconst rfl rfl
theorem s0_324 : mm_wp d 0 324 ls (.int x2 :: .int x :: st) h Q ↔ mm_wp d 0 325 ls (.int (x + x2) :: st) h Q := wp_iadd rfl
theorem s0_325 : mm_wp d 0 325 ls (.int x :: .ref a :: st) h Q ↔ ((mm_s h a).1 = 20 ∧ mm_in x (mm_s h a).2 = true) ∧ mm_wp d 0 326 ls (.int (mm_i h a x.toNatClampNeg) :: st) h Q := wp_iaload rfl
theorem s0_326 : mm_wp d 0 326 [.ref a, l1, l2, l3, l4, l5, l6, l7] st h Q ↔ mm_wp d 0 327 [.ref a, l1, l2, l3, l4, l5, l6, l7] (.ref a :: st) h Q := wp_aloadR_n rfl rfl
theorem s0_326o : mm_wp d 0 326 [mm_o o, l1, l2, l3, l4, l5, l6, l7] st h Q ↔ mm_wp d 0 327 [mm_o o, l1, l2, l3, l4, l5, l6, l7] (mm_o o :: st) h Q := wp_aload_n rfl o rfl
theorem s0_326n : mm_wp d 0 326 [.null, l1, l2, l3, l4, l5, l6, l7] st h Q ↔ mm_wp d 0 327 [.null, l1, l2, l3, l4, l5, l6, l7] (.null :: st) h Q := wp_aload_n rfl none rfl
theorem s0_327 : mm_wp d 0 327 [l0, l1, l2, l3, .int x, l5, l6, l7] st h Q ↔ mm_wp d 0 329 [l0, l1, l2, l3, .int x, l5, l6, l7] (.int x :: st) h Q := wp_iload rfl rfl
theorem s0_329 : mm_wp d 0 329 ls st h Q ↔ mm_wp d 0 330 ls (.int (2 : Int32) :: st) h Q := wp_iconst rfl rfl
theorem s0_330 : mm_wp d 0 330 ls (.int x2 :: .int x :: st) h Q ↔ mm_wp d 0 331 ls (.int (x + x2) :: st) h Q := wp_iadd rfl
theorem s0_331 : mm_wp d 0 331 ls (.int x :: .ref a :: st) h Q ↔ ((mm_s h a).1 = 20 ∧ mm_in x (mm_s h a).2 = true) ∧ mm_wp d 0 332 ls (.int (mm_i h a x.toNatClampNeg) :: st) h Q := wp_iaload rfl
theorem s0_332 : mm_wp (d + 1) 0 332 ls [.int x3, .int x2, .ref a] h Q ↔ (mm_s h a).1 = 10 ∧ mm_wp d 116 0 [.ref a, .int x2, .int x3, mm_j] [] h (mm_bk (d + 1) 0 332 ls [] Q) := wp_virtual rfl rfl ⟨by decide, rfl⟩ ⟨Nat.le_of_ble_eq_true rfl, Nat.le_of_ble_eq_true rfl⟩ rfl rfl rfl rfl rfl rfl
theorem s0_335 : mm_wp d 0 335 [l0, l1, l2, l3, l4, l5, l6, l7] (.int x :: st) h Q ↔ mm_wp d 0 337 [l0, l1, l2, l3, l4, l5, .int x, l7] st h Q := wp_istore rfl rfl
theorem s0_337 : mm_wp d 0 337 [l0, l1, .ref a, l3, l4, l5, l6, l7] st h Q ↔ mm_wp d 0 338 [l0, l1, .ref a, l3, l4, l5, l6, l7] (.ref a :: st) h Q := wp_aloadR_n rfl rfl
theorem s0_337o : mm_wp d 0 337 [l0, l1, mm_o o, l3, l4, l5, l6, l7] st h Q ↔ mm_wp d 0 338 [l0, l1, mm_o o, l3, l4, l5, l6, l7] (mm_o o :: st) h Q := wp_aload_n rfl o rfl
theorem s0_337n : mm_wp d 0 337 [l0, l1, .null, l3, l4, l5, l6, l7] st h Q ↔ mm_wp d 0 338 [l0, l1, .null, l3, l4, l5, l6, l7] (.null :: st) h Q := wp_aload_n rfl none rfl
theorem s0_338 : mm_wp (d + 1) 0 338 ls [.ref a] h Q ↔ (mm_s h a).1 = 10 ∧ mm_wp d 110 0 [.ref a] [] h (mm_bk (d + 1) 0 338 ls [] Q) := wp_virtual rfl rfl ⟨by decide, rfl⟩ ⟨Nat.le_of_ble_eq_true rfl, Nat.le_of_ble_eq_true rfl⟩ rfl rfl rfl rfl rfl rfl
theorem s0_341 : mm_wp d 0 341 [l0, l1, l2, l3, l4, .int x, l6, l7] st h Q ↔ mm_wp d 0 343 [l0, l1, l2, l3, l4, .int x, l6, l7] (.int x :: st) h Q := wp_iload rfl rfl
theorem s0_343 : mm_wp d 0 343 ls (.int x2 :: .int x :: st) h Q ↔ if x = x2 then mm_wp d 0 348 ls st h Q else mm_wp d 0 346 ls st h Q := wp_icmpeq rfl rfl
theorem s0_346 : mm_wp d 0 346 ls st h Q ↔ mm_wp d 0 347 ls (.int (0 : Int32) :: st) h Q := wp_iconst rfl rfl
theorem s0_347 : mm_wp d 0 347 ls (.int x :: st) h Q ↔ (x = 0 ∨ x = 1) ∧ Q (.inl (some (.int x))) h := wp_zret rfl rfl
theorem s0_348 : mm_wp d 0 348 [l0, l1, l2, l3, l4, .int x, l6, l7] st h Q ↔ mm_wp d 0 350 [l0, l1, l2, l3, l4, .int x, l6, l7] (.int x :: st) h Q := wp_iload rfl rfl
theorem s0_350 : mm_wp d 0 350 ls (.int x :: st) h Q ↔ if x = 0 then mm_wp d 0 353 ls st h Q else mm_wp d 0 365 ls st h Q := wp_ifne rfl rfl
theorem s0_353 : mm_wp d 0 353 [l0, l1, l2, .ref a, l4, l5, l6, l7] st h Q ↔ mm_wp d 0 354 [l0, l1, l2, .ref a, l4, l5, l6, l7] (.ref a :: st) h Q := wp_aloadR_n rfl rfl
theorem s0_353o : mm_wp d 0 353 [l0, l1, l2, mm_o o, l4, l5, l6, l7] st h Q ↔ mm_wp d 0 354 [l0, l1, l2, mm_o o, l4, l5, l6, l7] (mm_o o :: st) h Q := wp_aload_n rfl o rfl
theorem s0_353n : mm_wp d 0 353 [l0, l1, l2, .null, l4, l5, l6, l7] st h Q ↔ mm_wp d 0 354 [l0, l1, l2, .null, l4, l5, l6, l7] (.null :: st) h Q := wp_aload_n rfl none rfl
theorem s0_354 : mm_wp d 0 354 ls st h Q ↔ mm_wp d 0 355 ls (.int (0 : Int32) :: st) h Q := wp_iconst rfl rfl
theorem s0_355 : mm_wp d 0 355 ls (.int x :: .ref a :: st) h Q ↔ ((mm_s h a).1 = 21 ∧ mm_in x (mm_s h a).2 = true) ∧ mm_wp d 0 356 ls (.long (mm_l h a x.toNatClampNeg) :: st) h Q := wp_laload rfl
theorem s0_356 : mm_wp d 0 356 [l0, l1, l2, l3, l4, l5, .int x, l7] st h Q ↔ mm_wp d 0 358 [l0, l1, l2, l3, l4, l5, .int x, l7] (.int x :: st) h Q := wp_iload rfl rfl
theorem s0_358 : mm_wp d 0 358 ls (.int x :: st) h Q ↔ mm_wp d 0 359 ls (.long x.toInt64 :: st) h Q := wp_i2l rfl
theorem s0_359 : mm_wp d 0 359 ls (.long w2 :: .long w :: st) h Q ↔ mm_wp d 0 360 ls (.int (if w2 < w then 1 else if w = w2 then 0 else -1) :: st) h Q := wp_lcmp rfl
theorem s0_360 : mm_wp d 0 360 ls (.int x :: st) h Q ↔ if x = 0 then mm_wp d 0 365 ls st h Q else mm_wp d 0 363 ls st h Q := wp_ifeq rfl rfl
theorem s0_363 : mm_wp d 0 363 ls st h Q ↔ mm_wp d 0 364 ls (.int (0 : Int32) :: st) h Q := wp_iconst rfl rfl
theorem s0_364 : mm_wp d 0 364 ls (.int x :: st) h Q ↔ (x = 0 ∨ x = 1) ∧ Q (.inl (some (.int x))) h := wp_zret rfl rfl
theorem s0_365 : mm_wp d 0 365 ls st h Q ↔ mm_wp d 0 860 ls st h Q := wp_goto rfl rfl
theorem s0_368 : mm_wp d 0 368 [l0, .ref a, l2, l3, l4, l5, l6, l7] st h Q ↔ mm_wp d 0 369 [l0, .ref a, l2, l3, l4, l5, l6, l7] (.ref a :: st) h Q := wp_aloadR_n rfl rfl
theorem s0_368o : mm_wp d 0 368 [l0, mm_o o, l2, l3, l4, l5, l6, l7] st h Q ↔ mm_wp d 0 369 [l0, mm_o o, l2, l3, l4, l5, l6, l7] (mm_o o :: st) h Q := wp_aload_n rfl o rfl
theorem s0_368n : mm_wp d 0 368 [l0, .null, l2, l3, l4, l5, l6, l7] st h Q ↔ mm_wp d 0 369 [l0, .null, l2, l3, l4, l5, l6, l7] (.null :: st) h Q := wp_aload_n rfl none rfl
theorem s0_369 : mm_wp d 0 369 [.ref a, l1, l2, l3, l4, l5, l6, l7] st h Q ↔ mm_wp d 0 370 [.ref a, l1, l2, l3, l4, l5, l6, l7] (.ref a :: st) h Q := wp_aloadR_n rfl rfl
theorem s0_369o : mm_wp d 0 369 [mm_o o, l1, l2, l3, l4, l5, l6, l7] st h Q ↔ mm_wp d 0 370 [mm_o o, l1, l2, l3, l4, l5, l6, l7] (mm_o o :: st) h Q := wp_aload_n rfl o rfl
theorem s0_369n : mm_wp d 0 369 [.null, l1, l2, l3, l4, l5, l6, l7] st h Q ↔ mm_wp d 0 370 [.null, l1, l2, l3, l4, l5, l6, l7] (.null :: st) h Q := wp_aload_n rfl none rfl
theorem s0_370 : mm_wp d 0 370 [l0, l1, l2, l3, .int x, l5, l6, l7] st h Q ↔ mm_wp d 0 372 [l0, l1, l2, l3, .int x, l5, l6, l7] (.int x :: st) h Q := wp_iload rfl rfl
theorem s0_372 : mm_wp d 0 372 ls st h Q ↔ mm_wp d 0 373 ls (.int (1 : Int32) :: st) h Q := wp_iconst rfl rfl
theorem s0_373 : mm_wp d 0 373 ls (.int x2 :: .int x :: st) h Q ↔ mm_wp d 0 374 ls (.int (x + x2) :: st) h Q := wp_iadd rfl
theorem s0_374 : mm_wp d 0 374 ls (.int x :: .ref a :: st) h Q ↔ ((mm_s h a).1 = 20 ∧ mm_in x (mm_s h a).2 = true) ∧ mm_wp d 0 375 ls (.int (mm_i h a x.toNatClampNeg) :: st) h Q := wp_iaload rfl
theorem s0_375 : mm_wp d 0 375 [.ref a, l1, l2, l3, l4, l5, l6, l7] st h Q ↔ mm_wp d 0 376 [.ref a, l1, l2, l3, l4, l5, l6, l7] (.ref a :: st) h Q := wp_aloadR_n rfl rfl
theorem s0_375o : mm_wp d 0 375 [mm_o o, l1, l2, l3, l4, l5, l6, l7] st h Q ↔ mm_wp d 0 376 [mm_o o, l1, l2, l3, l4, l5, l6, l7] (mm_o o :: st) h Q := wp_aload_n rfl o rfl
theorem s0_375n : mm_wp d 0 375 [.null, l1, l2, l3, l4, l5, l6, l7] st h Q ↔ mm_wp d 0 376 [.null, l1, l2, l3, l4, l5, l6, l7] (.null :: st) h Q := wp_aload_n rfl none rfl
theorem s0_376 : mm_wp d 0 376 [l0, l1, l2, l3, .int x, l5, l6, l7] st h Q ↔ mm_wp d 0 378 [l0, l1, l2, l3, .int x, l5, l6, l7] (.int x :: st) h Q := wp_iload rfl rfl
theorem s0_378 : mm_wp d 0 378 ls st h Q ↔ mm_wp d 0 379 ls (.int (2 : Int32) :: st) h Q := wp_iconst rfl rfl
theorem s0_379 : mm_wp d 0 379 ls (.int x2 :: .int x :: st) h Q ↔ mm_wp d 0 380 ls (.int (x + x2) :: st) h Q := wp_iadd rfl
theorem s0_380 : mm_wp d 0 380 ls (.int x :: .ref a :: st) h Q ↔ ((mm_s h a).1 = 20 ∧ mm_in x (mm_s h a).2 = true) ∧ mm_wp d 0 381 ls (.int (mm_i h a x.toNatClampNeg) :: st) h Q := wp_iaload rfl
theorem s0_381 : mm_wp d 0 381 [l0, l1, l2, .ref a, l4, l5, l6, l7] st h Q ↔ mm_wp d 0 382 [l0, l1, l2, .ref a, l4, l5, l6, l7] (.ref a :: st) h Q := wp_aloadR_n rfl rfl
theorem s0_381o : mm_wp d 0 381 [l0, l1, l2, mm_o o, l4, l5, l6, l7] st h Q ↔ mm_wp d 0 382 [l0, l1, l2, mm_o o, l4, l5, l6, l7] (mm_o o :: st) h Q := wp_aload_n rfl o rfl
theorem s0_381n : mm_wp d 0 381 [l0, l1, l2, .null, l4, l5, l6, l7] st h Q ↔ mm_wp d 0 382 [l0, l1, l2, .null, l4, l5, l6, l7] (.null :: st) h Q := wp_aload_n rfl none rfl
theorem s0_382 : mm_wp (d + 1) 0 382 ls [.ref b, .int x3, .int x2, .ref a] h Q ↔ mm_wp d 45 0 [.ref a, .int x2, .int x3, .ref b, mm_j] [] h (mm_bk (d + 1) 0 382 ls [] Q) := wp_static rfl rfl ⟨by decide, rfl⟩ ⟨Nat.le_of_ble_eq_true rfl, Nat.le_of_ble_eq_true rfl⟩ rfl rfl rfl rfl
theorem s0_385 : mm_wp d 0 385 [l0, l1, l2, l3, l4, l5, l6, l7] (.int x :: st) h Q ↔ mm_wp d 0 387 [l0, l1, l2, l3, l4, .int x, l6, l7] st h Q := wp_istore rfl rfl
theorem s0_387 : mm_wp d 0 387 [l0, l1, .ref a, l3, l4, l5, l6, l7] st h Q ↔ mm_wp d 0 388 [l0, l1, .ref a, l3, l4, l5, l6, l7] (.ref a :: st) h Q := wp_aloadR_n rfl rfl
theorem s0_387o : mm_wp d 0 387 [l0, l1, mm_o o, l3, l4, l5, l6, l7] st h Q ↔ mm_wp d 0 388 [l0, l1, mm_o o, l3, l4, l5, l6, l7] (mm_o o :: st) h Q := wp_aload_n rfl o rfl
theorem s0_387n : mm_wp d 0 387 [l0, l1, .null, l3, l4, l5, l6, l7] st h Q ↔ mm_wp d 0 388 [l0, l1, .null, l3, l4, l5, l6, l7] (.null :: st) h Q := wp_aload_n rfl none rfl
theorem s0_388 : mm_wp d 0 388 [.ref a, l1, l2, l3, l4, l5, l6, l7] st h Q ↔ mm_wp d 0 389 [.ref a, l1, l2, l3, l4, l5, l6, l7] (.ref a :: st) h Q := wp_aloadR_n rfl rfl
theorem s0_388o : mm_wp d 0 388 [mm_o o, l1, l2, l3, l4, l5, l6, l7] st h Q ↔ mm_wp d 0 389 [mm_o o, l1, l2, l3, l4, l5, l6, l7] (mm_o o :: st) h Q := wp_aload_n rfl o rfl
theorem s0_388n : mm_wp d 0 388 [.null, l1, l2, l3, l4, l5, l6, l7] st h Q ↔ mm_wp d 0 389 [.null, l1, l2, l3, l4, l5, l6, l7] (.null :: st) h Q := wp_aload_n rfl none rfl
theorem s0_389 : mm_wp d 0 389 [l0, l1, l2, l3, .int x, l5, l6, l7] st h Q ↔ mm_wp d 0 391 [l0, l1, l2, l3, .int x, l5, l6, l7] (.int x :: st) h Q := wp_iload rfl rfl
theorem s0_391 : mm_wp d 0 391 ls st h Q ↔ mm_wp d 0 392 ls (.int (1 : Int32) :: st) h Q := wp_iconst rfl rfl
theorem s0_392 : mm_wp d 0 392 ls (.int x2 :: .int x :: st) h Q ↔ mm_wp d 0 393 ls (.int (x + x2) :: st) h Q := wp_iadd rfl
theorem s0_393 : mm_wp d 0 393 ls (.int x :: .ref a :: st) h Q ↔ ((mm_s h a).1 = 20 ∧ mm_in x (mm_s h a).2 = true) ∧ mm_wp d 0 394 ls (.int (mm_i h a x.toNatClampNeg) :: st) h Q := wp_iaload rfl
theorem s0_394 : mm_wp d 0 394 [.ref a, l1, l2, l3, l4, l5, l6, l7] st h Q ↔ mm_wp d 0 395 [.ref a, l1, l2, l3, l4, l5, l6, l7] (.ref a :: st) h Q := wp_aloadR_n rfl rfl
theorem s0_394o : mm_wp d 0 394 [mm_o o, l1, l2, l3, l4, l5, l6, l7] st h Q ↔ mm_wp d 0 395 [mm_o o, l1, l2, l3, l4, l5, l6, l7] (mm_o o :: st) h Q := wp_aload_n rfl o rfl
theorem s0_394n : mm_wp d 0 394 [.null, l1, l2, l3, l4, l5, l6, l7] st h Q ↔ mm_wp d 0 395 [.null, l1, l2, l3, l4, l5, l6, l7] (.null :: st) h Q := wp_aload_n rfl none rfl
theorem s0_395 : mm_wp d 0 395 [l0, l1, l2, l3, .int x, l5, l6, l7] st h Q ↔ mm_wp d 0 397 [l0, l1, l2, l3, .int x, l5, l6, l7] (.int x :: st) h Q := wp_iload rfl rfl
theorem s0_397 : mm_wp d 0 397 ls st h Q ↔ mm_wp d 0 398 ls (.int (2 : Int32) :: st) h Q := wp_iconst rfl rfl
theorem s0_398 : mm_wp d 0 398 ls (.int x2 :: .int x :: st) h Q ↔ mm_wp d 0 399 ls (.int (x + x2) :: st) h Q := wp_iadd rfl
theorem s0_399 : mm_wp d 0 399 ls (.int x :: .ref a :: st) h Q ↔ ((mm_s h a).1 = 20 ∧ mm_in x (mm_s h a).2 = true) ∧ mm_wp d 0 400 ls (.int (mm_i h a x.toNatClampNeg) :: st) h Q := wp_iaload rfl
theorem s0_400 : mm_wp (d + 1) 0 400 ls [.int x3, .int x2, .ref a] h Q ↔ (mm_s h a).1 = 10 ∧ mm_wp d 117 0 [.ref a, .int x2, .int x3, mm_j] [] h (mm_bk (d + 1) 0 400 ls [] Q) := wp_virtual rfl rfl ⟨by decide, rfl⟩ ⟨Nat.le_of_ble_eq_true rfl, Nat.le_of_ble_eq_true rfl⟩ rfl rfl rfl rfl rfl rfl
theorem s0_403 : mm_wp d 0 403 [l0, l1, l2, l3, l4, l5, l6, l7] (.int x :: st) h Q ↔ mm_wp d 0 405 [l0, l1, l2, l3, l4, l5, .int x, l7] st h Q := wp_istore rfl rfl
theorem s0_405 : mm_wp d 0 405 [l0, l1, .ref a, l3, l4, l5, l6, l7] st h Q ↔ mm_wp d 0 406 [l0, l1, .ref a, l3, l4, l5, l6, l7] (.ref a :: st) h Q := wp_aloadR_n rfl rfl
theorem s0_405o : mm_wp d 0 405 [l0, l1, mm_o o, l3, l4, l5, l6, l7] st h Q ↔ mm_wp d 0 406 [l0, l1, mm_o o, l3, l4, l5, l6, l7] (mm_o o :: st) h Q := wp_aload_n rfl o rfl
theorem s0_405n : mm_wp d 0 405 [l0, l1, .null, l3, l4, l5, l6, l7] st h Q ↔ mm_wp d 0 406 [l0, l1, .null, l3, l4, l5, l6, l7] (.null :: st) h Q := wp_aload_n rfl none rfl
theorem s0_406 : mm_wp (d + 1) 0 406 ls [.ref a] h Q ↔ (mm_s h a).1 = 10 ∧ mm_wp d 110 0 [.ref a] [] h (mm_bk (d + 1) 0 406 ls [] Q) := wp_virtual rfl rfl ⟨by decide, rfl⟩ ⟨Nat.le_of_ble_eq_true rfl, Nat.le_of_ble_eq_true rfl⟩ rfl rfl rfl rfl rfl rfl
theorem s0_409 : mm_wp d 0 409 [l0, l1, l2, l3, l4, .int x, l6, l7] st h Q ↔ mm_wp d 0 411 [l0, l1, l2, l3, l4, .int x, l6, l7] (.int x :: st) h Q := wp_iload rfl rfl
theorem s0_411 : mm_wp d 0 411 ls (.int x2 :: .int x :: st) h Q ↔ if x = x2 then mm_wp d 0 416 ls st h Q else mm_wp d 0 414 ls st h Q := wp_icmpeq rfl rfl
theorem s0_414 : mm_wp d 0 414 ls st h Q ↔ mm_wp d 0 415 ls (.int (0 : Int32) :: st) h Q := wp_iconst rfl rfl
theorem s0_415 : mm_wp d 0 415 ls (.int x :: st) h Q ↔ (x = 0 ∨ x = 1) ∧ Q (.inl (some (.int x))) h := wp_zret rfl rfl
theorem s0_416 : mm_wp d 0 416 [l0, l1, l2, l3, l4, .int x, l6, l7] st h Q ↔ mm_wp d 0 418 [l0, l1, l2, l3, l4, .int x, l6, l7] (.int x :: st) h Q := wp_iload rfl rfl
theorem s0_418 : mm_wp d 0 418 ls (.int x :: st) h Q ↔ if x = 0 then mm_wp d 0 421 ls st h Q else mm_wp d 0 433 ls st h Q := wp_ifne rfl rfl
theorem s0_421 : mm_wp d 0 421 [l0, l1, l2, .ref a, l4, l5, l6, l7] st h Q ↔ mm_wp d 0 422 [l0, l1, l2, .ref a, l4, l5, l6, l7] (.ref a :: st) h Q := wp_aloadR_n rfl rfl
theorem s0_421o : mm_wp d 0 421 [l0, l1, l2, mm_o o, l4, l5, l6, l7] st h Q ↔ mm_wp d 0 422 [l0, l1, l2, mm_o o, l4, l5, l6, l7] (mm_o o :: st) h Q := wp_aload_n rfl o rfl
theorem s0_421n : mm_wp d 0 421 [l0, l1, l2, .null, l4, l5, l6, l7] st h Q ↔ mm_wp d 0 422 [l0, l1, l2, .null, l4, l5, l6, l7] (.null :: st) h Q := wp_aload_n rfl none rfl
theorem s0_422 : mm_wp d 0 422 ls st h Q ↔ mm_wp d 0 423 ls (.int (0 : Int32) :: st) h Q := wp_iconst rfl rfl
theorem s0_423 : mm_wp d 0 423 ls (.int x :: .ref a :: st) h Q ↔ ((mm_s h a).1 = 21 ∧ mm_in x (mm_s h a).2 = true) ∧ mm_wp d 0 424 ls (.long (mm_l h a x.toNatClampNeg) :: st) h Q := wp_laload rfl
theorem s0_424 : mm_wp d 0 424 [l0, l1, l2, l3, l4, l5, .int x, l7] st h Q ↔ mm_wp d 0 426 [l0, l1, l2, l3, l4, l5, .int x, l7] (.int x :: st) h Q := wp_iload rfl rfl
theorem s0_426 : mm_wp d 0 426 ls (.int x :: st) h Q ↔ mm_wp d 0 427 ls (.long x.toInt64 :: st) h Q := wp_i2l rfl
theorem s0_427 : mm_wp d 0 427 ls (.long w2 :: .long w :: st) h Q ↔ mm_wp d 0 428 ls (.int (if w2 < w then 1 else if w = w2 then 0 else -1) :: st) h Q := wp_lcmp rfl
theorem s0_428 : mm_wp d 0 428 ls (.int x :: st) h Q ↔ if x = 0 then mm_wp d 0 433 ls st h Q else mm_wp d 0 431 ls st h Q := wp_ifeq rfl rfl
theorem s0_431 : mm_wp d 0 431 ls st h Q ↔ mm_wp d 0 432 ls (.int (0 : Int32) :: st) h Q := wp_iconst rfl rfl
theorem s0_432 : mm_wp d 0 432 ls (.int x :: st) h Q ↔ (x = 0 ∨ x = 1) ∧ Q (.inl (some (.int x))) h := wp_zret rfl rfl
theorem s0_433 : mm_wp d 0 433 ls st h Q ↔ mm_wp d 0 860 ls st h Q := wp_goto rfl rfl
theorem s0_436 : mm_wp d 0 436 [l0, .ref a, l2, l3, l4, l5, l6, l7] st h Q ↔ mm_wp d 0 437 [l0, .ref a, l2, l3, l4, l5, l6, l7] (.ref a :: st) h Q := wp_aloadR_n rfl rfl
theorem s0_436o : mm_wp d 0 436 [l0, mm_o o, l2, l3, l4, l5, l6, l7] st h Q ↔ mm_wp d 0 437 [l0, mm_o o, l2, l3, l4, l5, l6, l7] (mm_o o :: st) h Q := wp_aload_n rfl o rfl
theorem s0_436n : mm_wp d 0 436 [l0, .null, l2, l3, l4, l5, l6, l7] st h Q ↔ mm_wp d 0 437 [l0, .null, l2, l3, l4, l5, l6, l7] (.null :: st) h Q := wp_aload_n rfl none rfl
theorem s0_437 : mm_wp d 0 437 [.ref a, l1, l2, l3, l4, l5, l6, l7] st h Q ↔ mm_wp d 0 438 [.ref a, l1, l2, l3, l4, l5, l6, l7] (.ref a :: st) h Q := wp_aloadR_n rfl rfl
theorem s0_437o : mm_wp d 0 437 [mm_o o, l1, l2, l3, l4, l5, l6, l7] st h Q ↔ mm_wp d 0 438 [mm_o o, l1, l2, l3, l4, l5, l6, l7] (mm_o o :: st) h Q := wp_aload_n rfl o rfl
theorem s0_437n : mm_wp d 0 437 [.null, l1, l2, l3, l4, l5, l6, l7] st h Q ↔ mm_wp d 0 438 [.null, l1, l2, l3, l4, l5, l6, l7] (.null :: st) h Q := wp_aload_n rfl none rfl
theorem s0_438 : mm_wp d 0 438 [l0, l1, l2, l3, .int x, l5, l6, l7] st h Q ↔ mm_wp d 0 440 [l0, l1, l2, l3, .int x, l5, l6, l7] (.int x :: st) h Q := wp_iload rfl rfl
theorem s0_440 : mm_wp d 0 440 ls st h Q ↔ mm_wp d 0 441 ls (.int (1 : Int32) :: st) h Q := wp_iconst rfl rfl
theorem s0_441 : mm_wp d 0 441 ls (.int x2 :: .int x :: st) h Q ↔ mm_wp d 0 442 ls (.int (x + x2) :: st) h Q := wp_iadd rfl
theorem s0_442 : mm_wp d 0 442 ls (.int x :: .ref a :: st) h Q ↔ ((mm_s h a).1 = 20 ∧ mm_in x (mm_s h a).2 = true) ∧ mm_wp d 0 443 ls (.int (mm_i h a x.toNatClampNeg) :: st) h Q := wp_iaload rfl
theorem s0_443 : mm_wp d 0 443 [l0, l1, l2, .ref a, l4, l5, l6, l7] st h Q ↔ mm_wp d 0 444 [l0, l1, l2, .ref a, l4, l5, l6, l7] (.ref a :: st) h Q := wp_aloadR_n rfl rfl
theorem s0_443o : mm_wp d 0 443 [l0, l1, l2, mm_o o, l4, l5, l6, l7] st h Q ↔ mm_wp d 0 444 [l0, l1, l2, mm_o o, l4, l5, l6, l7] (mm_o o :: st) h Q := wp_aload_n rfl o rfl
theorem s0_443n : mm_wp d 0 443 [l0, l1, l2, .null, l4, l5, l6, l7] st h Q ↔ mm_wp d 0 444 [l0, l1, l2, .null, l4, l5, l6, l7] (.null :: st) h Q := wp_aload_n rfl none rfl
theorem s0_444 : mm_wp (d + 1) 0 444 ls [.ref b, .int x2, .ref a] h Q ↔ mm_wp d 47 0 [.ref a, .int x2, .ref b, mm_j] [] h (mm_bk (d + 1) 0 444 ls [] Q) := wp_static rfl rfl ⟨by decide, rfl⟩ ⟨Nat.le_of_ble_eq_true rfl, Nat.le_of_ble_eq_true rfl⟩ rfl rfl rfl rfl
theorem s0_447 : mm_wp d 0 447 [l0, l1, l2, l3, l4, l5, l6, l7] (.int x :: st) h Q ↔ mm_wp d 0 449 [l0, l1, l2, l3, l4, .int x, l6, l7] st h Q := wp_istore rfl rfl
theorem s0_449 : mm_wp d 0 449 [l0, l1, .ref a, l3, l4, l5, l6, l7] st h Q ↔ mm_wp d 0 450 [l0, l1, .ref a, l3, l4, l5, l6, l7] (.ref a :: st) h Q := wp_aloadR_n rfl rfl
theorem s0_449o : mm_wp d 0 449 [l0, l1, mm_o o, l3, l4, l5, l6, l7] st h Q ↔ mm_wp d 0 450 [l0, l1, mm_o o, l3, l4, l5, l6, l7] (mm_o o :: st) h Q := wp_aload_n rfl o rfl
theorem s0_449n : mm_wp d 0 449 [l0, l1, .null, l3, l4, l5, l6, l7] st h Q ↔ mm_wp d 0 450 [l0, l1, .null, l3, l4, l5, l6, l7] (.null :: st) h Q := wp_aload_n rfl none rfl
theorem s0_450 : mm_wp d 0 450 [.ref a, l1, l2, l3, l4, l5, l6, l7] st h Q ↔ mm_wp d 0 451 [.ref a, l1, l2, l3, l4, l5, l6, l7] (.ref a :: st) h Q := wp_aloadR_n rfl rfl
theorem s0_450o : mm_wp d 0 450 [mm_o o, l1, l2, l3, l4, l5, l6, l7] st h Q ↔ mm_wp d 0 451 [mm_o o, l1, l2, l3, l4, l5, l6, l7] (mm_o o :: st) h Q := wp_aload_n rfl o rfl
theorem s0_450n : mm_wp d 0 450 [.null, l1, l2, l3, l4, l5, l6, l7] st h Q ↔ mm_wp d 0 451 [.null, l1, l2, l3, l4, l5, l6, l7] (.null :: st) h Q := wp_aload_n rfl none rfl
theorem s0_451 : mm_wp d 0 451 [l0, l1, l2, l3, .int x, l5, l6, l7] st h Q ↔ mm_wp d 0 453 [l0, l1, l2, l3, .int x, l5, l6, l7] (.int x :: st) h Q := wp_iload rfl rfl
theorem s0_453 : mm_wp d 0 453 ls st h Q ↔ mm_wp d 0 454 ls (.int (1 : Int32) :: st) h Q := wp_iconst rfl rfl
theorem s0_454 : mm_wp d 0 454 ls (.int x2 :: .int x :: st) h Q ↔ mm_wp d 0 455 ls (.int (x + x2) :: st) h Q := wp_iadd rfl
theorem s0_455 : mm_wp d 0 455 ls (.int x :: .ref a :: st) h Q ↔ ((mm_s h a).1 = 20 ∧ mm_in x (mm_s h a).2 = true) ∧ mm_wp d 0 456 ls (.int (mm_i h a x.toNatClampNeg) :: st) h Q := wp_iaload rfl
theorem s0_456 : mm_wp (d + 1) 0 456 ls [.int x2, .ref a] h Q ↔ (mm_s h a).1 = 10 ∧ mm_wp d 118 0 [.ref a, .int x2] [] h (mm_bk (d + 1) 0 456 ls [] Q) := wp_virtual rfl rfl ⟨by decide, rfl⟩ ⟨Nat.le_of_ble_eq_true rfl, Nat.le_of_ble_eq_true rfl⟩ rfl rfl rfl rfl rfl rfl
theorem s0_459 : mm_wp d 0 459 [l0, l1, l2, l3, l4, l5, l6, l7] (.int x :: st) h Q ↔ mm_wp d 0 461 [l0, l1, l2, l3, l4, l5, .int x, l7] st h Q := wp_istore rfl rfl
theorem s0_461 : mm_wp d 0 461 [l0, l1, .ref a, l3, l4, l5, l6, l7] st h Q ↔ mm_wp d 0 462 [l0, l1, .ref a, l3, l4, l5, l6, l7] (.ref a :: st) h Q := wp_aloadR_n rfl rfl
theorem s0_461o : mm_wp d 0 461 [l0, l1, mm_o o, l3, l4, l5, l6, l7] st h Q ↔ mm_wp d 0 462 [l0, l1, mm_o o, l3, l4, l5, l6, l7] (mm_o o :: st) h Q := wp_aload_n rfl o rfl
theorem s0_461n : mm_wp d 0 461 [l0, l1, .null, l3, l4, l5, l6, l7] st h Q ↔ mm_wp d 0 462 [l0, l1, .null, l3, l4, l5, l6, l7] (.null :: st) h Q := wp_aload_n rfl none rfl
theorem s0_462 : mm_wp (d + 1) 0 462 ls [.ref a] h Q ↔ (mm_s h a).1 = 10 ∧ mm_wp d 110 0 [.ref a] [] h (mm_bk (d + 1) 0 462 ls [] Q) := wp_virtual rfl rfl ⟨by decide, rfl⟩ ⟨Nat.le_of_ble_eq_true rfl, Nat.le_of_ble_eq_true rfl⟩ rfl rfl rfl rfl rfl rfl
theorem s0_465 : mm_wp d 0 465 [l0, l1, l2, l3, l4, .int x, l6, l7] st h Q ↔ mm_wp d 0 467 [l0, l1, l2, l3, l4, .int x, l6, l7] (.int x :: st) h Q := wp_iload rfl rfl
theorem s0_467 : mm_wp d 0 467 ls (.int x2 :: .int x :: st) h Q ↔ if x = x2 then mm_wp d 0 472 ls st h Q else mm_wp d 0 470 ls st h Q := wp_icmpeq rfl rfl
theorem s0_470 : mm_wp d 0 470 ls st h Q ↔ mm_wp d 0 471 ls (.int (0 : Int32) :: st) h Q := wp_iconst rfl rfl
theorem s0_471 : mm_wp d 0 471 ls (.int x :: st) h Q ↔ (x = 0 ∨ x = 1) ∧ Q (.inl (some (.int x))) h := wp_zret rfl rfl
theorem s0_472 : mm_wp d 0 472 [l0, l1, l2, l3, l4, .int x, l6, l7] st h Q ↔ mm_wp d 0 474 [l0, l1, l2, l3, l4, .int x, l6, l7] (.int x :: st) h Q := wp_iload rfl rfl
theorem s0_474 : mm_wp d 0 474 ls (.int x :: st) h Q ↔ if x = 0 then mm_wp d 0 477 ls st h Q else mm_wp d 0 489 ls st h Q := wp_ifne rfl rfl
theorem s0_477 : mm_wp d 0 477 [l0, l1, l2, .ref a, l4, l5, l6, l7] st h Q ↔ mm_wp d 0 478 [l0, l1, l2, .ref a, l4, l5, l6, l7] (.ref a :: st) h Q := wp_aloadR_n rfl rfl
theorem s0_477o : mm_wp d 0 477 [l0, l1, l2, mm_o o, l4, l5, l6, l7] st h Q ↔ mm_wp d 0 478 [l0, l1, l2, mm_o o, l4, l5, l6, l7] (mm_o o :: st) h Q := wp_aload_n rfl o rfl
theorem s0_477n : mm_wp d 0 477 [l0, l1, l2, .null, l4, l5, l6, l7] st h Q ↔ mm_wp d 0 478 [l0, l1, l2, .null, l4, l5, l6, l7] (.null :: st) h Q := wp_aload_n rfl none rfl
theorem s0_478 : mm_wp d 0 478 ls st h Q ↔ mm_wp d 0 479 ls (.int (0 : Int32) :: st) h Q := wp_iconst rfl rfl
theorem s0_479 : mm_wp d 0 479 ls (.int x :: .ref a :: st) h Q ↔ ((mm_s h a).1 = 21 ∧ mm_in x (mm_s h a).2 = true) ∧ mm_wp d 0 480 ls (.long (mm_l h a x.toNatClampNeg) :: st) h Q := wp_laload rfl
theorem s0_480 : mm_wp d 0 480 [l0, l1, l2, l3, l4, l5, .int x, l7] st h Q ↔ mm_wp d 0 482 [l0, l1, l2, l3, l4, l5, .int x, l7] (.int x :: st) h Q := wp_iload rfl rfl
theorem s0_482 : mm_wp d 0 482 ls (.int x :: st) h Q ↔ mm_wp d 0 483 ls (.long x.toInt64 :: st) h Q := wp_i2l rfl
theorem s0_483 : mm_wp d 0 483 ls (.long w2 :: .long w :: st) h Q ↔ mm_wp d 0 484 ls (.int (if w2 < w then 1 else if w = w2 then 0 else -1) :: st) h Q := wp_lcmp rfl
theorem s0_484 : mm_wp d 0 484 ls (.int x :: st) h Q ↔ if x = 0 then mm_wp d 0 489 ls st h Q else mm_wp d 0 487 ls st h Q := wp_ifeq rfl rfl
theorem s0_487 : mm_wp d 0 487 ls st h Q ↔ mm_wp d 0 488 ls (.int (0 : Int32) :: st) h Q := wp_iconst rfl rfl
theorem s0_488 : mm_wp d 0 488 ls (.int x :: st) h Q ↔ (x = 0 ∨ x = 1) ∧ Q (.inl (some (.int x))) h := wp_zret rfl rfl
theorem s0_489 : mm_wp d 0 489 ls st h Q ↔ mm_wp d 0 860 ls st h Q := wp_goto rfl rfl
theorem s0_492 : mm_wp d 0 492 [l0, .ref a, l2, l3, l4, l5, l6, l7] st h Q ↔ mm_wp d 0 493 [l0, .ref a, l2, l3, l4, l5, l6, l7] (.ref a :: st) h Q := wp_aloadR_n rfl rfl
theorem s0_492o : mm_wp d 0 492 [l0, mm_o o, l2, l3, l4, l5, l6, l7] st h Q ↔ mm_wp d 0 493 [l0, mm_o o, l2, l3, l4, l5, l6, l7] (mm_o o :: st) h Q := wp_aload_n rfl o rfl
theorem s0_492n : mm_wp d 0 492 [l0, .null, l2, l3, l4, l5, l6, l7] st h Q ↔ mm_wp d 0 493 [l0, .null, l2, l3, l4, l5, l6, l7] (.null :: st) h Q := wp_aload_n rfl none rfl
theorem s0_493 : mm_wp d 0 493 [.ref a, l1, l2, l3, l4, l5, l6, l7] st h Q ↔ mm_wp d 0 494 [.ref a, l1, l2, l3, l4, l5, l6, l7] (.ref a :: st) h Q := wp_aloadR_n rfl rfl
theorem s0_493o : mm_wp d 0 493 [mm_o o, l1, l2, l3, l4, l5, l6, l7] st h Q ↔ mm_wp d 0 494 [mm_o o, l1, l2, l3, l4, l5, l6, l7] (mm_o o :: st) h Q := wp_aload_n rfl o rfl
theorem s0_493n : mm_wp d 0 493 [.null, l1, l2, l3, l4, l5, l6, l7] st h Q ↔ mm_wp d 0 494 [.null, l1, l2, l3, l4, l5, l6, l7] (.null :: st) h Q := wp_aload_n rfl none rfl
theorem s0_494 : mm_wp d 0 494 [l0, l1, l2, l3, .int x, l5, l6, l7] st h Q ↔ mm_wp d 0 496 [l0, l1, l2, l3, .int x, l5, l6, l7] (.int x :: st) h Q := wp_iload rfl rfl
theorem s0_496 : mm_wp d 0 496 ls st h Q ↔ mm_wp d 0 497 ls (.int (1 : Int32) :: st) h Q := wp_iconst rfl rfl
theorem s0_497 : mm_wp d 0 497 ls (.int x2 :: .int x :: st) h Q ↔ mm_wp d 0 498 ls (.int (x + x2) :: st) h Q := wp_iadd rfl
theorem s0_498 : mm_wp d 0 498 ls (.int x :: .ref a :: st) h Q ↔ ((mm_s h a).1 = 20 ∧ mm_in x (mm_s h a).2 = true) ∧ mm_wp d 0 499 ls (.int (mm_i h a x.toNatClampNeg) :: st) h Q := wp_iaload rfl
theorem s0_499 : mm_wp d 0 499 [l0, l1, l2, .ref a, l4, l5, l6, l7] st h Q ↔ mm_wp d 0 500 [l0, l1, l2, .ref a, l4, l5, l6, l7] (.ref a :: st) h Q := wp_aloadR_n rfl rfl
theorem s0_499o : mm_wp d 0 499 [l0, l1, l2, mm_o o, l4, l5, l6, l7] st h Q ↔ mm_wp d 0 500 [l0, l1, l2, mm_o o, l4, l5, l6, l7] (mm_o o :: st) h Q := wp_aload_n rfl o rfl
theorem s0_499n : mm_wp d 0 499 [l0, l1, l2, .null, l4, l5, l6, l7] st h Q ↔ mm_wp d 0 500 [l0, l1, l2, .null, l4, l5, l6, l7] (.null :: st) h Q := wp_aload_n rfl none rfl
theorem s0_500 : mm_wp (d + 1) 0 500 ls [.ref b, .int x2, .ref a] h Q ↔ mm_wp d 49 0 [.ref a, .int x2, .ref b, mm_j] [] h (mm_bk (d + 1) 0 500 ls [] Q) := wp_static rfl rfl ⟨by decide, rfl⟩ ⟨Nat.le_of_ble_eq_true rfl, Nat.le_of_ble_eq_true rfl⟩ rfl rfl rfl rfl
theorem s0_503 : mm_wp d 0 503 [l0, l1, l2, l3, l4, l5, l6, l7] (.int x :: st) h Q ↔ mm_wp d 0 505 [l0, l1, l2, l3, l4, .int x, l6, l7] st h Q := wp_istore rfl rfl
theorem s0_505 : mm_wp d 0 505 [l0, l1, .ref a, l3, l4, l5, l6, l7] st h Q ↔ mm_wp d 0 506 [l0, l1, .ref a, l3, l4, l5, l6, l7] (.ref a :: st) h Q := wp_aloadR_n rfl rfl
theorem s0_505o : mm_wp d 0 505 [l0, l1, mm_o o, l3, l4, l5, l6, l7] st h Q ↔ mm_wp d 0 506 [l0, l1, mm_o o, l3, l4, l5, l6, l7] (mm_o o :: st) h Q := wp_aload_n rfl o rfl
theorem s0_505n : mm_wp d 0 505 [l0, l1, .null, l3, l4, l5, l6, l7] st h Q ↔ mm_wp d 0 506 [l0, l1, .null, l3, l4, l5, l6, l7] (.null :: st) h Q := wp_aload_n rfl none rfl
theorem s0_506 : mm_wp d 0 506 [.ref a, l1, l2, l3, l4, l5, l6, l7] st h Q ↔ mm_wp d 0 507 [.ref a, l1, l2, l3, l4, l5, l6, l7] (.ref a :: st) h Q := wp_aloadR_n rfl rfl
theorem s0_506o : mm_wp d 0 506 [mm_o o, l1, l2, l3, l4, l5, l6, l7] st h Q ↔ mm_wp d 0 507 [mm_o o, l1, l2, l3, l4, l5, l6, l7] (mm_o o :: st) h Q := wp_aload_n rfl o rfl
theorem s0_506n : mm_wp d 0 506 [.null, l1, l2, l3, l4, l5, l6, l7] st h Q ↔ mm_wp d 0 507 [.null, l1, l2, l3, l4, l5, l6, l7] (.null :: st) h Q := wp_aload_n rfl none rfl
theorem s0_507 : mm_wp d 0 507 [l0, l1, l2, l3, .int x, l5, l6, l7] st h Q ↔ mm_wp d 0 509 [l0, l1, l2, l3, .int x, l5, l6, l7] (.int x :: st) h Q := wp_iload rfl rfl
theorem s0_509 : mm_wp d 0 509 ls st h Q ↔ mm_wp d 0 510 ls (.int (1 : Int32) :: st) h Q := wp_iconst rfl rfl
theorem s0_510 : mm_wp d 0 510 ls (.int x2 :: .int x :: st) h Q ↔ mm_wp d 0 511 ls (.int (x + x2) :: st) h Q := wp_iadd rfl
theorem s0_511 : mm_wp d 0 511 ls (.int x :: .ref a :: st) h Q ↔ ((mm_s h a).1 = 20 ∧ mm_in x (mm_s h a).2 = true) ∧ mm_wp d 0 512 ls (.int (mm_i h a x.toNatClampNeg) :: st) h Q := wp_iaload rfl
theorem s0_512 : mm_wp (d + 1) 0 512 ls [.int x2, .ref a] h Q ↔ (mm_s h a).1 = 10 ∧ mm_wp d 126 0 [.ref a, .int x2, mm_j, mm_j] [] h (mm_bk (d + 1) 0 512 ls [] Q) := wp_virtual rfl rfl ⟨by decide, rfl⟩ ⟨Nat.le_of_ble_eq_true rfl, Nat.le_of_ble_eq_true rfl⟩ rfl rfl rfl rfl rfl rfl
theorem s0_515 : mm_wp d 0 515 [l0, l1, l2, l3, l4, l5, l6, l7] (.int x :: st) h Q ↔ mm_wp d 0 517 [l0, l1, l2, l3, l4, l5, .int x, l7] st h Q := wp_istore rfl rfl
theorem s0_517 : mm_wp d 0 517 [l0, l1, .ref a, l3, l4, l5, l6, l7] st h Q ↔ mm_wp d 0 518 [l0, l1, .ref a, l3, l4, l5, l6, l7] (.ref a :: st) h Q := wp_aloadR_n rfl rfl
theorem s0_517o : mm_wp d 0 517 [l0, l1, mm_o o, l3, l4, l5, l6, l7] st h Q ↔ mm_wp d 0 518 [l0, l1, mm_o o, l3, l4, l5, l6, l7] (mm_o o :: st) h Q := wp_aload_n rfl o rfl
theorem s0_517n : mm_wp d 0 517 [l0, l1, .null, l3, l4, l5, l6, l7] st h Q ↔ mm_wp d 0 518 [l0, l1, .null, l3, l4, l5, l6, l7] (.null :: st) h Q := wp_aload_n rfl none rfl
theorem s0_518 : mm_wp (d + 1) 0 518 ls [.ref a] h Q ↔ (mm_s h a).1 = 10 ∧ mm_wp d 110 0 [.ref a] [] h (mm_bk (d + 1) 0 518 ls [] Q) := wp_virtual rfl rfl ⟨by decide, rfl⟩ ⟨Nat.le_of_ble_eq_true rfl, Nat.le_of_ble_eq_true rfl⟩ rfl rfl rfl rfl rfl rfl
theorem s0_521 : mm_wp d 0 521 [l0, l1, l2, l3, l4, .int x, l6, l7] st h Q ↔ mm_wp d 0 523 [l0, l1, l2, l3, l4, .int x, l6, l7] (.int x :: st) h Q := wp_iload rfl rfl
theorem s0_523 : mm_wp d 0 523 ls (.int x2 :: .int x :: st) h Q ↔ if x = x2 then mm_wp d 0 528 ls st h Q else mm_wp d 0 526 ls st h Q := wp_icmpeq rfl rfl
theorem s0_526 : mm_wp d 0 526 ls st h Q ↔ mm_wp d 0 527 ls (.int (0 : Int32) :: st) h Q := wp_iconst rfl rfl
theorem s0_527 : mm_wp d 0 527 ls (.int x :: st) h Q ↔ (x = 0 ∨ x = 1) ∧ Q (.inl (some (.int x))) h := wp_zret rfl rfl
theorem s0_528 : mm_wp d 0 528 [l0, l1, l2, l3, l4, .int x, l6, l7] st h Q ↔ mm_wp d 0 530 [l0, l1, l2, l3, l4, .int x, l6, l7] (.int x :: st) h Q := wp_iload rfl rfl
theorem s0_530 : mm_wp d 0 530 ls (.int x :: st) h Q ↔ if x = 0 then mm_wp d 0 533 ls st h Q else mm_wp d 0 545 ls st h Q := wp_ifne rfl rfl
theorem s0_533 : mm_wp d 0 533 [l0, l1, l2, .ref a, l4, l5, l6, l7] st h Q ↔ mm_wp d 0 534 [l0, l1, l2, .ref a, l4, l5, l6, l7] (.ref a :: st) h Q := wp_aloadR_n rfl rfl
theorem s0_533o : mm_wp d 0 533 [l0, l1, l2, mm_o o, l4, l5, l6, l7] st h Q ↔ mm_wp d 0 534 [l0, l1, l2, mm_o o, l4, l5, l6, l7] (mm_o o :: st) h Q := wp_aload_n rfl o rfl
theorem s0_533n : mm_wp d 0 533 [l0, l1, l2, .null, l4, l5, l6, l7] st h Q ↔ mm_wp d 0 534 [l0, l1, l2, .null, l4, l5, l6, l7] (.null :: st) h Q := wp_aload_n rfl none rfl
theorem s0_534 : mm_wp d 0 534 ls st h Q ↔ mm_wp d 0 535 ls (.int (0 : Int32) :: st) h Q := wp_iconst rfl rfl
theorem s0_535 : mm_wp d 0 535 ls (.int x :: .ref a :: st) h Q ↔ ((mm_s h a).1 = 21 ∧ mm_in x (mm_s h a).2 = true) ∧ mm_wp d 0 536 ls (.long (mm_l h a x.toNatClampNeg) :: st) h Q := wp_laload rfl
theorem s0_536 : mm_wp d 0 536 [l0, l1, l2, l3, l4, l5, .int x, l7] st h Q ↔ mm_wp d 0 538 [l0, l1, l2, l3, l4, l5, .int x, l7] (.int x :: st) h Q := wp_iload rfl rfl
theorem s0_538 : mm_wp d 0 538 ls (.int x :: st) h Q ↔ mm_wp d 0 539 ls (.long x.toInt64 :: st) h Q := wp_i2l rfl
theorem s0_539 : mm_wp d 0 539 ls (.long w2 :: .long w :: st) h Q ↔ mm_wp d 0 540 ls (.int (if w2 < w then 1 else if w = w2 then 0 else -1) :: st) h Q := wp_lcmp rfl
theorem s0_540 : mm_wp d 0 540 ls (.int x :: st) h Q ↔ if x = 0 then mm_wp d 0 545 ls st h Q else mm_wp d 0 543 ls st h Q := wp_ifeq rfl rfl
theorem s0_543 : mm_wp d 0 543 ls st h Q ↔ mm_wp d 0 544 ls (.int (0 : Int32) :: st) h Q := wp_iconst rfl rfl
theorem s0_544 : mm_wp d 0 544 ls (.int x :: st) h Q ↔ (x = 0 ∨ x = 1) ∧ Q (.inl (some (.int x))) h := wp_zret rfl rfl
theorem s0_545 : mm_wp d 0 545 ls st h Q ↔ mm_wp d 0 860 ls st h Q := wp_goto rfl rfl
theorem s0_548 : mm_wp d 0 548 [l0, .ref a, l2, l3, l4, l5, l6, l7] st h Q ↔ mm_wp d 0 549 [l0, .ref a, l2, l3, l4, l5, l6, l7] (.ref a :: st) h Q := wp_aloadR_n rfl rfl
theorem s0_548o : mm_wp d 0 548 [l0, mm_o o, l2, l3, l4, l5, l6, l7] st h Q ↔ mm_wp d 0 549 [l0, mm_o o, l2, l3, l4, l5, l6, l7] (mm_o o :: st) h Q := wp_aload_n rfl o rfl
theorem s0_548n : mm_wp d 0 548 [l0, .null, l2, l3, l4, l5, l6, l7] st h Q ↔ mm_wp d 0 549 [l0, .null, l2, l3, l4, l5, l6, l7] (.null :: st) h Q := wp_aload_n rfl none rfl
theorem s0_549 : mm_wp (d + 1) 0 549 ls [.ref a] h Q ↔ (mm_s h a).1 = 9 ∧ mm_wp d 14 0 [.ref a] [] h (mm_bk (d + 1) 0 549 ls [] Q) := wp_virtual rfl rfl ⟨by decide, rfl⟩ ⟨Nat.le_of_ble_eq_true rfl, Nat.le_of_ble_eq_true rfl⟩ rfl rfl rfl rfl rfl rfl
theorem s0_552 : mm_wp d 0 552 [l0, l1, .ref a, l3, l4, l5, l6, l7] st h Q ↔ mm_wp d 0 553 [l0, l1, .ref a, l3, l4, l5, l6, l7] (.ref a :: st) h Q := wp_aloadR_n rfl rfl
theorem s0_552o : mm_wp d 0 552 [l0, l1, mm_o o, l3, l4, l5, l6, l7] st h Q ↔ mm_wp d 0 553 [l0, l1, mm_o o, l3, l4, l5, l6, l7] (mm_o o :: st) h Q := wp_aload_n rfl o rfl
theorem s0_552n : mm_wp d 0 552 [l0, l1, .null, l3, l4, l5, l6, l7] st h Q ↔ mm_wp d 0 553 [l0, l1, .null, l3, l4, l5, l6, l7] (.null :: st) h Q := wp_aload_n rfl none rfl
theorem s0_553 : mm_wp (d + 1) 0 553 ls [.ref a, t0] h Q ↔ (mm_s h a).1 = 10 ∧ mm_wp d 138 0 [.ref a] [] h (mm_bk (d + 1) 0 553 ls [t0] Q) := wp_virtual rfl rfl ⟨by decide, rfl⟩ ⟨Nat.le_of_ble_eq_true rfl, Nat.le_of_ble_eq_true rfl⟩ rfl rfl rfl rfl rfl rfl
theorem s0_556 : mm_wp d 0 556 ls (.int x2 :: .int x :: st) h Q ↔ if x = x2 then mm_wp d 0 860 ls st h Q else mm_wp d 0 559 ls st h Q := wp_icmpeq rfl rfl
theorem s0_559 : mm_wp d 0 559 ls st h Q ↔ mm_wp d 0 560 ls (.int (0 : Int32) :: st) h Q := wp_iconst rfl rfl
theorem s0_560 : mm_wp d 0 560 ls (.int x :: st) h Q ↔ (x = 0 ∨ x = 1) ∧ Q (.inl (some (.int x))) h := wp_zret rfl rfl
theorem s0_561 : mm_wp d 0 561 [l0, .ref a, l2, l3, l4, l5, l6, l7] st h Q ↔ mm_wp d 0 562 [l0, .ref a, l2, l3, l4, l5, l6, l7] (.ref a :: st) h Q := wp_aloadR_n rfl rfl
theorem s0_561o : mm_wp d 0 561 [l0, mm_o o, l2, l3, l4, l5, l6, l7] st h Q ↔ mm_wp d 0 562 [l0, mm_o o, l2, l3, l4, l5, l6, l7] (mm_o o :: st) h Q := wp_aload_n rfl o rfl
theorem s0_561n : mm_wp d 0 561 [l0, .null, l2, l3, l4, l5, l6, l7] st h Q ↔ mm_wp d 0 562 [l0, .null, l2, l3, l4, l5, l6, l7] (.null :: st) h Q := wp_aload_n rfl none rfl
theorem s0_562 : mm_wp (d + 1) 0 562 ls [.ref a] h Q ↔ (mm_s h a).1 = 9 ∧ mm_wp d 15 0 [.ref a] [] h (mm_bk (d + 1) 0 562 ls [] Q) := wp_virtual rfl rfl ⟨by decide, rfl⟩ ⟨Nat.le_of_ble_eq_true rfl, Nat.le_of_ble_eq_true rfl⟩ rfl rfl rfl rfl rfl rfl
theorem s0_565 : mm_wp d 0 565 [l0, l1, .ref a, l3, l4, l5, l6, l7] st h Q ↔ mm_wp d 0 566 [l0, l1, .ref a, l3, l4, l5, l6, l7] (.ref a :: st) h Q := wp_aloadR_n rfl rfl
theorem s0_565o : mm_wp d 0 565 [l0, l1, mm_o o, l3, l4, l5, l6, l7] st h Q ↔ mm_wp d 0 566 [l0, l1, mm_o o, l3, l4, l5, l6, l7] (mm_o o :: st) h Q := wp_aload_n rfl o rfl
theorem s0_565n : mm_wp d 0 565 [l0, l1, .null, l3, l4, l5, l6, l7] st h Q ↔ mm_wp d 0 566 [l0, l1, .null, l3, l4, l5, l6, l7] (.null :: st) h Q := wp_aload_n rfl none rfl
theorem s0_566 : mm_wp (d + 1) 0 566 ls [.ref a, t0] h Q ↔ (mm_s h a).1 = 10 ∧ mm_wp d 139 0 [.ref a] [] h (mm_bk (d + 1) 0 566 ls [t0] Q) := wp_virtual rfl rfl ⟨by decide, rfl⟩ ⟨Nat.le_of_ble_eq_true rfl, Nat.le_of_ble_eq_true rfl⟩ rfl rfl rfl rfl rfl rfl
theorem s0_569 : mm_wp d 0 569 ls (.int x2 :: .int x :: st) h Q ↔ if x = x2 then mm_wp d 0 860 ls st h Q else mm_wp d 0 572 ls st h Q := wp_icmpeq rfl rfl
theorem s0_572 : mm_wp d 0 572 ls st h Q ↔ mm_wp d 0 573 ls (.int (0 : Int32) :: st) h Q := wp_iconst rfl rfl
theorem s0_573 : mm_wp d 0 573 ls (.int x :: st) h Q ↔ (x = 0 ∨ x = 1) ∧ Q (.inl (some (.int x))) h := wp_zret rfl rfl
theorem s0_574 : mm_wp d 0 574 [l0, .ref a, l2, l3, l4, l5, l6, l7] st h Q ↔ mm_wp d 0 575 [l0, .ref a, l2, l3, l4, l5, l6, l7] (.ref a :: st) h Q := wp_aloadR_n rfl rfl
theorem s0_574o : mm_wp d 0 574 [l0, mm_o o, l2, l3, l4, l5, l6, l7] st h Q ↔ mm_wp d 0 575 [l0, mm_o o, l2, l3, l4, l5, l6, l7] (mm_o o :: st) h Q := wp_aload_n rfl o rfl
theorem s0_574n : mm_wp d 0 574 [l0, .null, l2, l3, l4, l5, l6, l7] st h Q ↔ mm_wp d 0 575 [l0, .null, l2, l3, l4, l5, l6, l7] (.null :: st) h Q := wp_aload_n rfl none rfl
theorem s0_575 : mm_wp (d + 1) 0 575 ls [.ref a] h Q ↔ (mm_s h a).1 = 9 ∧ mm_wp d 16 0 [.ref a] [] h (mm_bk (d + 1) 0 575 ls [] Q) := wp_virtual rfl rfl ⟨by decide, rfl⟩ ⟨Nat.le_of_ble_eq_true rfl, Nat.le_of_ble_eq_true rfl⟩ rfl rfl rfl rfl rfl rfl
theorem s0_578 : mm_wp d 0 578 [l0, l1, .ref a, l3, l4, l5, l6, l7] st h Q ↔ mm_wp d 0 579 [l0, l1, .ref a, l3, l4, l5, l6, l7] (.ref a :: st) h Q := wp_aloadR_n rfl rfl
theorem s0_578o : mm_wp d 0 578 [l0, l1, mm_o o, l3, l4, l5, l6, l7] st h Q ↔ mm_wp d 0 579 [l0, l1, mm_o o, l3, l4, l5, l6, l7] (mm_o o :: st) h Q := wp_aload_n rfl o rfl
theorem s0_578n : mm_wp d 0 578 [l0, l1, .null, l3, l4, l5, l6, l7] st h Q ↔ mm_wp d 0 579 [l0, l1, .null, l3, l4, l5, l6, l7] (.null :: st) h Q := wp_aload_n rfl none rfl
theorem s0_579 : mm_wp (d + 1) 0 579 ls [.ref a, t0] h Q ↔ (mm_s h a).1 = 10 ∧ mm_wp d 124 0 [.ref a, mm_j, mm_j] [] h (mm_bk (d + 1) 0 579 ls [t0] Q) := wp_virtual rfl rfl ⟨by decide, rfl⟩ ⟨Nat.le_of_ble_eq_true rfl, Nat.le_of_ble_eq_true rfl⟩ rfl rfl rfl rfl rfl rfl
theorem s0_582 : mm_wp d 0 582 ls (.int x2 :: .int x :: st) h Q ↔ if x = x2 then mm_wp d 0 860 ls st h Q else mm_wp d 0 585 ls st h Q := wp_icmpeq rfl rfl
theorem s0_585 : mm_wp d 0 585 ls st h Q ↔ mm_wp d 0 586 ls (.int (0 : Int32) :: st) h Q := wp_iconst rfl rfl
theorem s0_586 : mm_wp d 0 586 ls (.int x :: st) h Q ↔ (x = 0 ∨ x = 1) ∧ Q (.inl (some (.int x))) h := wp_zret rfl rfl
theorem s0_587 : mm_wp d 0 587 [l0, .ref a, l2, l3, l4, l5, l6, l7] st h Q ↔ mm_wp d 0 588 [l0, .ref a, l2, l3, l4, l5, l6, l7] (.ref a :: st) h Q := wp_aloadR_n rfl rfl
theorem s0_587o : mm_wp d 0 587 [l0, mm_o o, l2, l3, l4, l5, l6, l7] st h Q ↔ mm_wp d 0 588 [l0, mm_o o, l2, l3, l4, l5, l6, l7] (mm_o o :: st) h Q := wp_aload_n rfl o rfl
theorem s0_587n : mm_wp d 0 587 [l0, .null, l2, l3, l4, l5, l6, l7] st h Q ↔ mm_wp d 0 588 [l0, .null, l2, l3, l4, l5, l6, l7] (.null :: st) h Q := wp_aload_n rfl none rfl
theorem s0_588 : mm_wp d 0 588 [.ref a, l1, l2, l3, l4, l5, l6, l7] st h Q ↔ mm_wp d 0 589 [.ref a, l1, l2, l3, l4, l5, l6, l7] (.ref a :: st) h Q := wp_aloadR_n rfl rfl
theorem s0_588o : mm_wp d 0 588 [mm_o o, l1, l2, l3, l4, l5, l6, l7] st h Q ↔ mm_wp d 0 589 [mm_o o, l1, l2, l3, l4, l5, l6, l7] (mm_o o :: st) h Q := wp_aload_n rfl o rfl
theorem s0_588n : mm_wp d 0 588 [.null, l1, l2, l3, l4, l5, l6, l7] st h Q ↔ mm_wp d 0 589 [.null, l1, l2, l3, l4, l5, l6, l7] (.null :: st) h Q := wp_aload_n rfl none rfl
theorem s0_589 : mm_wp d 0 589 [l0, l1, l2, l3, .int x, l5, l6, l7] st h Q ↔ mm_wp d 0 591 [l0, l1, l2, l3, .int x, l5, l6, l7] (.int x :: st) h Q := wp_iload rfl rfl
theorem s0_591 : mm_wp d 0 591 ls st h Q ↔ mm_wp d 0 592 ls (.int (1 : Int32) :: st) h Q := wp_iconst rfl rfl
theorem s0_592 : mm_wp d 0 592 ls (.int x2 :: .int x :: st) h Q ↔ mm_wp d 0 593 ls (.int (x + x2) :: st) h Q := wp_iadd rfl
theorem s0_593 : mm_wp d 0 593 ls (.int x :: .ref a :: st) h Q ↔ ((mm_s h a).1 = 20 ∧ mm_in x (mm_s h a).2 = true) ∧ mm_wp d 0 594 ls (.int (mm_i h a x.toNatClampNeg) :: st) h Q := wp_iaload rfl
theorem s0_594 : mm_wp d 0 594 [.ref a, l1, l2, l3, l4, l5, l6, l7] st h Q ↔ mm_wp d 0 595 [.ref a, l1, l2, l3, l4, l5, l6, l7] (.ref a :: st) h Q := wp_aloadR_n rfl rfl
theorem s0_594o : mm_wp d 0 594 [mm_o o, l1, l2, l3, l4, l5, l6, l7] st h Q ↔ mm_wp d 0 595 [mm_o o, l1, l2, l3, l4, l5, l6, l7] (mm_o o :: st) h Q := wp_aload_n rfl o rfl
theorem s0_594n : mm_wp d 0 594 [.null, l1, l2, l3, l4, l5, l6, l7] st h Q ↔ mm_wp d 0 595 [.null, l1, l2, l3, l4, l5, l6, l7] (.null :: st) h Q := wp_aload_n rfl none rfl
theorem s0_595 : mm_wp d 0 595 [l0, l1, l2, l3, .int x, l5, l6, l7] st h Q ↔ mm_wp d 0 597 [l0, l1, l2, l3, .int x, l5, l6, l7] (.int x :: st) h Q := wp_iload rfl rfl
theorem s0_597 : mm_wp d 0 597 ls st h Q ↔ mm_wp d 0 598 ls (.int (2 : Int32) :: st) h Q := wp_iconst rfl rfl
theorem s0_598 : mm_wp d 0 598 ls (.int x2 :: .int x :: st) h Q ↔ mm_wp d 0 599 ls (.int (x + x2) :: st) h Q := wp_iadd rfl
theorem s0_599 : mm_wp d 0 599 ls (.int x :: .ref a :: st) h Q ↔ ((mm_s h a).1 = 20 ∧ mm_in x (mm_s h a).2 = true) ∧ mm_wp d 0 600 ls (.int (mm_i h a x.toNatClampNeg) :: st) h Q := wp_iaload rfl
theorem s0_600 : mm_wp d 0 600 [l0, l1, l2, .ref a, l4, l5, l6, l7] st h Q ↔ mm_wp d 0 601 [l0, l1, l2, .ref a, l4, l5, l6, l7] (.ref a :: st) h Q := wp_aloadR_n rfl rfl
theorem s0_600o : mm_wp d 0 600 [l0, l1, l2, mm_o o, l4, l5, l6, l7] st h Q ↔ mm_wp d 0 601 [l0, l1, l2, mm_o o, l4, l5, l6, l7] (mm_o o :: st) h Q := wp_aload_n rfl o rfl
theorem s0_600n : mm_wp d 0 600 [l0, l1, l2, .null, l4, l5, l6, l7] st h Q ↔ mm_wp d 0 601 [l0, l1, l2, .null, l4, l5, l6, l7] (.null :: st) h Q := wp_aload_n rfl none rfl
theorem s0_601 : mm_wp (d + 1) 0 601 ls [.ref b, .int x3, .int x2, .ref a] h Q ↔ mm_wp d 87 0 [.ref a, .int x2, .int x3, .ref b, mm_j] [] h (mm_bk (d + 1) 0 601 ls [] Q) := wp_static rfl rfl ⟨by decide, rfl⟩ ⟨Nat.le_of_ble_eq_true rfl, Nat.le_of_ble_eq_true rfl⟩ rfl rfl rfl rfl
theorem s0_604 : mm_wp d 0 604 [l0, l1, l2, l3, l4, l5, l6, l7] (.int x :: st) h Q ↔ mm_wp d 0 606 [l0, l1, l2, l3, l4, .int x, l6, l7] st h Q := wp_istore rfl rfl
theorem s0_606 : mm_wp d 0 606 [l0, l1, .ref a, l3, l4, l5, l6, l7] st h Q ↔ mm_wp d 0 607 [l0, l1, .ref a, l3, l4, l5, l6, l7] (.ref a :: st) h Q := wp_aloadR_n rfl rfl
theorem s0_606o : mm_wp d 0 606 [l0, l1, mm_o o, l3, l4, l5, l6, l7] st h Q ↔ mm_wp d 0 607 [l0, l1, mm_o o, l3, l4, l5, l6, l7] (mm_o o :: st) h Q := wp_aload_n rfl o rfl
theorem s0_606n : mm_wp d 0 606 [l0, l1, .null, l3, l4, l5, l6, l7] st h Q ↔ mm_wp d 0 607 [l0, l1, .null, l3, l4, l5, l6, l7] (.null :: st) h Q := wp_aload_n rfl none rfl
theorem s0_607 : mm_wp d 0 607 [.ref a, l1, l2, l3, l4, l5, l6, l7] st h Q ↔ mm_wp d 0 608 [.ref a, l1, l2, l3, l4, l5, l6, l7] (.ref a :: st) h Q := wp_aloadR_n rfl rfl
theorem s0_607o : mm_wp d 0 607 [mm_o o, l1, l2, l3, l4, l5, l6, l7] st h Q ↔ mm_wp d 0 608 [mm_o o, l1, l2, l3, l4, l5, l6, l7] (mm_o o :: st) h Q := wp_aload_n rfl o rfl
theorem s0_607n : mm_wp d 0 607 [.null, l1, l2, l3, l4, l5, l6, l7] st h Q ↔ mm_wp d 0 608 [.null, l1, l2, l3, l4, l5, l6, l7] (.null :: st) h Q := wp_aload_n rfl none rfl
theorem s0_608 : mm_wp d 0 608 [l0, l1, l2, l3, .int x, l5, l6, l7] st h Q ↔ mm_wp d 0 610 [l0, l1, l2, l3, .int x, l5, l6, l7] (.int x :: st) h Q := wp_iload rfl rfl
theorem s0_610 : mm_wp d 0 610 ls st h Q ↔ mm_wp d 0 611 ls (.int (1 : Int32) :: st) h Q := wp_iconst rfl rfl
theorem s0_611 : mm_wp d 0 611 ls (.int x2 :: .int x :: st) h Q ↔ mm_wp d 0 612 ls (.int (x + x2) :: st) h Q := wp_iadd rfl
theorem s0_612 : mm_wp d 0 612 ls (.int x :: .ref a :: st) h Q ↔ ((mm_s h a).1 = 20 ∧ mm_in x (mm_s h a).2 = true) ∧ mm_wp d 0 613 ls (.int (mm_i h a x.toNatClampNeg) :: st) h Q := wp_iaload rfl
theorem s0_613 : mm_wp d 0 613 [.ref a, l1, l2, l3, l4, l5, l6, l7] st h Q ↔ mm_wp d 0 614 [.ref a, l1, l2, l3, l4, l5, l6, l7] (.ref a :: st) h Q := wp_aloadR_n rfl rfl
theorem s0_613o : mm_wp d 0 613 [mm_o o, l1, l2, l3, l4, l5, l6, l7] st h Q ↔ mm_wp d 0 614 [mm_o o, l1, l2, l3, l4, l5, l6, l7] (mm_o o :: st) h Q := wp_aload_n rfl o rfl
theorem s0_613n : mm_wp d 0 613 [.null, l1, l2, l3, l4, l5, l6, l7] st h Q ↔ mm_wp d 0 614 [.null, l1, l2, l3, l4, l5, l6, l7] (.null :: st) h Q := wp_aload_n rfl none rfl
theorem s0_614 : mm_wp d 0 614 [l0, l1, l2, l3, .int x, l5, l6, l7] st h Q ↔ mm_wp d 0 616 [l0, l1, l2, l3, .int x, l5, l6, l7] (.int x :: st) h Q := wp_iload rfl rfl
theorem s0_616 : mm_wp d 0 616 ls st h Q ↔ mm_wp d 0 617 ls (.int (2 : Int32) :: st) h Q := wp_iconst rfl rfl
theorem s0_617 : mm_wp d 0 617 ls (.int x2 :: .int x :: st) h Q ↔ mm_wp d 0 618 ls (.int (x + x2) :: st) h Q := wp_iadd rfl
theorem s0_618 : mm_wp d 0 618 ls (.int x :: .ref a :: st) h Q ↔ ((mm_s h a).1 = 20 ∧ mm_in x (mm_s h a).2 = true) ∧ mm_wp d 0 619 ls (.int (mm_i h a x.toNatClampNeg) :: st) h Q := wp_iaload rfl
theorem s0_619 : mm_wp (d + 1) 0 619 ls [.int x3, .int x2, .ref a] h Q ↔ (mm_s h a).1 = 10 ∧ mm_wp d 140 0 [.ref a, .int x2, .int x3, mm_j] [] h (mm_bk (d + 1) 0 619 ls [] Q) := wp_virtual rfl rfl ⟨by decide, rfl⟩ ⟨Nat.le_of_ble_eq_true rfl, Nat.le_of_ble_eq_true rfl⟩ rfl rfl rfl rfl rfl rfl
theorem s0_622 : mm_wp d 0 622 [l0, l1, l2, l3, l4, l5, l6, l7] (.int x :: st) h Q ↔ mm_wp d 0 624 [l0, l1, l2, l3, l4, l5, .int x, l7] st h Q := wp_istore rfl rfl
theorem s0_624 : mm_wp d 0 624 [l0, l1, .ref a, l3, l4, l5, l6, l7] st h Q ↔ mm_wp d 0 625 [l0, l1, .ref a, l3, l4, l5, l6, l7] (.ref a :: st) h Q := wp_aloadR_n rfl rfl
theorem s0_624o : mm_wp d 0 624 [l0, l1, mm_o o, l3, l4, l5, l6, l7] st h Q ↔ mm_wp d 0 625 [l0, l1, mm_o o, l3, l4, l5, l6, l7] (mm_o o :: st) h Q := wp_aload_n rfl o rfl
theorem s0_624n : mm_wp d 0 624 [l0, l1, .null, l3, l4, l5, l6, l7] st h Q ↔ mm_wp d 0 625 [l0, l1, .null, l3, l4, l5, l6, l7] (.null :: st) h Q := wp_aload_n rfl none rfl
theorem s0_625 : mm_wp (d + 1) 0 625 ls [.ref a] h Q ↔ (mm_s h a).1 = 10 ∧ mm_wp d 110 0 [.ref a] [] h (mm_bk (d + 1) 0 625 ls [] Q) := wp_virtual rfl rfl ⟨by decide, rfl⟩ ⟨Nat.le_of_ble_eq_true rfl, Nat.le_of_ble_eq_true rfl⟩ rfl rfl rfl rfl rfl rfl
theorem s0_628 : mm_wp d 0 628 [l0, l1, l2, l3, l4, .int x, l6, l7] st h Q ↔ mm_wp d 0 630 [l0, l1, l2, l3, l4, .int x, l6, l7] (.int x :: st) h Q := wp_iload rfl rfl
theorem s0_630 : mm_wp d 0 630 ls (.int x2 :: .int x :: st) h Q ↔ if x = x2 then mm_wp d 0 635 ls st h Q else mm_wp d 0 633 ls st h Q := wp_icmpeq rfl rfl
theorem s0_633 : mm_wp d 0 633 ls st h Q ↔ mm_wp d 0 634 ls (.int (0 : Int32) :: st) h Q := wp_iconst rfl rfl
theorem s0_634 : mm_wp d 0 634 ls (.int x :: st) h Q ↔ (x = 0 ∨ x = 1) ∧ Q (.inl (some (.int x))) h := wp_zret rfl rfl
theorem s0_635 : mm_wp d 0 635 [l0, l1, l2, l3, l4, .int x, l6, l7] st h Q ↔ mm_wp d 0 637 [l0, l1, l2, l3, l4, .int x, l6, l7] (.int x :: st) h Q := wp_iload rfl rfl
theorem s0_637 : mm_wp d 0 637 ls (.int x :: st) h Q ↔ if x = 0 then mm_wp d 0 640 ls st h Q else mm_wp d 0 652 ls st h Q := wp_ifne rfl rfl
theorem s0_640 : mm_wp d 0 640 [l0, l1, l2, .ref a, l4, l5, l6, l7] st h Q ↔ mm_wp d 0 641 [l0, l1, l2, .ref a, l4, l5, l6, l7] (.ref a :: st) h Q := wp_aloadR_n rfl rfl
theorem s0_640o : mm_wp d 0 640 [l0, l1, l2, mm_o o, l4, l5, l6, l7] st h Q ↔ mm_wp d 0 641 [l0, l1, l2, mm_o o, l4, l5, l6, l7] (mm_o o :: st) h Q := wp_aload_n rfl o rfl
theorem s0_640n : mm_wp d 0 640 [l0, l1, l2, .null, l4, l5, l6, l7] st h Q ↔ mm_wp d 0 641 [l0, l1, l2, .null, l4, l5, l6, l7] (.null :: st) h Q := wp_aload_n rfl none rfl
theorem s0_641 : mm_wp d 0 641 ls st h Q ↔ mm_wp d 0 642 ls (.int (0 : Int32) :: st) h Q := wp_iconst rfl rfl
theorem s0_642 : mm_wp d 0 642 ls (.int x :: .ref a :: st) h Q ↔ ((mm_s h a).1 = 21 ∧ mm_in x (mm_s h a).2 = true) ∧ mm_wp d 0 643 ls (.long (mm_l h a x.toNatClampNeg) :: st) h Q := wp_laload rfl
theorem s0_643 : mm_wp d 0 643 [l0, l1, l2, l3, l4, l5, .int x, l7] st h Q ↔ mm_wp d 0 645 [l0, l1, l2, l3, l4, l5, .int x, l7] (.int x :: st) h Q := wp_iload rfl rfl
theorem s0_645 : mm_wp d 0 645 ls (.int x :: st) h Q ↔ mm_wp d 0 646 ls (.long x.toInt64 :: st) h Q := wp_i2l rfl
theorem s0_646 : mm_wp d 0 646 ls (.long w2 :: .long w :: st) h Q ↔ mm_wp d 0 647 ls (.int (if w2 < w then 1 else if w = w2 then 0 else -1) :: st) h Q := wp_lcmp rfl
theorem s0_647 : mm_wp d 0 647 ls (.int x :: st) h Q ↔ if x = 0 then mm_wp d 0 652 ls st h Q else mm_wp d 0 650 ls st h Q := wp_ifeq rfl rfl
theorem s0_650 : mm_wp d 0 650 ls st h Q ↔ mm_wp d 0 651 ls (.int (0 : Int32) :: st) h Q := wp_iconst rfl rfl
theorem s0_651 : mm_wp d 0 651 ls (.int x :: st) h Q ↔ (x = 0 ∨ x = 1) ∧ Q (.inl (some (.int x))) h := wp_zret rfl rfl
theorem s0_652 : mm_wp d 0 652 ls st h Q ↔ mm_wp d 0 860 ls st h Q := wp_goto rfl rfl
theorem s0_655 : mm_wp d 0 655 [l0, .ref a, l2, l3, l4, l5, l6, l7] st h Q ↔ mm_wp d 0 656 [l0, .ref a, l2, l3, l4, l5, l6, l7] (.ref a :: st) h Q := wp_aloadR_n rfl rfl
theorem s0_655o : mm_wp d 0 655 [l0, mm_o o, l2, l3, l4, l5, l6, l7] st h Q ↔ mm_wp d 0 656 [l0, mm_o o, l2, l3, l4, l5, l6, l7] (mm_o o :: st) h Q := wp_aload_n rfl o rfl
theorem s0_655n : mm_wp d 0 655 [l0, .null, l2, l3, l4, l5, l6, l7] st h Q ↔ mm_wp d 0 656 [l0, .null, l2, l3, l4, l5, l6, l7] (.null :: st) h Q := wp_aload_n rfl none rfl
theorem s0_656 : mm_wp (d + 1) 0 656 ls [.ref a] h Q ↔ (mm_s h a).1 = 9 ∧ mm_wp d 20 0 [.ref a] [] h (mm_bk (d + 1) 0 656 ls [] Q) := wp_virtual rfl rfl ⟨by decide, rfl⟩ ⟨Nat.le_of_ble_eq_true rfl, Nat.le_of_ble_eq_true rfl⟩ rfl rfl rfl rfl rfl rfl
theorem s0_659 : mm_wp d 0 659 [l0, l1, .ref a, l3, l4, l5, l6, l7] st h Q ↔ mm_wp d 0 660 [l0, l1, .ref a, l3, l4, l5, l6, l7] (.ref a :: st) h Q := wp_aloadR_n rfl rfl
theorem s0_659o : mm_wp d 0 659 [l0, l1, mm_o o, l3, l4, l5, l6, l7] st h Q ↔ mm_wp d 0 660 [l0, l1, mm_o o, l3, l4, l5, l6, l7] (mm_o o :: st) h Q := wp_aload_n rfl o rfl
theorem s0_659n : mm_wp d 0 659 [l0, l1, .null, l3, l4, l5, l6, l7] st h Q ↔ mm_wp d 0 660 [l0, l1, .null, l3, l4, l5, l6, l7] (.null :: st) h Q := wp_aload_n rfl none rfl
theorem s0_660 : mm_wp (d + 1) 0 660 ls [.ref a, t0] h Q ↔ (mm_s h a).1 = 10 ∧ mm_wp d 142 0 [.ref a] [] h (mm_bk (d + 1) 0 660 ls [t0] Q) := wp_virtual rfl rfl ⟨by decide, rfl⟩ ⟨Nat.le_of_ble_eq_true rfl, Nat.le_of_ble_eq_true rfl⟩ rfl rfl rfl rfl rfl rfl
theorem s0_663 : mm_wp d 0 663 ls (.long w2 :: .long w :: st) h Q ↔ mm_wp d 0 664 ls (.int (if w2 < w then 1 else if w = w2 then 0 else -1) :: st) h Q := wp_lcmp rfl
theorem s0_664 : mm_wp d 0 664 ls (.int x :: st) h Q ↔ if x = 0 then mm_wp d 0 860 ls st h Q else mm_wp d 0 667 ls st h Q := wp_ifeq rfl rfl
theorem s0_667 : mm_wp d 0 667 ls st h Q ↔ mm_wp d 0 668 ls (.int (0 : Int32) :: st) h Q := wp_iconst rfl rfl
theorem s0_668 : mm_wp d 0 668 ls (.int x :: st) h Q ↔ (x = 0 ∨ x = 1) ∧ Q (.inl (some (.int x))) h := wp_zret rfl rfl
theorem s0_669 : mm_wp d 0 669 [l0, .ref a, l2, l3, l4, l5, l6, l7] st h Q ↔ mm_wp d 0 670 [l0, .ref a, l2, l3, l4, l5, l6, l7] (.ref a :: st) h Q := wp_aloadR_n rfl rfl
theorem s0_669o : mm_wp d 0 669 [l0, mm_o o, l2, l3, l4, l5, l6, l7] st h Q ↔ mm_wp d 0 670 [l0, mm_o o, l2, l3, l4, l5, l6, l7] (mm_o o :: st) h Q := wp_aload_n rfl o rfl
theorem s0_669n : mm_wp d 0 669 [l0, .null, l2, l3, l4, l5, l6, l7] st h Q ↔ mm_wp d 0 670 [l0, .null, l2, l3, l4, l5, l6, l7] (.null :: st) h Q := wp_aload_n rfl none rfl
theorem s0_670 : mm_wp d 0 670 [.ref a, l1, l2, l3, l4, l5, l6, l7] st h Q ↔ mm_wp d 0 671 [.ref a, l1, l2, l3, l4, l5, l6, l7] (.ref a :: st) h Q := wp_aloadR_n rfl rfl
theorem s0_670o : mm_wp d 0 670 [mm_o o, l1, l2, l3, l4, l5, l6, l7] st h Q ↔ mm_wp d 0 671 [mm_o o, l1, l2, l3, l4, l5, l6, l7] (mm_o o :: st) h Q := wp_aload_n rfl o rfl
theorem s0_670n : mm_wp d 0 670 [.null, l1, l2, l3, l4, l5, l6, l7] st h Q ↔ mm_wp d 0 671 [.null, l1, l2, l3, l4, l5, l6, l7] (.null :: st) h Q := wp_aload_n rfl none rfl
theorem s0_671 : mm_wp d 0 671 [l0, l1, l2, l3, .int x, l5, l6, l7] st h Q ↔ mm_wp d 0 673 [l0, l1, l2, l3, .int x, l5, l6, l7] (.int x :: st) h Q := wp_iload rfl rfl
theorem s0_673 : mm_wp d 0 673 ls st h Q ↔ mm_wp d 0 674 ls (.int (1 : Int32) :: st) h Q := wp_iconst rfl rfl
theorem s0_674 : mm_wp d 0 674 ls (.int x2 :: .int x :: st) h Q ↔ mm_wp d 0 675 ls (.int (x + x2) :: st) h Q := wp_iadd rfl
theorem s0_675 : mm_wp d 0 675 ls (.int x :: .ref a :: st) h Q ↔ ((mm_s h a).1 = 20 ∧ mm_in x (mm_s h a).2 = true) ∧ mm_wp d 0 676 ls (.int (mm_i h a x.toNatClampNeg) :: st) h Q := wp_iaload rfl
theorem s0_676 : mm_wp d 0 676 [.ref a, l1, l2, l3, l4, l5, l6, l7] st h Q ↔ mm_wp d 0 677 [.ref a, l1, l2, l3, l4, l5, l6, l7] (.ref a :: st) h Q := wp_aloadR_n rfl rfl
theorem s0_676o : mm_wp d 0 676 [mm_o o, l1, l2, l3, l4, l5, l6, l7] st h Q ↔ mm_wp d 0 677 [mm_o o, l1, l2, l3, l4, l5, l6, l7] (mm_o o :: st) h Q := wp_aload_n rfl o rfl
theorem s0_676n : mm_wp d 0 676 [.null, l1, l2, l3, l4, l5, l6, l7] st h Q ↔ mm_wp d 0 677 [.null, l1, l2, l3, l4, l5, l6, l7] (.null :: st) h Q := wp_aload_n rfl none rfl
theorem s0_677 : mm_wp d 0 677 [l0, l1, l2, l3, .int x, l5, l6, l7] st h Q ↔ mm_wp d 0 679 [l0, l1, l2, l3, .int x, l5, l6, l7] (.int x :: st) h Q := wp_iload rfl rfl
theorem s0_679 : mm_wp d 0 679 ls st h Q ↔ mm_wp d 0 680 ls (.int (2 : Int32) :: st) h Q := wp_iconst rfl rfl
theorem s0_680 : mm_wp d 0 680 ls (.int x2 :: .int x :: st) h Q ↔ mm_wp d 0 681 ls (.int (x + x2) :: st) h Q := wp_iadd rfl
theorem s0_681 : mm_wp d 0 681 ls (.int x :: .ref a :: st) h Q ↔ ((mm_s h a).1 = 20 ∧ mm_in x (mm_s h a).2 = true) ∧ mm_wp d 0 682 ls (.int (mm_i h a x.toNatClampNeg) :: st) h Q := wp_iaload rfl
theorem s0_682 : mm_wp d 0 682 [l0, l1, l2, .ref a, l4, l5, l6, l7] st h Q ↔ mm_wp d 0 683 [l0, l1, l2, .ref a, l4, l5, l6, l7] (.ref a :: st) h Q := wp_aloadR_n rfl rfl
theorem s0_682o : mm_wp d 0 682 [l0, l1, l2, mm_o o, l4, l5, l6, l7] st h Q ↔ mm_wp d 0 683 [l0, l1, l2, mm_o o, l4, l5, l6, l7] (mm_o o :: st) h Q := wp_aload_n rfl o rfl
theorem s0_682n : mm_wp d 0 682 [l0, l1, l2, .null, l4, l5, l6, l7] st h Q ↔ mm_wp d 0 683 [l0, l1, l2, .null, l4, l5, l6, l7] (.null :: st) h Q := wp_aload_n rfl none rfl
theorem s0_683 : mm_wp (d + 1) 0 683 ls [.ref b, .int x3, .int x2, .ref a] h Q ↔ mm_wp d 90 0 [.ref a, .int x2, .int x3, .ref b, mm_j] [] h (mm_bk (d + 1) 0 683 ls [] Q) := wp_static rfl rfl ⟨by decide, rfl⟩ ⟨Nat.le_of_ble_eq_true rfl, Nat.le_of_ble_eq_true rfl⟩ rfl rfl rfl rfl
theorem s0_686 : mm_wp d 0 686 [l0, l1, l2, l3, l4, l5, l6, l7] (.int x :: st) h Q ↔ mm_wp d 0 688 [l0, l1, l2, l3, l4, .int x, l6, l7] st h Q := wp_istore rfl rfl
theorem s0_688 : mm_wp d 0 688 [l0, l1, .ref a, l3, l4, l5, l6, l7] st h Q ↔ mm_wp d 0 689 [l0, l1, .ref a, l3, l4, l5, l6, l7] (.ref a :: st) h Q := wp_aloadR_n rfl rfl
theorem s0_688o : mm_wp d 0 688 [l0, l1, mm_o o, l3, l4, l5, l6, l7] st h Q ↔ mm_wp d 0 689 [l0, l1, mm_o o, l3, l4, l5, l6, l7] (mm_o o :: st) h Q := wp_aload_n rfl o rfl
theorem s0_688n : mm_wp d 0 688 [l0, l1, .null, l3, l4, l5, l6, l7] st h Q ↔ mm_wp d 0 689 [l0, l1, .null, l3, l4, l5, l6, l7] (.null :: st) h Q := wp_aload_n rfl none rfl
theorem s0_689 : mm_wp d 0 689 [.ref a, l1, l2, l3, l4, l5, l6, l7] st h Q ↔ mm_wp d 0 690 [.ref a, l1, l2, l3, l4, l5, l6, l7] (.ref a :: st) h Q := wp_aloadR_n rfl rfl
theorem s0_689o : mm_wp d 0 689 [mm_o o, l1, l2, l3, l4, l5, l6, l7] st h Q ↔ mm_wp d 0 690 [mm_o o, l1, l2, l3, l4, l5, l6, l7] (mm_o o :: st) h Q := wp_aload_n rfl o rfl
theorem s0_689n : mm_wp d 0 689 [.null, l1, l2, l3, l4, l5, l6, l7] st h Q ↔ mm_wp d 0 690 [.null, l1, l2, l3, l4, l5, l6, l7] (.null :: st) h Q := wp_aload_n rfl none rfl
theorem s0_690 : mm_wp d 0 690 [l0, l1, l2, l3, .int x, l5, l6, l7] st h Q ↔ mm_wp d 0 692 [l0, l1, l2, l3, .int x, l5, l6, l7] (.int x :: st) h Q := wp_iload rfl rfl
theorem s0_692 : mm_wp d 0 692 ls st h Q ↔ mm_wp d 0 693 ls (.int (1 : Int32) :: st) h Q := wp_iconst rfl rfl
theorem s0_693 : mm_wp d 0 693 ls (.int x2 :: .int x :: st) h Q ↔ mm_wp d 0 694 ls (.int (x + x2) :: st) h Q := wp_iadd rfl
theorem s0_694 : mm_wp d 0 694 ls (.int x :: .ref a :: st) h Q ↔ ((mm_s h a).1 = 20 ∧ mm_in x (mm_s h a).2 = true) ∧ mm_wp d 0 695 ls (.int (mm_i h a x.toNatClampNeg) :: st) h Q := wp_iaload rfl
theorem s0_695 : mm_wp d 0 695 [.ref a, l1, l2, l3, l4, l5, l6, l7] st h Q ↔ mm_wp d 0 696 [.ref a, l1, l2, l3, l4, l5, l6, l7] (.ref a :: st) h Q := wp_aloadR_n rfl rfl
theorem s0_695o : mm_wp d 0 695 [mm_o o, l1, l2, l3, l4, l5, l6, l7] st h Q ↔ mm_wp d 0 696 [mm_o o, l1, l2, l3, l4, l5, l6, l7] (mm_o o :: st) h Q := wp_aload_n rfl o rfl
theorem s0_695n : mm_wp d 0 695 [.null, l1, l2, l3, l4, l5, l6, l7] st h Q ↔ mm_wp d 0 696 [.null, l1, l2, l3, l4, l5, l6, l7] (.null :: st) h Q := wp_aload_n rfl none rfl
theorem s0_696 : mm_wp d 0 696 [l0, l1, l2, l3, .int x, l5, l6, l7] st h Q ↔ mm_wp d 0 698 [l0, l1, l2, l3, .int x, l5, l6, l7] (.int x :: st) h Q := wp_iload rfl rfl
theorem s0_698 : mm_wp d 0 698 ls st h Q ↔ mm_wp d 0 699 ls (.int (2 : Int32) :: st) h Q := wp_iconst rfl rfl
theorem s0_699 : mm_wp d 0 699 ls (.int x2 :: .int x :: st) h Q ↔ mm_wp d 0 700 ls (.int (x + x2) :: st) h Q := wp_iadd rfl
theorem s0_700 : mm_wp d 0 700 ls (.int x :: .ref a :: st) h Q ↔ ((mm_s h a).1 = 20 ∧ mm_in x (mm_s h a).2 = true) ∧ mm_wp d 0 701 ls (.int (mm_i h a x.toNatClampNeg) :: st) h Q := wp_iaload rfl
theorem s0_701 : mm_wp (d + 1) 0 701 ls [.int x3, .int x2, .ref a] h Q ↔ (mm_s h a).1 = 10 ∧ mm_wp d 143 0 [.ref a, .int x2, .int x3, mm_j, mm_j, mm_j] [] h (mm_bk (d + 1) 0 701 ls [] Q) := wp_virtual rfl rfl ⟨by decide, rfl⟩ ⟨Nat.le_of_ble_eq_true rfl, Nat.le_of_ble_eq_true rfl⟩ rfl rfl rfl rfl rfl rfl
theorem s0_704 : mm_wp d 0 704 [l0, l1, l2, l3, l4, l5, l6, l7] (.int x :: st) h Q ↔ mm_wp d 0 706 [l0, l1, l2, l3, l4, l5, .int x, l7] st h Q := wp_istore rfl rfl
theorem s0_706 : mm_wp d 0 706 [l0, l1, .ref a, l3, l4, l5, l6, l7] st h Q ↔ mm_wp d 0 707 [l0, l1, .ref a, l3, l4, l5, l6, l7] (.ref a :: st) h Q := wp_aloadR_n rfl rfl
theorem s0_706o : mm_wp d 0 706 [l0, l1, mm_o o, l3, l4, l5, l6, l7] st h Q ↔ mm_wp d 0 707 [l0, l1, mm_o o, l3, l4, l5, l6, l7] (mm_o o :: st) h Q := wp_aload_n rfl o rfl
theorem s0_706n : mm_wp d 0 706 [l0, l1, .null, l3, l4, l5, l6, l7] st h Q ↔ mm_wp d 0 707 [l0, l1, .null, l3, l4, l5, l6, l7] (.null :: st) h Q := wp_aload_n rfl none rfl
theorem s0_707 : mm_wp (d + 1) 0 707 ls [.ref a] h Q ↔ (mm_s h a).1 = 10 ∧ mm_wp d 110 0 [.ref a] [] h (mm_bk (d + 1) 0 707 ls [] Q) := wp_virtual rfl rfl ⟨by decide, rfl⟩ ⟨Nat.le_of_ble_eq_true rfl, Nat.le_of_ble_eq_true rfl⟩ rfl rfl rfl rfl rfl rfl
theorem s0_710 : mm_wp d 0 710 [l0, l1, l2, l3, l4, .int x, l6, l7] st h Q ↔ mm_wp d 0 712 [l0, l1, l2, l3, l4, .int x, l6, l7] (.int x :: st) h Q := wp_iload rfl rfl
theorem s0_712 : mm_wp d 0 712 ls (.int x2 :: .int x :: st) h Q ↔ if x = x2 then mm_wp d 0 717 ls st h Q else mm_wp d 0 715 ls st h Q := wp_icmpeq rfl rfl
theorem s0_715 : mm_wp d 0 715 ls st h Q ↔ mm_wp d 0 716 ls (.int (0 : Int32) :: st) h Q := wp_iconst rfl rfl
theorem s0_716 : mm_wp d 0 716 ls (.int x :: st) h Q ↔ (x = 0 ∨ x = 1) ∧ Q (.inl (some (.int x))) h := wp_zret rfl rfl
theorem s0_717 : mm_wp d 0 717 [l0, l1, l2, l3, l4, .int x, l6, l7] st h Q ↔ mm_wp d 0 719 [l0, l1, l2, l3, l4, .int x, l6, l7] (.int x :: st) h Q := wp_iload rfl rfl
theorem s0_719 : mm_wp d 0 719 ls (.int x :: st) h Q ↔ if x = 0 then mm_wp d 0 722 ls st h Q else mm_wp d 0 734 ls st h Q := wp_ifne rfl rfl
theorem s0_722 : mm_wp d 0 722 [l0, l1, l2, .ref a, l4, l5, l6, l7] st h Q ↔ mm_wp d 0 723 [l0, l1, l2, .ref a, l4, l5, l6, l7] (.ref a :: st) h Q := wp_aloadR_n rfl rfl
theorem s0_722o : mm_wp d 0 722 [l0, l1, l2, mm_o o, l4, l5, l6, l7] st h Q ↔ mm_wp d 0 723 [l0, l1, l2, mm_o o, l4, l5, l6, l7] (mm_o o :: st) h Q := wp_aload_n rfl o rfl
theorem s0_722n : mm_wp d 0 722 [l0, l1, l2, .null, l4, l5, l6, l7] st h Q ↔ mm_wp d 0 723 [l0, l1, l2, .null, l4, l5, l6, l7] (.null :: st) h Q := wp_aload_n rfl none rfl
theorem s0_723 : mm_wp d 0 723 ls st h Q ↔ mm_wp d 0 724 ls (.int (0 : Int32) :: st) h Q := wp_iconst rfl rfl
theorem s0_724 : mm_wp d 0 724 ls (.int x :: .ref a :: st) h Q ↔ ((mm_s h a).1 = 21 ∧ mm_in x (mm_s h a).2 = true) ∧ mm_wp d 0 725 ls (.long (mm_l h a x.toNatClampNeg) :: st) h Q := wp_laload rfl
theorem s0_725 : mm_wp d 0 725 [l0, l1, l2, l3, l4, l5, .int x, l7] st h Q ↔ mm_wp d 0 727 [l0, l1, l2, l3, l4, l5, .int x, l7] (.int x :: st) h Q := wp_iload rfl rfl
theorem s0_727 : mm_wp d 0 727 ls (.int x :: st) h Q ↔ mm_wp d 0 728 ls (.long x.toInt64 :: st) h Q := wp_i2l rfl
theorem s0_728 : mm_wp d 0 728 ls (.long w2 :: .long w :: st) h Q ↔ mm_wp d 0 729 ls (.int (if w2 < w then 1 else if w = w2 then 0 else -1) :: st) h Q := wp_lcmp rfl
theorem s0_729 : mm_wp d 0 729 ls (.int x :: st) h Q ↔ if x = 0 then mm_wp d 0 734 ls st h Q else mm_wp d 0 732 ls st h Q := wp_ifeq rfl rfl
theorem s0_732 : mm_wp d 0 732 ls st h Q ↔ mm_wp d 0 733 ls (.int (0 : Int32) :: st) h Q := wp_iconst rfl rfl
theorem s0_733 : mm_wp d 0 733 ls (.int x :: st) h Q ↔ (x = 0 ∨ x = 1) ∧ Q (.inl (some (.int x))) h := wp_zret rfl rfl
theorem s0_734 : mm_wp d 0 734 ls st h Q ↔ mm_wp d 0 860 ls st h Q := wp_goto rfl rfl
theorem s0_737 : mm_wp d 0 737 [l0, .ref a, l2, l3, l4, l5, l6, l7] st h Q ↔ mm_wp d 0 738 [l0, .ref a, l2, l3, l4, l5, l6, l7] (.ref a :: st) h Q := wp_aloadR_n rfl rfl
theorem s0_737o : mm_wp d 0 737 [l0, mm_o o, l2, l3, l4, l5, l6, l7] st h Q ↔ mm_wp d 0 738 [l0, mm_o o, l2, l3, l4, l5, l6, l7] (mm_o o :: st) h Q := wp_aload_n rfl o rfl
theorem s0_737n : mm_wp d 0 737 [l0, .null, l2, l3, l4, l5, l6, l7] st h Q ↔ mm_wp d 0 738 [l0, .null, l2, l3, l4, l5, l6, l7] (.null :: st) h Q := wp_aload_n rfl none rfl
theorem s0_738 : mm_wp d 0 738 [.ref a, l1, l2, l3, l4, l5, l6, l7] st h Q ↔ mm_wp d 0 739 [.ref a, l1, l2, l3, l4, l5, l6, l7] (.ref a :: st) h Q := wp_aloadR_n rfl rfl
theorem s0_738o : mm_wp d 0 738 [mm_o o, l1, l2, l3, l4, l5, l6, l7] st h Q ↔ mm_wp d 0 739 [mm_o o, l1, l2, l3, l4, l5, l6, l7] (mm_o o :: st) h Q := wp_aload_n rfl o rfl
theorem s0_738n : mm_wp d 0 738 [.null, l1, l2, l3, l4, l5, l6, l7] st h Q ↔ mm_wp d 0 739 [.null, l1, l2, l3, l4, l5, l6, l7] (.null :: st) h Q := wp_aload_n rfl none rfl
theorem s0_739 : mm_wp d 0 739 [l0, l1, l2, l3, .int x, l5, l6, l7] st h Q ↔ mm_wp d 0 741 [l0, l1, l2, l3, .int x, l5, l6, l7] (.int x :: st) h Q := wp_iload rfl rfl
theorem s0_741 : mm_wp d 0 741 ls st h Q ↔ mm_wp d 0 742 ls (.int (1 : Int32) :: st) h Q := wp_iconst rfl rfl
theorem s0_742 : mm_wp d 0 742 ls (.int x2 :: .int x :: st) h Q ↔ mm_wp d 0 743 ls (.int (x + x2) :: st) h Q := wp_iadd rfl
theorem s0_743 : mm_wp d 0 743 ls (.int x :: .ref a :: st) h Q ↔ ((mm_s h a).1 = 20 ∧ mm_in x (mm_s h a).2 = true) ∧ mm_wp d 0 744 ls (.int (mm_i h a x.toNatClampNeg) :: st) h Q := wp_iaload rfl
theorem s0_744 : mm_wp d 0 744 [l0, l1, l2, .ref a, l4, l5, l6, l7] st h Q ↔ mm_wp d 0 745 [l0, l1, l2, .ref a, l4, l5, l6, l7] (.ref a :: st) h Q := wp_aloadR_n rfl rfl
theorem s0_744o : mm_wp d 0 744 [l0, l1, l2, mm_o o, l4, l5, l6, l7] st h Q ↔ mm_wp d 0 745 [l0, l1, l2, mm_o o, l4, l5, l6, l7] (mm_o o :: st) h Q := wp_aload_n rfl o rfl
theorem s0_744n : mm_wp d 0 744 [l0, l1, l2, .null, l4, l5, l6, l7] st h Q ↔ mm_wp d 0 745 [l0, l1, l2, .null, l4, l5, l6, l7] (.null :: st) h Q := wp_aload_n rfl none rfl
theorem s0_745 : mm_wp (d + 1) 0 745 ls [.ref b, .int x2, .ref a] h Q ↔ mm_wp d 92 0 [.ref a, .int x2, .ref b, mm_j] [] h (mm_bk (d + 1) 0 745 ls [] Q) := wp_static rfl rfl ⟨by decide, rfl⟩ ⟨Nat.le_of_ble_eq_true rfl, Nat.le_of_ble_eq_true rfl⟩ rfl rfl rfl rfl
theorem s0_748 : mm_wp d 0 748 [l0, l1, l2, l3, l4, l5, l6, l7] (.int x :: st) h Q ↔ mm_wp d 0 750 [l0, l1, l2, l3, l4, .int x, l6, l7] st h Q := wp_istore rfl rfl
theorem s0_750 : mm_wp d 0 750 [l0, l1, .ref a, l3, l4, l5, l6, l7] st h Q ↔ mm_wp d 0 751 [l0, l1, .ref a, l3, l4, l5, l6, l7] (.ref a :: st) h Q := wp_aloadR_n rfl rfl
theorem s0_750o : mm_wp d 0 750 [l0, l1, mm_o o, l3, l4, l5, l6, l7] st h Q ↔ mm_wp d 0 751 [l0, l1, mm_o o, l3, l4, l5, l6, l7] (mm_o o :: st) h Q := wp_aload_n rfl o rfl
theorem s0_750n : mm_wp d 0 750 [l0, l1, .null, l3, l4, l5, l6, l7] st h Q ↔ mm_wp d 0 751 [l0, l1, .null, l3, l4, l5, l6, l7] (.null :: st) h Q := wp_aload_n rfl none rfl
theorem s0_751 : mm_wp d 0 751 [.ref a, l1, l2, l3, l4, l5, l6, l7] st h Q ↔ mm_wp d 0 752 [.ref a, l1, l2, l3, l4, l5, l6, l7] (.ref a :: st) h Q := wp_aloadR_n rfl rfl
theorem s0_751o : mm_wp d 0 751 [mm_o o, l1, l2, l3, l4, l5, l6, l7] st h Q ↔ mm_wp d 0 752 [mm_o o, l1, l2, l3, l4, l5, l6, l7] (mm_o o :: st) h Q := wp_aload_n rfl o rfl
theorem s0_751n : mm_wp d 0 751 [.null, l1, l2, l3, l4, l5, l6, l7] st h Q ↔ mm_wp d 0 752 [.null, l1, l2, l3, l4, l5, l6, l7] (.null :: st) h Q := wp_aload_n rfl none rfl
theorem s0_752 : mm_wp d 0 752 [l0, l1, l2, l3, .int x, l5, l6, l7] st h Q ↔ mm_wp d 0 754 [l0, l1, l2, l3, .int x, l5, l6, l7] (.int x :: st) h Q := wp_iload rfl rfl
theorem s0_754 : mm_wp d 0 754 ls st h Q ↔ mm_wp d 0 755 ls (.int (1 : Int32) :: st) h Q := wp_iconst rfl rfl
theorem s0_755 : mm_wp d 0 755 ls (.int x2 :: .int x :: st) h Q ↔ mm_wp d 0 756 ls (.int (x + x2) :: st) h Q := wp_iadd rfl
theorem s0_756 : mm_wp d 0 756 ls (.int x :: .ref a :: st) h Q ↔ ((mm_s h a).1 = 20 ∧ mm_in x (mm_s h a).2 = true) ∧ mm_wp d 0 757 ls (.int (mm_i h a x.toNatClampNeg) :: st) h Q := wp_iaload rfl
theorem s0_757 : mm_wp (d + 1) 0 757 ls [.int x2, .ref a] h Q ↔ (mm_s h a).1 = 10 ∧ mm_wp d 145 0 [.ref a, .int x2, mm_j] [] h (mm_bk (d + 1) 0 757 ls [] Q) := wp_virtual rfl rfl ⟨by decide, rfl⟩ ⟨Nat.le_of_ble_eq_true rfl, Nat.le_of_ble_eq_true rfl⟩ rfl rfl rfl rfl rfl rfl
theorem s0_760 : mm_wp d 0 760 [l0, l1, l2, l3, l4, l5, l6, l7] (.int x :: st) h Q ↔ mm_wp d 0 762 [l0, l1, l2, l3, l4, l5, .int x, l7] st h Q := wp_istore rfl rfl
theorem s0_762 : mm_wp d 0 762 [l0, l1, .ref a, l3, l4, l5, l6, l7] st h Q ↔ mm_wp d 0 763 [l0, l1, .ref a, l3, l4, l5, l6, l7] (.ref a :: st) h Q := wp_aloadR_n rfl rfl
theorem s0_762o : mm_wp d 0 762 [l0, l1, mm_o o, l3, l4, l5, l6, l7] st h Q ↔ mm_wp d 0 763 [l0, l1, mm_o o, l3, l4, l5, l6, l7] (mm_o o :: st) h Q := wp_aload_n rfl o rfl
theorem s0_762n : mm_wp d 0 762 [l0, l1, .null, l3, l4, l5, l6, l7] st h Q ↔ mm_wp d 0 763 [l0, l1, .null, l3, l4, l5, l6, l7] (.null :: st) h Q := wp_aload_n rfl none rfl
theorem s0_763 : mm_wp (d + 1) 0 763 ls [.ref a] h Q ↔ (mm_s h a).1 = 10 ∧ mm_wp d 110 0 [.ref a] [] h (mm_bk (d + 1) 0 763 ls [] Q) := wp_virtual rfl rfl ⟨by decide, rfl⟩ ⟨Nat.le_of_ble_eq_true rfl, Nat.le_of_ble_eq_true rfl⟩ rfl rfl rfl rfl rfl rfl
theorem s0_766 : mm_wp d 0 766 [l0, l1, l2, l3, l4, .int x, l6, l7] st h Q ↔ mm_wp d 0 768 [l0, l1, l2, l3, l4, .int x, l6, l7] (.int x :: st) h Q := wp_iload rfl rfl
theorem s0_768 : mm_wp d 0 768 ls (.int x2 :: .int x :: st) h Q ↔ if x = x2 then mm_wp d 0 773 ls st h Q else mm_wp d 0 771 ls st h Q := wp_icmpeq rfl rfl
theorem s0_771 : mm_wp d 0 771 ls st h Q ↔ mm_wp d 0 772 ls (.int (0 : Int32) :: st) h Q := wp_iconst rfl rfl
theorem s0_772 : mm_wp d 0 772 ls (.int x :: st) h Q ↔ (x = 0 ∨ x = 1) ∧ Q (.inl (some (.int x))) h := wp_zret rfl rfl
theorem s0_773 : mm_wp d 0 773 [l0, l1, l2, l3, l4, .int x, l6, l7] st h Q ↔ mm_wp d 0 775 [l0, l1, l2, l3, l4, .int x, l6, l7] (.int x :: st) h Q := wp_iload rfl rfl
theorem s0_775 : mm_wp d 0 775 ls (.int x :: st) h Q ↔ if x = 0 then mm_wp d 0 778 ls st h Q else mm_wp d 0 790 ls st h Q := wp_ifne rfl rfl
theorem s0_778 : mm_wp d 0 778 [l0, l1, l2, .ref a, l4, l5, l6, l7] st h Q ↔ mm_wp d 0 779 [l0, l1, l2, .ref a, l4, l5, l6, l7] (.ref a :: st) h Q := wp_aloadR_n rfl rfl
theorem s0_778o : mm_wp d 0 778 [l0, l1, l2, mm_o o, l4, l5, l6, l7] st h Q ↔ mm_wp d 0 779 [l0, l1, l2, mm_o o, l4, l5, l6, l7] (mm_o o :: st) h Q := wp_aload_n rfl o rfl
theorem s0_778n : mm_wp d 0 778 [l0, l1, l2, .null, l4, l5, l6, l7] st h Q ↔ mm_wp d 0 779 [l0, l1, l2, .null, l4, l5, l6, l7] (.null :: st) h Q := wp_aload_n rfl none rfl
theorem s0_779 : mm_wp d 0 779 ls st h Q ↔ mm_wp d 0 780 ls (.int (0 : Int32) :: st) h Q := wp_iconst rfl rfl
theorem s0_780 : mm_wp d 0 780 ls (.int x :: .ref a :: st) h Q ↔ ((mm_s h a).1 = 21 ∧ mm_in x (mm_s h a).2 = true) ∧ mm_wp d 0 781 ls (.long (mm_l h a x.toNatClampNeg) :: st) h Q := wp_laload rfl
theorem s0_781 : mm_wp d 0 781 [l0, l1, l2, l3, l4, l5, .int x, l7] st h Q ↔ mm_wp d 0 783 [l0, l1, l2, l3, l4, l5, .int x, l7] (.int x :: st) h Q := wp_iload rfl rfl
theorem s0_783 : mm_wp d 0 783 ls (.int x :: st) h Q ↔ mm_wp d 0 784 ls (.long x.toInt64 :: st) h Q := wp_i2l rfl
theorem s0_784 : mm_wp d 0 784 ls (.long w2 :: .long w :: st) h Q ↔ mm_wp d 0 785 ls (.int (if w2 < w then 1 else if w = w2 then 0 else -1) :: st) h Q := wp_lcmp rfl
theorem s0_785 : mm_wp d 0 785 ls (.int x :: st) h Q ↔ if x = 0 then mm_wp d 0 790 ls st h Q else mm_wp d 0 788 ls st h Q := wp_ifeq rfl rfl
theorem s0_788 : mm_wp d 0 788 ls st h Q ↔ mm_wp d 0 789 ls (.int (0 : Int32) :: st) h Q := wp_iconst rfl rfl
theorem s0_789 : mm_wp d 0 789 ls (.int x :: st) h Q ↔ (x = 0 ∨ x = 1) ∧ Q (.inl (some (.int x))) h := wp_zret rfl rfl
theorem s0_790 : mm_wp d 0 790 ls st h Q ↔ mm_wp d 0 860 ls st h Q := wp_goto rfl rfl
theorem s0_793 : mm_wp d 0 793 [l0, .ref a, l2, l3, l4, l5, l6, l7] st h Q ↔ mm_wp d 0 794 [l0, .ref a, l2, l3, l4, l5, l6, l7] (.ref a :: st) h Q := wp_aloadR_n rfl rfl
theorem s0_793o : mm_wp d 0 793 [l0, mm_o o, l2, l3, l4, l5, l6, l7] st h Q ↔ mm_wp d 0 794 [l0, mm_o o, l2, l3, l4, l5, l6, l7] (mm_o o :: st) h Q := wp_aload_n rfl o rfl
theorem s0_793n : mm_wp d 0 793 [l0, .null, l2, l3, l4, l5, l6, l7] st h Q ↔ mm_wp d 0 794 [l0, .null, l2, l3, l4, l5, l6, l7] (.null :: st) h Q := wp_aload_n rfl none rfl
theorem s0_794 : mm_wp d 0 794 [.ref a, l1, l2, l3, l4, l5, l6, l7] st h Q ↔ mm_wp d 0 795 [.ref a, l1, l2, l3, l4, l5, l6, l7] (.ref a :: st) h Q := wp_aloadR_n rfl rfl
theorem s0_794o : mm_wp d 0 794 [mm_o o, l1, l2, l3, l4, l5, l6, l7] st h Q ↔ mm_wp d 0 795 [mm_o o, l1, l2, l3, l4, l5, l6, l7] (mm_o o :: st) h Q := wp_aload_n rfl o rfl
theorem s0_794n : mm_wp d 0 794 [.null, l1, l2, l3, l4, l5, l6, l7] st h Q ↔ mm_wp d 0 795 [.null, l1, l2, l3, l4, l5, l6, l7] (.null :: st) h Q := wp_aload_n rfl none rfl
theorem s0_795 : mm_wp d 0 795 [l0, l1, l2, l3, .int x, l5, l6, l7] st h Q ↔ mm_wp d 0 797 [l0, l1, l2, l3, .int x, l5, l6, l7] (.int x :: st) h Q := wp_iload rfl rfl
theorem s0_797 : mm_wp d 0 797 ls st h Q ↔ mm_wp d 0 798 ls (.int (1 : Int32) :: st) h Q := wp_iconst rfl rfl
theorem s0_798 : mm_wp d 0 798 ls (.int x2 :: .int x :: st) h Q ↔ mm_wp d 0 799 ls (.int (x + x2) :: st) h Q := wp_iadd rfl
theorem s0_799 : mm_wp d 0 799 ls (.int x :: .ref a :: st) h Q ↔ ((mm_s h a).1 = 20 ∧ mm_in x (mm_s h a).2 = true) ∧ mm_wp d 0 800 ls (.int (mm_i h a x.toNatClampNeg) :: st) h Q := wp_iaload rfl
theorem s0_800 : mm_wp d 0 800 [.ref a, l1, l2, l3, l4, l5, l6, l7] st h Q ↔ mm_wp d 0 801 [.ref a, l1, l2, l3, l4, l5, l6, l7] (.ref a :: st) h Q := wp_aloadR_n rfl rfl
theorem s0_800o : mm_wp d 0 800 [mm_o o, l1, l2, l3, l4, l5, l6, l7] st h Q ↔ mm_wp d 0 801 [mm_o o, l1, l2, l3, l4, l5, l6, l7] (mm_o o :: st) h Q := wp_aload_n rfl o rfl
theorem s0_800n : mm_wp d 0 800 [.null, l1, l2, l3, l4, l5, l6, l7] st h Q ↔ mm_wp d 0 801 [.null, l1, l2, l3, l4, l5, l6, l7] (.null :: st) h Q := wp_aload_n rfl none rfl
theorem s0_801 : mm_wp d 0 801 [l0, l1, l2, l3, .int x, l5, l6, l7] st h Q ↔ mm_wp d 0 803 [l0, l1, l2, l3, .int x, l5, l6, l7] (.int x :: st) h Q := wp_iload rfl rfl
theorem s0_803 : mm_wp d 0 803 ls st h Q ↔ mm_wp d 0 804 ls (.int (2 : Int32) :: st) h Q := wp_iconst rfl rfl
theorem s0_804 : mm_wp d 0 804 ls (.int x2 :: .int x :: st) h Q ↔ mm_wp d 0 805 ls (.int (x + x2) :: st) h Q := wp_iadd rfl
theorem s0_805 : mm_wp d 0 805 ls (.int x :: .ref a :: st) h Q ↔ ((mm_s h a).1 = 20 ∧ mm_in x (mm_s h a).2 = true) ∧ mm_wp d 0 806 ls (.int (mm_i h a x.toNatClampNeg) :: st) h Q := wp_iaload rfl
theorem s0_806 : mm_wp d 0 806 [l0, l1, l2, .ref a, l4, l5, l6, l7] st h Q ↔ mm_wp d 0 807 [l0, l1, l2, .ref a, l4, l5, l6, l7] (.ref a :: st) h Q := wp_aloadR_n rfl rfl
theorem s0_806o : mm_wp d 0 806 [l0, l1, l2, mm_o o, l4, l5, l6, l7] st h Q ↔ mm_wp d 0 807 [l0, l1, l2, mm_o o, l4, l5, l6, l7] (mm_o o :: st) h Q := wp_aload_n rfl o rfl
theorem s0_806n : mm_wp d 0 806 [l0, l1, l2, .null, l4, l5, l6, l7] st h Q ↔ mm_wp d 0 807 [l0, l1, l2, .null, l4, l5, l6, l7] (.null :: st) h Q := wp_aload_n rfl none rfl
theorem s0_807 : mm_wp (d + 1) 0 807 ls [.ref b, .int x3, .int x2, .ref a] h Q ↔ mm_wp d 97 0 [.ref a, .int x2, .int x3, .ref b, mm_j] [] h (mm_bk (d + 1) 0 807 ls [] Q) := wp_static rfl rfl ⟨by decide, rfl⟩ ⟨Nat.le_of_ble_eq_true rfl, Nat.le_of_ble_eq_true rfl⟩ rfl rfl rfl rfl
theorem s0_810 : mm_wp d 0 810 [l0, l1, l2, l3, l4, l5, l6, l7] (.int x :: st) h Q ↔ mm_wp d 0 812 [l0, l1, l2, l3, l4, .int x, l6, l7] st h Q := wp_istore rfl rfl
theorem s0_812 : mm_wp d 0 812 [l0, l1, .ref a, l3, l4, l5, l6, l7] st h Q ↔ mm_wp d 0 813 [l0, l1, .ref a, l3, l4, l5, l6, l7] (.ref a :: st) h Q := wp_aloadR_n rfl rfl
theorem s0_812o : mm_wp d 0 812 [l0, l1, mm_o o, l3, l4, l5, l6, l7] st h Q ↔ mm_wp d 0 813 [l0, l1, mm_o o, l3, l4, l5, l6, l7] (mm_o o :: st) h Q := wp_aload_n rfl o rfl
theorem s0_812n : mm_wp d 0 812 [l0, l1, .null, l3, l4, l5, l6, l7] st h Q ↔ mm_wp d 0 813 [l0, l1, .null, l3, l4, l5, l6, l7] (.null :: st) h Q := wp_aload_n rfl none rfl
theorem s0_813 : mm_wp d 0 813 [.ref a, l1, l2, l3, l4, l5, l6, l7] st h Q ↔ mm_wp d 0 814 [.ref a, l1, l2, l3, l4, l5, l6, l7] (.ref a :: st) h Q := wp_aloadR_n rfl rfl
theorem s0_813o : mm_wp d 0 813 [mm_o o, l1, l2, l3, l4, l5, l6, l7] st h Q ↔ mm_wp d 0 814 [mm_o o, l1, l2, l3, l4, l5, l6, l7] (mm_o o :: st) h Q := wp_aload_n rfl o rfl
theorem s0_813n : mm_wp d 0 813 [.null, l1, l2, l3, l4, l5, l6, l7] st h Q ↔ mm_wp d 0 814 [.null, l1, l2, l3, l4, l5, l6, l7] (.null :: st) h Q := wp_aload_n rfl none rfl
theorem s0_814 : mm_wp d 0 814 [l0, l1, l2, l3, .int x, l5, l6, l7] st h Q ↔ mm_wp d 0 816 [l0, l1, l2, l3, .int x, l5, l6, l7] (.int x :: st) h Q := wp_iload rfl rfl
theorem s0_816 : mm_wp d 0 816 ls st h Q ↔ mm_wp d 0 817 ls (.int (1 : Int32) :: st) h Q := wp_iconst rfl rfl
theorem s0_817 : mm_wp d 0 817 ls (.int x2 :: .int x :: st) h Q ↔ mm_wp d 0 818 ls (.int (x + x2) :: st) h Q := wp_iadd rfl
theorem s0_818 : mm_wp d 0 818 ls (.int x :: .ref a :: st) h Q ↔ ((mm_s h a).1 = 20 ∧ mm_in x (mm_s h a).2 = true) ∧ mm_wp d 0 819 ls (.int (mm_i h a x.toNatClampNeg) :: st) h Q := wp_iaload rfl
theorem s0_819 : mm_wp d 0 819 [.ref a, l1, l2, l3, l4, l5, l6, l7] st h Q ↔ mm_wp d 0 820 [.ref a, l1, l2, l3, l4, l5, l6, l7] (.ref a :: st) h Q := wp_aloadR_n rfl rfl
theorem s0_819o : mm_wp d 0 819 [mm_o o, l1, l2, l3, l4, l5, l6, l7] st h Q ↔ mm_wp d 0 820 [mm_o o, l1, l2, l3, l4, l5, l6, l7] (mm_o o :: st) h Q := wp_aload_n rfl o rfl
theorem s0_819n : mm_wp d 0 819 [.null, l1, l2, l3, l4, l5, l6, l7] st h Q ↔ mm_wp d 0 820 [.null, l1, l2, l3, l4, l5, l6, l7] (.null :: st) h Q := wp_aload_n rfl none rfl
theorem s0_820 : mm_wp d 0 820 [l0, l1, l2, l3, .int x, l5, l6, l7] st h Q ↔ mm_wp d 0 822 [l0, l1, l2, l3, .int x, l5, l6, l7] (.int x :: st) h Q := wp_iload rfl rfl
theorem s0_822 : mm_wp d 0 822 ls st h Q ↔ mm_wp d 0 823 ls (.int (2 : Int32) :: st) h Q := wp_iconst rfl rfl
theorem s0_823 : mm_wp d 0 823 ls (.int x2 :: .int x :: st) h Q ↔ mm_wp d 0 824 ls (.int (x + x2) :: st) h Q := wp_iadd rfl
theorem s0_824 : mm_wp d 0 824 ls (.int x :: .ref a :: st) h Q ↔ ((mm_s h a).1 = 20 ∧ mm_in x (mm_s h a).2 = true) ∧ mm_wp d 0 825 ls (.int (mm_i h a x.toNatClampNeg) :: st) h Q := wp_iaload rfl
theorem s0_825 : mm_wp (d + 1) 0 825 ls [.int x3, .int x2, .ref a] h Q ↔ (mm_s h a).1 = 10 ∧ mm_wp d 146 0 [.ref a, .int x2, .int x3, mm_j, mm_j, mm_j, mm_j, mm_j, mm_j, mm_j, mm_j, mm_j, mm_j, mm_j, mm_j, mm_j, mm_j] [] h (mm_bk (d + 1) 0 825 ls [] Q) := wp_virtual rfl rfl ⟨by decide, rfl⟩ ⟨Nat.le_of_ble_eq_true rfl, Nat.le_of_ble_eq_true rfl⟩ rfl rfl rfl rfl rfl rfl
theorem s0_828 : mm_wp d 0 828 [l0, l1, l2, l3, l4, l5, l6, l7] (.long w :: st) h Q ↔ mm_wp d 0 830 [l0, l1, l2, l3, l4, l5, .long w, mm_j] st h Q := wp_lstore rfl rfl
theorem s0_830 : mm_wp d 0 830 [l0, l1, .ref a, l3, l4, l5, l6, l7] st h Q ↔ mm_wp d 0 831 [l0, l1, .ref a, l3, l4, l5, l6, l7] (.ref a :: st) h Q := wp_aloadR_n rfl rfl
theorem s0_830o : mm_wp d 0 830 [l0, l1, mm_o o, l3, l4, l5, l6, l7] st h Q ↔ mm_wp d 0 831 [l0, l1, mm_o o, l3, l4, l5, l6, l7] (mm_o o :: st) h Q := wp_aload_n rfl o rfl
theorem s0_830n : mm_wp d 0 830 [l0, l1, .null, l3, l4, l5, l6, l7] st h Q ↔ mm_wp d 0 831 [l0, l1, .null, l3, l4, l5, l6, l7] (.null :: st) h Q := wp_aload_n rfl none rfl
theorem s0_831 : mm_wp (d + 1) 0 831 ls [.ref a] h Q ↔ (mm_s h a).1 = 10 ∧ mm_wp d 110 0 [.ref a] [] h (mm_bk (d + 1) 0 831 ls [] Q) := wp_virtual rfl rfl ⟨by decide, rfl⟩ ⟨Nat.le_of_ble_eq_true rfl, Nat.le_of_ble_eq_true rfl⟩ rfl rfl rfl rfl rfl rfl
theorem s0_834 : mm_wp d 0 834 [l0, l1, l2, l3, l4, .int x, l6, l7] st h Q ↔ mm_wp d 0 836 [l0, l1, l2, l3, l4, .int x, l6, l7] (.int x :: st) h Q := wp_iload rfl rfl
theorem s0_836 : mm_wp d 0 836 ls (.int x2 :: .int x :: st) h Q ↔ if x = x2 then mm_wp d 0 841 ls st h Q else mm_wp d 0 839 ls st h Q := wp_icmpeq rfl rfl
theorem s0_839 : mm_wp d 0 839 ls st h Q ↔ mm_wp d 0 840 ls (.int (0 : Int32) :: st) h Q := wp_iconst rfl rfl
theorem s0_840 : mm_wp d 0 840 ls (.int x :: st) h Q ↔ (x = 0 ∨ x = 1) ∧ Q (.inl (some (.int x))) h := wp_zret rfl rfl
theorem s0_841 : mm_wp d 0 841 [l0, l1, l2, l3, l4, .int x, l6, l7] st h Q ↔ mm_wp d 0 843 [l0, l1, l2, l3, l4, .int x, l6, l7] (.int x :: st) h Q := wp_iload rfl rfl
theorem s0_843 : mm_wp d 0 843 ls (.int x :: st) h Q ↔ if x = 0 then mm_wp d 0 846 ls st h Q else mm_wp d 0 857 ls st h Q := wp_ifne rfl rfl
theorem s0_846 : mm_wp d 0 846 [l0, l1, l2, .ref a, l4, l5, l6, l7] st h Q ↔ mm_wp d 0 847 [l0, l1, l2, .ref a, l4, l5, l6, l7] (.ref a :: st) h Q := wp_aloadR_n rfl rfl
theorem s0_846o : mm_wp d 0 846 [l0, l1, l2, mm_o o, l4, l5, l6, l7] st h Q ↔ mm_wp d 0 847 [l0, l1, l2, mm_o o, l4, l5, l6, l7] (mm_o o :: st) h Q := wp_aload_n rfl o rfl
theorem s0_846n : mm_wp d 0 846 [l0, l1, l2, .null, l4, l5, l6, l7] st h Q ↔ mm_wp d 0 847 [l0, l1, l2, .null, l4, l5, l6, l7] (.null :: st) h Q := wp_aload_n rfl none rfl
theorem s0_847 : mm_wp d 0 847 ls st h Q ↔ mm_wp d 0 848 ls (.int (0 : Int32) :: st) h Q := wp_iconst rfl rfl
theorem s0_848 : mm_wp d 0 848 ls (.int x :: .ref a :: st) h Q ↔ ((mm_s h a).1 = 21 ∧ mm_in x (mm_s h a).2 = true) ∧ mm_wp d 0 849 ls (.long (mm_l h a x.toNatClampNeg) :: st) h Q := wp_laload rfl
theorem s0_849 : mm_wp d 0 849 [l0, l1, l2, l3, l4, l5, .long w, l7] st h Q ↔ mm_wp d 0 851 [l0, l1, l2, l3, l4, l5, .long w, l7] (.long w :: st) h Q := wp_lload rfl rfl
theorem s0_851 : mm_wp d 0 851 ls (.long w2 :: .long w :: st) h Q ↔ mm_wp d 0 852 ls (.int (if w2 < w then 1 else if w = w2 then 0 else -1) :: st) h Q := wp_lcmp rfl
theorem s0_852 : mm_wp d 0 852 ls (.int x :: st) h Q ↔ if x = 0 then mm_wp d 0 857 ls st h Q else mm_wp d 0 855 ls st h Q := wp_ifeq rfl rfl
theorem s0_855 : mm_wp d 0 855 ls st h Q ↔ mm_wp d 0 856 ls (.int (0 : Int32) :: st) h Q := wp_iconst rfl rfl
theorem s0_856 : mm_wp d 0 856 ls (.int x :: st) h Q ↔ (x = 0 ∨ x = 1) ∧ Q (.inl (some (.int x))) h := wp_zret rfl rfl
theorem s0_857 : mm_wp d 0 857 ls st h Q ↔ mm_wp d 0 860 ls st h Q := wp_goto rfl rfl
theorem s0_860 : mm_wp d 0 860 [l0, l1, l2, l3, .int x, l5, l6, l7] st h Q ↔ mm_wp d 0 863 [l0, l1, l2, l3, .int (x + (5 : Int32)), l5, l6, l7] st h Q := wp_iinc rfl rfl rfl rfl
theorem s0_863 : mm_wp d 0 863 ls st h Q ↔ mm_wp d 0 53 ls st h Q := wp_goto rfl rfl
theorem s0_866 : mm_wp d 0 866 ls st h Q ↔ mm_wp d 0 867 ls (.int (1 : Int32) :: st) h Q := wp_iconst rfl rfl
theorem s0_867 : mm_wp d 0 867 ls (.int x :: st) h Q ↔ (x = 0 ∨ x = 1) ∧ Q (.inl (some (.int x))) h := wp_zret rfl rfl
/-! 1: LoadRoom.<init>(III)V -/
theorem s1_0 : mm_wp d 1 0 [.ref a, l1, l2, l3] st h Q ↔ mm_wp d 1 1 [.ref a, l1, l2, l3] (.ref a :: st) h Q := wp_aloadR_n rfl rfl
theorem s1_1 : mm_wp d 1 1 ls (.ref a :: []) h Q ↔ mm_wp d 1 4 ls [] h Q := wp_objInit rfl rfl (Nat.le_of_ble_eq_true rfl)
theorem s1_4 : mm_wp d 1 4 [.ref a, l1, l2, l3] st h Q ↔ mm_wp d 1 5 [.ref a, l1, l2, l3] (.ref a :: st) h Q := wp_aloadR_n rfl rfl
theorem s1_5 : mm_wp d 1 5 ls st h Q ↔ mm_wp d 1 8 ls (.ref (mm_n h) :: st) (mm_nw h 1 3 3) Q := wp_new rfl rfl rfl rfl
theorem s1_8 : mm_wp d 1 8 ls (.ref a :: st) h Q ↔ mm_wp d 1 9 ls (.ref a :: .ref a :: st) h Q := wp_dupR rfl
theorem s1_9 : mm_wp d 1 9 [l0, .int x, l2, l3] st h Q ↔ mm_wp d 1 10 [l0, .int x, l2, l3] (.int x :: st) h Q := wp_iload_n rfl rfl
theorem s1_10 : mm_wp (d + 1) 1 10 ls [.int x, t2, t1, t0] h Q ↔ mm_wp d 2 0 [.int x] [] h (mm_bk (d + 1) 1 10 ls [t2, t1, t0] Q) := wp_static rfl rfl ⟨by decide, rfl⟩ ⟨Nat.le_of_ble_eq_true rfl, Nat.le_of_ble_eq_true rfl⟩ rfl rfl rfl rfl
theorem s1_13 : mm_wp d 1 13 [l0, l1, .int x, l3] st h Q ↔ mm_wp d 1 14 [l0, l1, .int x, l3] (.int x :: st) h Q := wp_iload_n rfl rfl
theorem s1_14 : mm_wp (d + 1) 1 14 ls [.int x, t3, t2, t1, t0] h Q ↔ mm_wp d 2 0 [.int x] [] h (mm_bk (d + 1) 1 14 ls [t3, t2, t1, t0] Q) := wp_static rfl rfl ⟨by decide, rfl⟩ ⟨Nat.le_of_ble_eq_true rfl, Nat.le_of_ble_eq_true rfl⟩ rfl rfl rfl rfl
theorem s1_17 : mm_wp d 1 17 [l0, l1, l2, .int x] st h Q ↔ mm_wp d 1 18 [l0, l1, l2, .int x] (.int x :: st) h Q := wp_iload_n rfl rfl
theorem s1_18 : mm_wp (d + 1) 1 18 ls [.int x, t4, t3, t2, t1, t0] h Q ↔ mm_wp d 2 0 [.int x] [] h (mm_bk (d + 1) 1 18 ls [t4, t3, t2, t1, t0] Q) := wp_static rfl rfl ⟨by decide, rfl⟩ ⟨Nat.le_of_ble_eq_true rfl, Nat.le_of_ble_eq_true rfl⟩ rfl rfl rfl rfl
theorem s1_21 : mm_wp (d + 1) 1 21 ls [.int x4, .int x3, .int x2, .ref a, t1, t0] h Q ↔ mm_wp d 5 0 [.ref a, .int x2, .int x3, .int x4] [] h (mm_bk (d + 1) 1 21 ls [t1, t0] Q) := wp_special (a := a) rfl rfl ⟨by decide, rfl⟩ ⟨Nat.le_of_ble_eq_true rfl, Nat.le_of_ble_eq_true rfl⟩ rfl rfl rfl rfl rfl
theorem s1_24 : mm_wp d 1 24 ls (.ref b :: .ref a :: st) h Q ↔ (mm_s h a).1 = 9 ∧ mm_wp d 1 27 ls st (mm_pr h a 0 (some b)) Q := wp_putR rfl rfl
theorem s1_27 : mm_wp d 1 27 [.ref a, l1, l2, l3] st h Q ↔ mm_wp d 1 28 [.ref a, l1, l2, l3] (.ref a :: st) h Q := wp_aloadR_n rfl rfl
theorem s1_28 : mm_wp d 1 28 ls st h Q ↔ mm_wp d 1 31 ls (.ref (mm_n h) :: st) (mm_nw h 2 2 2) Q := wp_new rfl rfl rfl rfl
theorem s1_31 : mm_wp d 1 31 ls (.ref a :: st) h Q ↔ mm_wp d 1 32 ls (.ref a :: .ref a :: st) h Q := wp_dupR rfl
theorem s1_32 : mm_wp d 1 32 [.ref a, l1, l2, l3] st h Q ↔ mm_wp d 1 33 [.ref a, l1, l2, l3] (.ref a :: st) h Q := wp_aloadR_n rfl rfl
theorem s1_33 : mm_wp d 1 33 ls (.ref a :: st) h Q ↔ (mm_s h a).1 = 9 ∧ mm_wp d 1 36 ls (mm_o (mm_r h a 0) :: st) h Q := wp_getR rfl rfl
theorem s1_36 : mm_wp (d + 1) 1 36 ls [.ref b, .ref a, t1, t0] h Q ↔ mm_wp d 6 0 [.ref a, .ref b, mm_j] [] h (mm_bk (d + 1) 1 36 ls [t1, t0] Q) := wp_special (a := a) rfl rfl ⟨by decide, rfl⟩ ⟨Nat.le_of_ble_eq_true rfl, Nat.le_of_ble_eq_true rfl⟩ rfl rfl rfl rfl rfl
theorem s1_39 : mm_wp d 1 39 ls (.ref b :: .ref a :: st) h Q ↔ (mm_s h a).1 = 9 ∧ mm_wp d 1 42 ls st (mm_pr h a 1 (some b)) Q := wp_putR rfl rfl
theorem s1_42 : mm_wp d 1 42 [.ref a, l1, l2, l3] st h Q ↔ mm_wp d 1 43 [.ref a, l1, l2, l3] (.ref a :: st) h Q := wp_aloadR_n rfl rfl
theorem s1_43 : mm_wp d 1 43 ls st h Q ↔ mm_wp d 1 46 ls (.ref (mm_n h) :: st) (mm_nw h 8 11 11) Q := wp_new rfl rfl rfl rfl
theorem s1_46 : mm_wp d 1 46 ls (.ref a :: st) h Q ↔ mm_wp d 1 47 ls (.ref a :: .ref a :: st) h Q := wp_dupR rfl
theorem s1_47 : mm_wp d 1 47 [.ref a, l1, l2, l3] st h Q ↔ mm_wp d 1 48 [.ref a, l1, l2, l3] (.ref a :: st) h Q := wp_aloadR_n rfl rfl
theorem s1_48 : mm_wp d 1 48 ls (.ref a :: st) h Q ↔ (mm_s h a).1 = 9 ∧ mm_wp d 1 51 ls (mm_o (mm_r h a 0) :: st) h Q := wp_getR rfl rfl
theorem s1_51 : mm_wp d 1 51 [.ref a, l1, l2, l3] st h Q ↔ mm_wp d 1 52 [.ref a, l1, l2, l3] (.ref a :: st) h Q := wp_aloadR_n rfl rfl
theorem s1_52 : mm_wp d 1 52 ls (.ref a :: st) h Q ↔ (mm_s h a).1 = 9 ∧ mm_wp d 1 55 ls (mm_o (mm_r h a 1) :: st) h Q := wp_getR rfl rfl
theorem s1_55 : mm_wp (d + 1) 1 55 ls [.ref c, .ref b, .ref a, t1, t0] h Q ↔ mm_wp d 8 0 [.ref a, .ref b, .ref c, mm_j] [] h (mm_bk (d + 1) 1 55 ls [t1, t0] Q) := wp_special (a := a) rfl rfl ⟨by decide, rfl⟩ ⟨Nat.le_of_ble_eq_true rfl, Nat.le_of_ble_eq_true rfl⟩ rfl rfl rfl rfl rfl
theorem s1_58 : mm_wp d 1 58 ls (.ref b :: .ref a :: st) h Q ↔ (mm_s h a).1 = 9 ∧ mm_wp d 1 61 ls st (mm_pr h a 2 (some b)) Q := wp_putR rfl rfl
theorem s1_61 : mm_wp d 1 61 [.ref a, l1, l2, l3] st h Q ↔ mm_wp d 1 62 [.ref a, l1, l2, l3] (.ref a :: st) h Q := wp_aloadR_n rfl rfl
theorem s1_62 : mm_wp d 1 62 ls st h Q ↔ mm_wp d 1 65 ls (.ref (mm_n h) :: st) (mm_nw h 0 2 2) Q := wp_new rfl rfl rfl rfl
theorem s1_65 : mm_wp d 1 65 ls (.ref a :: st) h Q ↔ mm_wp d 1 66 ls (.ref a :: .ref a :: st) h Q := wp_dupR rfl
theorem s1_66 : mm_wp (d + 1) 1 66 ls [.ref a, t1, t0] h Q ↔ mm_wp d 13 0 [.ref a] [] h (mm_bk (d + 1) 1 66 ls [t1, t0] Q) := wp_special (a := a) rfl rfl ⟨by decide, rfl⟩ ⟨Nat.le_of_ble_eq_true rfl, Nat.le_of_ble_eq_true rfl⟩ rfl rfl rfl rfl rfl
theorem s1_69 : mm_wp d 1 69 ls (.ref b :: .ref a :: st) h Q ↔ (mm_s h a).1 = 9 ∧ mm_wp d 1 72 ls st (mm_pr h a 3 (some b)) Q := wp_putR rfl rfl
theorem s1_72 : mm_wp d 1 72 ls st h Q ↔ Q (.inl none) h := wp_vret rfl rfl
/-! 2: LoadRoom.nearestLength(I)I -/
theorem s2_0 : mm_wp d 2 0 ls st h Q ↔ mm_wp d 2 1 ls (.int (1 : Int32) :: st) h Q := wp_iconst rfl rfl
theorem s2_1 : mm_wp d 2 1 ls st h Q ↔ mm_wp d 2 4 ls (.int (200 : Int32) :: st) h Q := wp_sipush rfl rfl
theorem s2_4 : mm_wp d 2 4 [.int x] st h Q ↔ mm_wp d 2 5 [.int x] (.int x :: st) h Q := wp_iload_n rfl rfl
theorem s2_5 : mm_wp (d + 1) 2 5 ls [.int x2, .int x, t0] h Q ↔ mm_wp d 3 0 [.int x, .int x2] [] h (mm_bk (d + 1) 2 5 ls [t0] Q) := wp_static rfl rfl ⟨by decide, rfl⟩ ⟨Nat.le_of_ble_eq_true rfl, Nat.le_of_ble_eq_true rfl⟩ rfl rfl rfl rfl
theorem s2_8 : mm_wp (d + 1) 2 8 ls [.int x2, .int x] h Q ↔ mm_wp d 4 0 [.int x, .int x2] [] h (mm_bk (d + 1) 2 8 ls [] Q) := wp_static rfl rfl ⟨by decide, rfl⟩ ⟨Nat.le_of_ble_eq_true rfl, Nat.le_of_ble_eq_true rfl⟩ rfl rfl rfl rfl
theorem s2_11 : mm_wp d 2 11 ls (.int x :: st) h Q ↔ Q (.inl (some (.int x))) h := wp_iret rfl rfl
/-! 3: java/lang/Math.min(II)I -/
theorem s3_0 : mm_wp d 3 0 [.int x, l1] st h Q ↔ mm_wp d 3 1 [.int x, l1] (.int x :: st) h Q := wp_iload_n rfl rfl
theorem s3_1 : mm_wp d 3 1 [l0, .int x] st h Q ↔ mm_wp d 3 2 [l0, .int x] (.int x :: st) h Q := wp_iload_n rfl rfl
theorem s3_2 : mm_wp d 3 2 ls (.int x2 :: .int x :: st) h Q ↔ if x2 < x then mm_wp d 3 9 ls st h Q else mm_wp d 3 5 ls st h Q := wp_icmpgt rfl rfl
theorem s3_5 : mm_wp d 3 5 [.int x, l1] st h Q ↔ mm_wp d 3 6 [.int x, l1] (.int x :: st) h Q := wp_iload_n rfl rfl
theorem s3_6 : mm_wp d 3 6 ls st h Q ↔ mm_wp d 3 10 ls st h Q := wp_goto rfl rfl
theorem s3_9 : mm_wp d 3 9 [l0, .int x] st h Q ↔ mm_wp d 3 10 [l0, .int x] (.int x :: st) h Q := wp_iload_n rfl rfl
theorem s3_10 : mm_wp d 3 10 ls (.int x :: st) h Q ↔ Q (.inl (some (.int x))) h := wp_iret rfl rfl
/-! 4: java/lang/Math.max(II)I -/
theorem s4_0 : mm_wp d 4 0 [.int x, l1] st h Q ↔ mm_wp d 4 1 [.int x, l1] (.int x :: st) h Q := wp_iload_n rfl rfl
theorem s4_1 : mm_wp d 4 1 [l0, .int x] st h Q ↔ mm_wp d 4 2 [l0, .int x] (.int x :: st) h Q := wp_iload_n rfl rfl
theorem s4_2 : mm_wp d 4 2 ls (.int x2 :: .int x :: st) h Q ↔ if x < x2 then mm_wp d 4 9 ls st h Q else mm_wp d 4 5 ls st h Q := wp_icmplt rfl rfl
theorem s4_5 : mm_wp d 4 5 [.int x, l1] st h Q ↔ mm_wp d 4 6 [.int x, l1] (.int x :: st) h Q := wp_iload_n rfl rfl
theorem s4_6 : mm_wp d 4 6 ls st h Q ↔ mm_wp d 4 10 ls st h Q := wp_goto rfl rfl
theorem s4_9 : mm_wp d 4 9 [l0, .int x] st h Q ↔ mm_wp d 4 10 [l0, .int x] (.int x :: st) h Q := wp_iload_n rfl rfl
theorem s4_10 : mm_wp d 4 10 ls (.int x :: st) h Q ↔ Q (.inl (some (.int x))) h := wp_iret rfl rfl
/-! 5: LoadRoom$Box.<init>(III)V -/
theorem s5_0 : mm_wp d 5 0 [.ref a, l1, l2, l3] st h Q ↔ mm_wp d 5 1 [.ref a, l1, l2, l3] (.ref a :: st) h Q := wp_aloadR_n rfl rfl
theorem s5_1 : mm_wp d 5 1 ls (.ref a :: []) h Q ↔ mm_wp d 5 4 ls [] h Q := wp_objInit rfl rfl (Nat.le_of_ble_eq_true rfl)
theorem s5_4 : mm_wp d 5 4 [.ref a, l1, l2, l3] st h Q ↔ mm_wp d 5 5 [.ref a, l1, l2, l3] (.ref a :: st) h Q := wp_aloadR_n rfl rfl
theorem s5_5 : mm_wp d 5 5 [l0, .int x, l2, l3] st h Q ↔ mm_wp d 5 6 [l0, .int x, l2, l3] (.int x :: st) h Q := wp_iload_n rfl rfl
theorem s5_6 : mm_wp d 5 6 ls (.int x :: .ref a :: st) h Q ↔ (mm_s h a).1 = 1 ∧ mm_wp d 5 9 ls st (mm_pi h a 0 x) Q := wp_putI rfl rfl
theorem s5_9 : mm_wp d 5 9 [.ref a, l1, l2, l3] st h Q ↔ mm_wp d 5 10 [.ref a, l1, l2, l3] (.ref a :: st) h Q := wp_aloadR_n rfl rfl
theorem s5_10 : mm_wp d 5 10 [l0, l1, .int x, l3] st h Q ↔ mm_wp d 5 11 [l0, l1, .int x, l3] (.int x :: st) h Q := wp_iload_n rfl rfl
theorem s5_11 : mm_wp d 5 11 ls (.int x :: .ref a :: st) h Q ↔ (mm_s h a).1 = 1 ∧ mm_wp d 5 14 ls st (mm_pi h a 1 x) Q := wp_putI rfl rfl
theorem s5_14 : mm_wp d 5 14 [.ref a, l1, l2, l3] st h Q ↔ mm_wp d 5 15 [.ref a, l1, l2, l3] (.ref a :: st) h Q := wp_aloadR_n rfl rfl
theorem s5_15 : mm_wp d 5 15 [l0, l1, l2, .int x] st h Q ↔ mm_wp d 5 16 [l0, l1, l2, .int x] (.int x :: st) h Q := wp_iload_n rfl rfl
theorem s5_16 : mm_wp d 5 16 ls (.int x :: .ref a :: st) h Q ↔ (mm_s h a).1 = 1 ∧ mm_wp d 5 19 ls st (mm_pi h a 2 x) Q := wp_putI rfl rfl
theorem s5_19 : mm_wp d 5 19 ls st h Q ↔ Q (.inl none) h := wp_vret rfl rfl
/-! 6: LoadRoom$Cargo.<init>(LLoadRoom$Box;)V -/
theorem s6_0 : mm_wp d 6 0 [.ref a, l1, l2] st h Q ↔ mm_wp d 6 1 [.ref a, l1, l2] (.ref a :: st) h Q := wp_aloadR_n rfl rfl
theorem s6_1 : mm_wp d 6 1 ls (.ref a :: []) h Q ↔ mm_wp d 6 4 ls [] h Q := wp_objInit rfl rfl (Nat.le_of_ble_eq_true rfl)
theorem s6_4 : mm_wp d 6 4 [.ref a, l1, l2] st h Q ↔ mm_wp d 6 5 [.ref a, l1, l2] (.ref a :: st) h Q := wp_aloadR_n rfl rfl
theorem s6_5 : mm_wp d 6 5 ls st h Q ↔ mm_wp d 6 7 ls (.int (8 : Int32) :: st) h Q := wp_bipush rfl rfl
theorem s6_7 : mm_wp d 6 7 ls (.int x :: st) h Q ↔ (0 ≤ x ∧ x ≤ 1000) ∧ mm_wp d 6 10 ls (.ref (mm_n h) :: st) (mm_nw h 23 x.toNatClampNeg x.toNatClampNeg) Q := wp_newA rfl rfl (by decide)
theorem s6_10 : mm_wp d 6 10 ls (.ref b :: .ref a :: st) h Q ↔ (mm_s h a).1 = 2 ∧ mm_wp d 6 13 ls st (mm_pr h a 0 (some b)) Q := wp_putR rfl rfl
theorem s6_13 : mm_wp d 6 13 ls st h Q ↔ mm_wp d 6 14 ls (.int (0 : Int32) :: st) h Q := wp_iconst rfl rfl
theorem s6_14 : mm_wp d 6 14 [l0, l1, l2] (.int x :: st) h Q ↔ mm_wp d 6 15 [l0, l1, .int x] st h Q := wp_istore_n rfl rfl
theorem s6_15 : mm_wp d 6 15 [l0, l1, .int x] st h Q ↔ mm_wp d 6 16 [l0, l1, .int x] (.int x :: st) h Q := wp_iload_n rfl rfl
theorem s6_16 : mm_wp d 6 16 ls st h Q ↔ mm_wp d 6 18 ls (.int (8 : Int32) :: st) h Q := wp_bipush rfl rfl
theorem s6_18 : mm_wp d 6 18 ls (.int x2 :: .int x :: st) h Q ↔ if x2 ≤ x then mm_wp d 6 41 ls st h Q else mm_wp d 6 21 ls st h Q := wp_icmpge rfl rfl
theorem s6_21 : mm_wp d 6 21 [.ref a, l1, l2] st h Q ↔ mm_wp d 6 22 [.ref a, l1, l2] (.ref a :: st) h Q := wp_aloadR_n rfl rfl
theorem s6_22 : mm_wp d 6 22 ls (.ref a :: st) h Q ↔ (mm_s h a).1 = 2 ∧ mm_wp d 6 25 ls (mm_o (mm_r h a 0) :: st) h Q := wp_getR rfl rfl
theorem s6_25 : mm_wp d 6 25 [l0, l1, .int x] st h Q ↔ mm_wp d 6 26 [l0, l1, .int x] (.int x :: st) h Q := wp_iload_n rfl rfl
theorem s6_26 : mm_wp d 6 26 ls st h Q ↔ mm_wp d 6 29 ls (.ref (mm_n h) :: st) (mm_nw h 5 10 10) Q := wp_new rfl rfl rfl rfl
theorem s6_29 : mm_wp d 6 29 ls (.ref a :: st) h Q ↔ mm_wp d 6 30 ls (.ref a :: .ref a :: st) h Q := wp_dupR rfl
theorem s6_30 : mm_wp d 6 30 [l0, .ref a, l2] st h Q ↔ mm_wp d 6 31 [l0, .ref a, l2] (.ref a :: st) h Q := wp_aloadR_n rfl rfl
theorem s6_30o : mm_wp d 6 30 [l0, mm_o o, l2] st h Q ↔ mm_wp d 6 31 [l0, mm_o o, l2] (mm_o o :: st) h Q := wp_aload_n rfl o rfl
theorem s6_30n : mm_wp d 6 30 [l0, .null, l2] st h Q ↔ mm_wp d 6 31 [l0, .null, l2] (.null :: st) h Q := wp_aload_n rfl none rfl
theorem s6_31 : mm_wp (d + 1) 6 31 ls [.ref b, .ref a, t2, t1, t0] h Q ↔ mm_wp d 7 0 [.ref a, .ref b] [] h (mm_bk (d + 1) 6 31 ls [t2, t1, t0] Q) := wp_special (a := a) rfl rfl ⟨by decide, rfl⟩ ⟨Nat.le_of_ble_eq_true rfl, Nat.le_of_ble_eq_true rfl⟩ rfl rfl rfl rfl rfl
theorem s6_34 : mm_wp d 6 34 ls (.ref b :: .int x :: .ref a :: st) h Q ↔ (((mm_s h a).1 = 23 ∧ (mm_s h b).1 = 5 ∨ (mm_s h a).1 = 24 ∧ (mm_s h b).1 = 6 ∨ (mm_s h a).1 = 25 ∧ (mm_s h b).1 = 4) ∧ mm_in x (mm_s h a).2 = true) ∧ mm_wp d 6 35 ls st (mm_pr h a x.toNatClampNeg (some b)) Q := wp_aastore rfl
theorem s6_35 : mm_wp d 6 35 [l0, l1, .int x] st h Q ↔ mm_wp d 6 38 [l0, l1, .int (x + (1 : Int32))] st h Q := wp_iinc rfl rfl rfl rfl
theorem s6_38 : mm_wp d 6 38 ls st h Q ↔ mm_wp d 6 15 ls st h Q := wp_goto rfl rfl
theorem s6_41 : mm_wp d 6 41 ls st h Q ↔ Q (.inl none) h := wp_vret rfl rfl
/-! 7: LoadRoom$Piece.<init>(LLoadRoom$Box;)V -/
theorem s7_0 : mm_wp d 7 0 [.ref a, l1] st h Q ↔ mm_wp d 7 1 [.ref a, l1] (.ref a :: st) h Q := wp_aloadR_n rfl rfl
theorem s7_1 : mm_wp d 7 1 ls (.ref a :: []) h Q ↔ mm_wp d 7 4 ls [] h Q := wp_objInit rfl rfl (Nat.le_of_ble_eq_true rfl)
theorem s7_4 : mm_wp d 7 4 [.ref a, l1] st h Q ↔ mm_wp d 7 5 [.ref a, l1] (.ref a :: st) h Q := wp_aloadR_n rfl rfl
theorem s7_5 : mm_wp d 7 5 ls st h Q ↔ mm_wp d 7 7 ls (.int (6 : Int32) :: st) h Q := wp_bipush rfl rfl
theorem s7_7 : mm_wp d 7 7 ls (.int x :: st) h Q ↔ (0 ≤ x ∧ x ≤ 1000) ∧ mm_wp d 7 9 ls (.ref (mm_n h) :: st) (mm_nw h 22 x.toNatClampNeg x.toNatClampNeg) Q := wp_newZ rfl
theorem s7_9 : mm_wp d 7 9 ls (.ref b :: .ref a :: st) h Q ↔ (mm_s h a).1 = 5 ∧ mm_wp d 7 12 ls st (mm_pr h a 1 (some b)) Q := wp_putR rfl rfl
theorem s7_12 : mm_wp d 7 12 [.ref a, l1] st h Q ↔ mm_wp d 7 13 [.ref a, l1] (.ref a :: st) h Q := wp_aloadR_n rfl rfl
theorem s7_13 : mm_wp d 7 13 [l0, .ref a] st h Q ↔ mm_wp d 7 14 [l0, .ref a] (.ref a :: st) h Q := wp_aloadR_n rfl rfl
theorem s7_13o : mm_wp d 7 13 [l0, mm_o o] st h Q ↔ mm_wp d 7 14 [l0, mm_o o] (mm_o o :: st) h Q := wp_aload_n rfl o rfl
theorem s7_13n : mm_wp d 7 13 [l0, .null] st h Q ↔ mm_wp d 7 14 [l0, .null] (.null :: st) h Q := wp_aload_n rfl none rfl
theorem s7_14 : mm_wp d 7 14 ls (.ref b :: .ref a :: st) h Q ↔ (mm_s h a).1 = 5 ∧ mm_wp d 7 17 ls st (mm_pr h a 0 (some b)) Q := wp_putR rfl rfl
theorem s7_17 : mm_wp d 7 17 ls st h Q ↔ Q (.inl none) h := wp_vret rfl rfl
/-! 8: LoadRoom$Search.<init>(LLoadRoom$Box;LLoadRoom$Cargo;)V -/
theorem s8_0 : mm_wp d 8 0 [.ref a, l1, l2, l3] st h Q ↔ mm_wp d 8 1 [.ref a, l1, l2, l3] (.ref a :: st) h Q := wp_aloadR_n rfl rfl
theorem s8_1 : mm_wp d 8 1 ls (.ref a :: []) h Q ↔ mm_wp d 8 4 ls [] h Q := wp_objInit rfl rfl (Nat.le_of_ble_eq_true rfl)
theorem s8_4 : mm_wp d 8 4 [.ref a, l1, l2, l3] st h Q ↔ mm_wp d 8 5 [.ref a, l1, l2, l3] (.ref a :: st) h Q := wp_aloadR_n rfl rfl
theorem s8_5 : mm_wp d 8 5 ls st h Q ↔ mm_wp d 8 8 ls (.ref (mm_n h) :: st) (mm_nw h 7 4 4) Q := wp_new rfl rfl rfl rfl
theorem s8_8 : mm_wp d 8 8 ls (.ref a :: st) h Q ↔ mm_wp d 8 9 ls (.ref a :: .ref a :: st) h Q := wp_dupR rfl
theorem s8_9 : mm_wp (d + 1) 8 9 ls [.ref a, t1, t0] h Q ↔ mm_wp d 9 0 [.ref a, mm_j] [] h (mm_bk (d + 1) 8 9 ls [t1, t0] Q) := wp_special (a := a) rfl rfl ⟨by decide, rfl⟩ ⟨Nat.le_of_ble_eq_true rfl, Nat.le_of_ble_eq_true rfl⟩ rfl rfl rfl rfl rfl
theorem s8_12 : mm_wp d 8 12 ls (.ref b :: .ref a :: st) h Q ↔ (mm_s h a).1 = 8 ∧ mm_wp d 8 15 ls st (mm_pr h a 2 (some b)) Q := wp_putR rfl rfl
theorem s8_15 : mm_wp d 8 15 [.ref a, l1, l2, l3] st h Q ↔ mm_wp d 8 16 [.ref a, l1, l2, l3] (.ref a :: st) h Q := wp_aloadR_n rfl rfl
theorem s8_16 : mm_wp d 8 16 ls st h Q ↔ mm_wp d 8 19 ls (.ref (mm_n h) :: st) (mm_nw h 7 4 4) Q := wp_new rfl rfl rfl rfl
theorem s8_19 : mm_wp d 8 19 ls (.ref a :: st) h Q ↔ mm_wp d 8 20 ls (.ref a :: .ref a :: st) h Q := wp_dupR rfl
theorem s8_20 : mm_wp (d + 1) 8 20 ls [.ref a, t1, t0] h Q ↔ mm_wp d 9 0 [.ref a, mm_j] [] h (mm_bk (d + 1) 8 20 ls [t1, t0] Q) := wp_special (a := a) rfl rfl ⟨by decide, rfl⟩ ⟨Nat.le_of_ble_eq_true rfl, Nat.le_of_ble_eq_true rfl⟩ rfl rfl rfl rfl rfl
theorem s8_23 : mm_wp d 8 23 ls (.ref b :: .ref a :: st) h Q ↔ (mm_s h a).1 = 8 ∧ mm_wp d 8 26 ls st (mm_pr h a 3 (some b)) Q := wp_putR rfl rfl
theorem s8_26 : mm_wp d 8 26 [.ref a, l1, l2, l3] st h Q ↔ mm_wp d 8 27 [.ref a, l1, l2, l3] (.ref a :: st) h Q := wp_aloadR_n rfl rfl
theorem s8_27 : mm_wp d 8 27 ls st h Q ↔ mm_wp d 8 30 ls (.ref (mm_n h) :: st) (mm_nw h 3 2 2) Q := wp_new rfl rfl rfl rfl
theorem s8_30 : mm_wp d 8 30 ls (.ref a :: st) h Q ↔ mm_wp d 8 31 ls (.ref a :: .ref a :: st) h Q := wp_dupR rfl
theorem s8_31 : mm_wp (d + 1) 8 31 ls [.ref a, t1, t0] h Q ↔ mm_wp d 11 0 [.ref a] [] h (mm_bk (d + 1) 8 31 ls [t1, t0] Q) := wp_special (a := a) rfl rfl ⟨by decide, rfl⟩ ⟨Nat.le_of_ble_eq_true rfl, Nat.le_of_ble_eq_true rfl⟩ rfl rfl rfl rfl rfl
theorem s8_34 : mm_wp d 8 34 ls (.ref b :: .ref a :: st) h Q ↔ (mm_s h a).1 = 8 ∧ mm_wp d 8 37 ls st (mm_pr h a 4 (some b)) Q := wp_putR rfl rfl
theorem s8_37 : mm_wp d 8 37 [.ref a, l1, l2, l3] st h Q ↔ mm_wp d 8 38 [.ref a, l1, l2, l3] (.ref a :: st) h Q := wp_aloadR_n rfl rfl
theorem s8_38 : mm_wp d 8 38 ls st h Q ↔ mm_wp d 8 41 ls (.ref (mm_n h) :: st) (mm_nw h 3 2 2) Q := wp_new rfl rfl rfl rfl
theorem s8_41 : mm_wp d 8 41 ls (.ref a :: st) h Q ↔ mm_wp d 8 42 ls (.ref a :: .ref a :: st) h Q := wp_dupR rfl
theorem s8_42 : mm_wp (d + 1) 8 42 ls [.ref a, t1, t0] h Q ↔ mm_wp d 11 0 [.ref a] [] h (mm_bk (d + 1) 8 42 ls [t1, t0] Q) := wp_special (a := a) rfl rfl ⟨by decide, rfl⟩ ⟨Nat.le_of_ble_eq_true rfl, Nat.le_of_ble_eq_true rfl⟩ rfl rfl rfl rfl rfl
theorem s8_45 : mm_wp d 8 45 ls (.ref b :: .ref a :: st) h Q ↔ (mm_s h a).1 = 8 ∧ mm_wp d 8 48 ls st (mm_pr h a 5 (some b)) Q := wp_putR rfl rfl
theorem s8_48 : mm_wp d 8 48 [.ref a, l1, l2, l3] st h Q ↔ mm_wp d 8 49 [.ref a, l1, l2, l3] (.ref a :: st) h Q := wp_aloadR_n rfl rfl
theorem s8_49 : mm_wp d 8 49 ls st h Q ↔ mm_wp d 8 52 ls (.ref (mm_n h) :: st) (mm_nw h 3 2 2) Q := wp_new rfl rfl rfl rfl
theorem s8_52 : mm_wp d 8 52 ls (.ref a :: st) h Q ↔ mm_wp d 8 53 ls (.ref a :: .ref a :: st) h Q := wp_dupR rfl
theorem s8_53 : mm_wp (d + 1) 8 53 ls [.ref a, t1, t0] h Q ↔ mm_wp d 11 0 [.ref a] [] h (mm_bk (d + 1) 8 53 ls [t1, t0] Q) := wp_special (a := a) rfl rfl ⟨by decide, rfl⟩ ⟨Nat.le_of_ble_eq_true rfl, Nat.le_of_ble_eq_true rfl⟩ rfl rfl rfl rfl rfl
theorem s8_56 : mm_wp d 8 56 ls (.ref b :: .ref a :: st) h Q ↔ (mm_s h a).1 = 8 ∧ mm_wp d 8 59 ls st (mm_pr h a 6 (some b)) Q := wp_putR rfl rfl
theorem s8_59 : mm_wp d 8 59 [.ref a, l1, l2, l3] st h Q ↔ mm_wp d 8 60 [.ref a, l1, l2, l3] (.ref a :: st) h Q := wp_aloadR_n rfl rfl
theorem s8_60 : mm_wp d 8 60 ls st h Q ↔ mm_wp d 8 62 ls (.int (64 : Int32) :: st) h Q := wp_bipush rfl rfl
theorem s8_62 : mm_wp d 8 62 ls (.int x :: st) h Q ↔ (0 ≤ x ∧ x ≤ 1000) ∧ mm_wp d 8 65 ls (.ref (mm_n h) :: st) (mm_nw h 25 x.toNatClampNeg x.toNatClampNeg) Q := wp_newA rfl rfl (by decide)
theorem s8_65 : mm_wp d 8 65 ls (.ref b :: .ref a :: st) h Q ↔ (mm_s h a).1 = 8 ∧ mm_wp d 8 68 ls st (mm_pr h a 7 (some b)) Q := wp_putR rfl rfl
theorem s8_68 : mm_wp d 8 68 [.ref a, l1, l2, l3] st h Q ↔ mm_wp d 8 69 [.ref a, l1, l2, l3] (.ref a :: st) h Q := wp_aloadR_n rfl rfl
theorem s8_69 : mm_wp d 8 69 ls st h Q ↔ mm_wp d 8 70 ls (.int (-1 : Int32) :: st) h Q := wp_iconst rfl rfl
theorem s8_70 : mm_wp d 8 70 ls (.int x :: .ref a :: st) h Q ↔ (mm_s h a).1 = 8 ∧ mm_wp d 8 73 ls st (mm_pi h a 9 x) Q := wp_putI rfl rfl
theorem s8_73 : mm_wp d 8 73 [.ref a, l1, l2, l3] st h Q ↔ mm_wp d 8 74 [.ref a, l1, l2, l3] (.ref a :: st) h Q := wp_aloadR_n rfl rfl
theorem s8_74 : mm_wp d 8 74 [l0, .ref a, l2, l3] st h Q ↔ mm_wp d 8 75 [l0, .ref a, l2, l3] (.ref a :: st) h Q := wp_aloadR_n rfl rfl
theorem s8_74o : mm_wp d 8 74 [l0, mm_o o, l2, l3] st h Q ↔ mm_wp d 8 75 [l0, mm_o o, l2, l3] (mm_o o :: st) h Q := wp_aload_n rfl o rfl
theorem s8_74n : mm_wp d 8 74 [l0, .null, l2, l3] st h Q ↔ mm_wp d 8 75 [l0, .null, l2, l3] (.null :: st) h Q := wp_aload_n rfl none rfl
theorem s8_75 : mm_wp d 8 75 ls (.ref b :: .ref a :: st) h Q ↔ (mm_s h a).1 = 8 ∧ mm_wp d 8 78 ls st (mm_pr h a 0 (some b)) Q := wp_putR rfl rfl
theorem s8_78 : mm_wp d 8 78 [.ref a, l1, l2, l3] st h Q ↔ mm_wp d 8 79 [.ref a, l1, l2, l3] (.ref a :: st) h Q := wp_aloadR_n rfl rfl
theorem s8_79 : mm_wp d 8 79 [l0, l1, .ref a, l3] st h Q ↔ mm_wp d 8 80 [l0, l1, .ref a, l3] (.ref a :: st) h Q := wp_aloadR_n rfl rfl
theorem s8_79o : mm_wp d 8 79 [l0, l1, mm_o o, l3] st h Q ↔ mm_wp d 8 80 [l0, l1, mm_o o, l3] (mm_o o :: st) h Q := wp_aload_n rfl o rfl
theorem s8_79n : mm_wp d 8 79 [l0, l1, .null, l3] st h Q ↔ mm_wp d 8 80 [l0, l1, .null, l3] (.null :: st) h Q := wp_aload_n rfl none rfl
theorem s8_80 : mm_wp d 8 80 ls (.ref b :: .ref a :: st) h Q ↔ (mm_s h a).1 = 8 ∧ mm_wp d 8 83 ls st (mm_pr h a 1 (some b)) Q := wp_putR rfl rfl
theorem s8_83 : mm_wp d 8 83 ls st h Q ↔ mm_wp d 8 84 ls (.int (0 : Int32) :: st) h Q := wp_iconst rfl rfl
theorem s8_84 : mm_wp d 8 84 [l0, l1, l2, l3] (.int x :: st) h Q ↔ mm_wp d 8 85 [l0, l1, l2, .int x] st h Q := wp_istore_n rfl rfl
theorem s8_85 : mm_wp d 8 85 [l0, l1, l2, .int x] st h Q ↔ mm_wp d 8 86 [l0, l1, l2, .int x] (.int x :: st) h Q := wp_iload_n rfl rfl
theorem s8_86 : mm_wp d 8 86 ls st h Q ↔ mm_wp d 8 88 ls (.int (64 : Int32) :: st) h Q := wp_bipush rfl rfl
theorem s8_88 : mm_wp d 8 88 ls (.int x2 :: .int x :: st) h Q ↔ if x2 ≤ x then mm_wp d 8 110 ls st h Q else mm_wp d 8 91 ls st h Q := wp_icmpge rfl rfl
theorem s8_91 : mm_wp d 8 91 [.ref a, l1, l2, l3] st h Q ↔ mm_wp d 8 92 [.ref a, l1, l2, l3] (.ref a :: st) h Q := wp_aloadR_n rfl rfl
theorem s8_92 : mm_wp d 8 92 ls (.ref a :: st) h Q ↔ (mm_s h a).1 = 8 ∧ mm_wp d 8 95 ls (mm_o (mm_r h a 7) :: st) h Q := wp_getR rfl rfl
theorem s8_95 : mm_wp d 8 95 [l0, l1, l2, .int x] st h Q ↔ mm_wp d 8 96 [l0, l1, l2, .int x] (.int x :: st) h Q := wp_iload_n rfl rfl
theorem s8_96 : mm_wp d 8 96 ls st h Q ↔ mm_wp d 8 99 ls (.ref (mm_n h) :: st) (mm_nw h 4 6 6) Q := wp_new rfl rfl rfl rfl
theorem s8_99 : mm_wp d 8 99 ls (.ref a :: st) h Q ↔ mm_wp d 8 100 ls (.ref a :: .ref a :: st) h Q := wp_dupR rfl
theorem s8_100 : mm_wp (d + 1) 8 100 ls [.ref a, t2, t1, t0] h Q ↔ mm_wp d 12 0 [.ref a] [] h (mm_bk (d + 1) 8 100 ls [t2, t1, t0] Q) := wp_special (a := a) rfl rfl ⟨by decide, rfl⟩ ⟨Nat.le_of_ble_eq_true rfl, Nat.le_of_ble_eq_true rfl⟩ rfl rfl rfl rfl rfl
theorem s8_103 : mm_wp d 8 103 ls (.ref b :: .int x :: .ref a :: st) h Q ↔ (((mm_s h a).1 = 23 ∧ (mm_s h b).1 = 5 ∨ (mm_s h a).1 = 24 ∧ (mm_s h b).1 = 6 ∨ (mm_s h a).1 = 25 ∧ (mm_s h b).1 = 4) ∧ mm_in x (mm_s h a).2 = true) ∧ mm_wp d 8 104 ls st (mm_pr h a x.toNatClampNeg (some b)) Q := wp_aastore rfl
theorem s8_104 : mm_wp d 8 104 [l0, l1, l2, .int x] st h Q ↔ mm_wp d 8 107 [l0, l1, l2, .int (x + (1 : Int32))] st h Q := wp_iinc rfl rfl rfl rfl
theorem s8_107 : mm_wp d 8 107 ls st h Q ↔ mm_wp d 8 85 ls st h Q := wp_goto rfl rfl
theorem s8_110 : mm_wp d 8 110 ls st h Q ↔ Q (.inl none) h := wp_vret rfl rfl
end
