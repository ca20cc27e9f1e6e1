/-! rows of the program, by rows.py -/
section
variable {d : Nat} {ls st : List Value} {h : mm_H} {Q : mm_Q} {o : Option Nat} {a b c : Nat} {x y x1 x2 x3 x4 x5 x6 : Int32} {w w2 w3 w4 : Int64} {q : UInt32} {l0 l1 l2 l3 l4 l5 l6 l7 l8 l9 l10 l11 l12 l13 l14 l15 l16 t0 t1 t2 t3 t4 t5 : Value}
/-! 83: LoadRoom$Row.isBetterThan(LLoadRoom$Row;)Z -/
theorem s83_0 : mm_wp d 83 0 [.ref a, l1] st h Q ↔ mm_wp d 83 1 [.ref a, l1] (.ref a :: st) h Q := wp_aloadR_n rfl rfl
theorem s83_1 : mm_wp d 83 1 ls (.ref a :: st) h Q ↔ (mm_s h a).1 = 7 ∧ mm_wp d 83 4 ls (.int (mm_i h a 2) :: st) h Q := wp_getI rfl rfl (by decide) (by decide)
theorem s83_4 : mm_wp d 83 4 [l0, .ref a] st h Q ↔ mm_wp d 83 5 [l0, .ref a] (.ref a :: st) h Q := wp_aloadR_n rfl rfl
theorem s83_4o : mm_wp d 83 4 [l0, mm_o o] st h Q ↔ mm_wp d 83 5 [l0, mm_o o] (mm_o o :: st) h Q := wp_aload_n rfl o rfl
theorem s83_5 : mm_wp d 83 5 ls (.ref a :: st) h Q ↔ (mm_s h a).1 = 7 ∧ mm_wp d 83 8 ls (.int (mm_i h a 2) :: st) h Q := wp_getI rfl rfl (by decide) (by decide)
theorem s83_8 : mm_wp d 83 8 ls (.int x2 :: .int x :: st) h Q ↔ if x = x2 then mm_wp d 83 30 ls st h Q else mm_wp d 83 11 ls st h Q := wp_icmpeq rfl rfl
theorem s83_11 : mm_wp d 83 11 [.ref a, l1] st h Q ↔ mm_wp d 83 12 [.ref a, l1] (.ref a :: st) h Q := wp_aloadR_n rfl rfl
theorem s83_12 : mm_wp d 83 12 ls (.ref a :: st) h Q ↔ (mm_s h a).1 = 7 ∧ mm_wp d 83 15 ls (.int (mm_i h a 2) :: st) h Q := wp_getI rfl rfl (by decide) (by decide)
theorem s83_15 : mm_wp d 83 15 [l0, .ref a] st h Q ↔ mm_wp d 83 16 [l0, .ref a] (.ref a :: st) h Q := wp_aloadR_n rfl rfl
theorem s83_15o : mm_wp d 83 15 [l0, mm_o o] st h Q ↔ mm_wp d 83 16 [l0, mm_o o] (mm_o o :: st) h Q := wp_aload_n rfl o rfl
theorem s83_16 : mm_wp d 83 16 ls (.ref a :: st) h Q ↔ (mm_s h a).1 = 7 ∧ mm_wp d 83 19 ls (.int (mm_i h a 2) :: st) h Q := wp_getI rfl rfl (by decide) (by decide)
theorem s83_19 : mm_wp d 83 19 ls (.int x2 :: .int x :: st) h Q ↔ if x ≤ x2 then mm_wp d 83 26 ls st h Q else mm_wp d 83 22 ls st h Q := wp_icmple rfl rfl
theorem s83_22 : mm_wp d 83 22 ls st h Q ↔ mm_wp d 83 23 ls (.int (1 : Int32) :: st) h Q := wp_iconst rfl rfl
theorem s83_23 : mm_wp d 83 23 ls st h Q ↔ mm_wp d 83 47 ls st h Q := wp_goto rfl rfl
theorem s83_26 : mm_wp d 83 26 ls st h Q ↔ mm_wp d 83 27 ls (.int (0 : Int32) :: st) h Q := wp_iconst rfl rfl
theorem s83_27 : mm_wp d 83 27 ls st h Q ↔ mm_wp d 83 47 ls st h Q := wp_goto rfl rfl
theorem s83_30 : mm_wp d 83 30 [.ref a, l1] st h Q ↔ mm_wp d 83 31 [.ref a, l1] (.ref a :: st) h Q := wp_aloadR_n rfl rfl
theorem s83_31 : mm_wp d 83 31 ls (.ref a :: st) h Q ↔ (mm_s h a).1 = 7 ∧ mm_wp d 83 34 ls (.long (mm_l h a 3) :: st) h Q := wp_getL rfl rfl
theorem s83_34 : mm_wp d 83 34 [l0, .ref a] st h Q ↔ mm_wp d 83 35 [l0, .ref a] (.ref a :: st) h Q := wp_aloadR_n rfl rfl
theorem s83_34o : mm_wp d 83 34 [l0, mm_o o] st h Q ↔ mm_wp d 83 35 [l0, mm_o o] (mm_o o :: st) h Q := wp_aload_n rfl o rfl
theorem s83_35 : mm_wp d 83 35 ls (.ref a :: st) h Q ↔ (mm_s h a).1 = 7 ∧ mm_wp d 83 38 ls (.long (mm_l h a 3) :: st) h Q := wp_getL rfl rfl
theorem s83_38 : mm_wp d 83 38 ls (.long w2 :: .long w :: st) h Q ↔ mm_wp d 83 39 ls (.int (if w2 < w then 1 else if w = w2 then 0 else -1) :: st) h Q := wp_lcmp rfl
theorem s83_39 : mm_wp d 83 39 ls (.int x :: st) h Q ↔ if 0 ≤ x then mm_wp d 83 46 ls st h Q else mm_wp d 83 42 ls st h Q := wp_ifge rfl rfl
theorem s83_42 : mm_wp d 83 42 ls st h Q ↔ mm_wp d 83 43 ls (.int (1 : Int32) :: st) h Q := wp_iconst rfl rfl
theorem s83_43 : mm_wp d 83 43 ls st h Q ↔ mm_wp d 83 47 ls st h Q := wp_goto rfl rfl
theorem s83_46 : mm_wp d 83 46 ls st h Q ↔ mm_wp d 83 47 ls (.int (0 : Int32) :: st) h Q := wp_iconst rfl rfl
theorem s83_47 : mm_wp d 83 47 ls (.int x :: st) h Q ↔ (x = 0 ∨ x = 1) ∧ Q (.inl (some (.int x))) h := wp_zret rfl rfl
/-! 84: LoadRoom$Row.copy(LLoadRoom$Row;)V -/
theorem s84_0 : mm_wp d 84 0 ls st h Q ↔ mm_wp d 84 1 ls (.int (0 : Int32) :: st) h Q := wp_iconst rfl rfl
theorem s84_1 : mm_wp d 84 1 [l0, l1, l2] (.int x :: st) h Q ↔ mm_wp d 84 2 [l0, l1, .int x] st h Q := wp_istore_n rfl rfl
theorem s84_2 : mm_wp d 84 2 [l0, l1, .int x] st h Q ↔ mm_wp d 84 3 [l0, l1, .int x] (.int x :: st) h Q := wp_iload_n rfl rfl
theorem s84_3 : mm_wp d 84 3 [l0, .ref a, l2] st h Q ↔ mm_wp d 84 4 [l0, .ref a, l2] (.ref a :: st) h Q := wp_aloadR_n rfl rfl
theorem s84_3o : mm_wp d 84 3 [l0, mm_o o, l2] st h Q ↔ mm_wp d 84 4 [l0, mm_o o, l2] (mm_o o :: st) h Q := wp_aload_n rfl o rfl
theorem s84_4 : mm_wp d 84 4 ls (.ref a :: st) h Q ↔ (mm_s h a).1 = 7 ∧ mm_wp d 84 7 ls (.int (mm_i h a 1) :: st) h Q := wp_getI rfl rfl (by decide) (by decide)
theorem s84_7 : mm_wp d 84 7 ls (.int x2 :: .int x :: st) h Q ↔ if x2 ≤ x then mm_wp d 84 31 ls st h Q else mm_wp d 84 10 ls st h Q := wp_icmpge rfl rfl
theorem s84_10 : mm_wp d 84 10 [.ref a, l1, l2] st h Q ↔ mm_wp d 84 11 [.ref a, l1, l2] (.ref a :: st) h Q := wp_aloadR_n rfl rfl
theorem s84_11 : mm_wp d 84 11 ls (.ref a :: st) h Q ↔ (mm_s h a).1 = 7 ∧ mm_wp d 84 14 ls (mm_o (mm_r h a 0) :: st) h Q := wp_getR rfl rfl
theorem s84_14 : mm_wp d 84 14 [l0, l1, .int x] st h Q ↔ mm_wp d 84 15 [l0, l1, .int x] (.int x :: st) h Q := wp_iload_n rfl rfl
theorem s84_15 : mm_wp d 84 15 ls (.int x :: .ref a :: st) h Q ↔ (23 ≤ (mm_s h a).1 ∧ (mm_s h a).1 ≤ 26 ∧ mm_in x (mm_s h a).2 = true) ∧ mm_wp d 84 16 ls (mm_o (mm_r h a x.toNatClampNeg) :: st) h Q := wp_aaload rfl
theorem s84_16 : mm_wp d 84 16 [l0, .ref a, l2] st h Q ↔ mm_wp d 84 17 [l0, .ref a, l2] (.ref a :: st) h Q := wp_aloadR_n rfl rfl
theorem s84_16o : mm_wp d 84 16 [l0, mm_o o, l2] st h Q ↔ mm_wp d 84 17 [l0, mm_o o, l2] (mm_o o :: st) h Q := wp_aload_n rfl o rfl
theorem s84_17 : mm_wp d 84 17 ls (.ref a :: st) h Q ↔ (mm_s h a).1 = 7 ∧ mm_wp d 84 20 ls (mm_o (mm_r h a 0) :: st) h Q := wp_getR rfl rfl
theorem s84_20 : mm_wp d 84 20 [l0, l1, .int x] st h Q ↔ mm_wp d 84 21 [l0, l1, .int x] (.int x :: st) h Q := wp_iload_n rfl rfl
theorem s84_21 : mm_wp d 84 21 ls (.int x :: .ref a :: st) h Q ↔ (23 ≤ (mm_s h a).1 ∧ (mm_s h a).1 ≤ 26 ∧ mm_in x (mm_s h a).2 = true) ∧ mm_wp d 84 22 ls (mm_o (mm_r h a x.toNatClampNeg) :: st) h Q := wp_aaload rfl
theorem s84_22 : mm_wp (d + 1) 84 22 ls [.ref b, .ref a] h Q ↔ (mm_s h a).1 = 6 ∧ mm_wp d 85 0 [.ref a, .ref b] [] h (mm_bk (d + 1) 84 22 ls [] Q) := wp_virtual rfl rfl ⟨by decide, rfl⟩ ⟨Nat.le_of_ble_eq_true rfl, Nat.le_of_ble_eq_true rfl⟩ rfl rfl rfl rfl rfl rfl
theorem s84_25 : mm_wp d 84 25 [l0, l1, .int x] st h Q ↔ mm_wp d 84 28 [l0, l1, .int (x + (1 : Int32))] st h Q := wp_iinc rfl rfl rfl rfl
theorem s84_28 : mm_wp d 84 28 ls st h Q ↔ mm_wp d 84 2 ls st h Q := wp_goto rfl rfl
theorem s84_31 : mm_wp d 84 31 [.ref a, l1, l2] st h Q ↔ mm_wp d 84 32 [.ref a, l1, l2] (.ref a :: st) h Q := wp_aloadR_n rfl rfl
theorem s84_32 : mm_wp d 84 32 [l0, .ref a, l2] st h Q ↔ mm_wp d 84 33 [l0, .ref a, l2] (.ref a :: st) h Q := wp_aloadR_n rfl rfl
theorem s84_32o : mm_wp d 84 32 [l0, mm_o o, l2] st h Q ↔ mm_wp d 84 33 [l0, mm_o o, l2] (mm_o o :: st) h Q := wp_aload_n rfl o rfl
theorem s84_33 : mm_wp d 84 33 ls (.ref a :: st) h Q ↔ (mm_s h a).1 = 7 ∧ mm_wp d 84 36 ls (.int (mm_i h a 1) :: st) h Q := wp_getI rfl rfl (by decide) (by decide)
theorem s84_36 : mm_wp d 84 36 ls (.int x :: .ref a :: st) h Q ↔ (mm_s h a).1 = 7 ∧ mm_wp d 84 39 ls st (mm_pi h a 1 x) Q := wp_putI rfl rfl
theorem s84_39 : mm_wp d 84 39 [.ref a, l1, l2] st h Q ↔ mm_wp d 84 40 [.ref a, l1, l2] (.ref a :: st) h Q := wp_aloadR_n rfl rfl
theorem s84_40 : mm_wp d 84 40 [l0, .ref a, l2] st h Q ↔ mm_wp d 84 41 [l0, .ref a, l2] (.ref a :: st) h Q := wp_aloadR_n rfl rfl
theorem s84_40o : mm_wp d 84 40 [l0, mm_o o, l2] st h Q ↔ mm_wp d 84 41 [l0, mm_o o, l2] (mm_o o :: st) h Q := wp_aload_n rfl o rfl
theorem s84_41 : mm_wp d 84 41 ls (.ref a :: st) h Q ↔ (mm_s h a).1 = 7 ∧ mm_wp d 84 44 ls (.int (mm_i h a 2) :: st) h Q := wp_getI rfl rfl (by decide) (by decide)
theorem s84_44 : mm_wp d 84 44 ls (.int x :: .ref a :: st) h Q ↔ (mm_s h a).1 = 7 ∧ mm_wp d 84 47 ls st (mm_pi h a 2 x) Q := wp_putI rfl rfl
theorem s84_47 : mm_wp d 84 47 [.ref a, l1, l2] st h Q ↔ mm_wp d 84 48 [.ref a, l1, l2] (.ref a :: st) h Q := wp_aloadR_n rfl rfl
theorem s84_48 : mm_wp d 84 48 [l0, .ref a, l2] st h Q ↔ mm_wp d 84 49 [l0, .ref a, l2] (.ref a :: st) h Q := wp_aloadR_n rfl rfl
theorem s84_48o : mm_wp d 84 48 [l0, mm_o o, l2] st h Q ↔ mm_wp d 84 49 [l0, mm_o o, l2] (mm_o o :: st) h Q := wp_aload_n rfl o rfl
theorem s84_49 : mm_wp d 84 49 ls (.ref a :: st) h Q ↔ (mm_s h a).1 = 7 ∧ mm_wp d 84 52 ls (.long (mm_l h a 3) :: st) h Q := wp_getL rfl rfl
theorem s84_52 : mm_wp d 84 52 ls (.long w :: .ref a :: st) h Q ↔ (mm_s h a).1 = 7 ∧ mm_wp d 84 55 ls st (mm_pl h a 3 w) Q := wp_putL rfl rfl
theorem s84_55 : mm_wp d 84 55 ls st h Q ↔ Q (.inl none) h := wp_vret rfl rfl
/-! 85: LoadRoom$Placed.copy(LLoadRoom$Placed;)V -/
theorem s85_0 : mm_wp d 85 0 [.ref a, l1] st h Q ↔ mm_wp d 85 1 [.ref a, l1] (.ref a :: st) h Q := wp_aloadR_n rfl rfl
theorem s85_1 : mm_wp d 85 1 [l0, .ref a] st h Q ↔ mm_wp d 85 2 [l0, .ref a] (.ref a :: st) h Q := wp_aloadR_n rfl rfl
theorem s85_1o : mm_wp d 85 1 [l0, mm_o o] st h Q ↔ mm_wp d 85 2 [l0, mm_o o] (mm_o o :: st) h Q := wp_aload_n rfl o rfl
theorem s85_2 : mm_wp d 85 2 ls (.ref a :: st) h Q ↔ (mm_s h a).1 = 6 ∧ mm_wp d 85 5 ls (.int (mm_i h a 1) :: st) h Q := wp_getI rfl rfl (by decide) (by decide)
theorem s85_5 : mm_wp d 85 5 ls (.int x :: .ref a :: st) h Q ↔ (mm_s h a).1 = 6 ∧ mm_wp d 85 8 ls st (mm_pi h a 1 x) Q := wp_putI rfl rfl
theorem s85_8 : mm_wp d 85 8 [.ref a, l1] st h Q ↔ mm_wp d 85 9 [.ref a, l1] (.ref a :: st) h Q := wp_aloadR_n rfl rfl
theorem s85_9 : mm_wp d 85 9 [l0, .ref a] st h Q ↔ mm_wp d 85 10 [l0, .ref a] (.ref a :: st) h Q := wp_aloadR_n rfl rfl
theorem s85_9o : mm_wp d 85 9 [l0, mm_o o] st h Q ↔ mm_wp d 85 10 [l0, mm_o o] (mm_o o :: st) h Q := wp_aload_n rfl o rfl
theorem s85_10 : mm_wp d 85 10 ls (.ref a :: st) h Q ↔ (mm_s h a).1 = 6 ∧ mm_wp d 85 13 ls (.int (mm_i h a 2) :: st) h Q := wp_getI rfl rfl (by decide) (by decide)
theorem s85_13 : mm_wp d 85 13 ls (.int x :: .ref a :: st) h Q ↔ (mm_s h a).1 = 6 ∧ mm_wp d 85 16 ls st (mm_pi h a 2 x) Q := wp_putI rfl rfl
theorem s85_16 : mm_wp d 85 16 [.ref a, l1] st h Q ↔ mm_wp d 85 17 [.ref a, l1] (.ref a :: st) h Q := wp_aloadR_n rfl rfl
theorem s85_17 : mm_wp d 85 17 [l0, .ref a] st h Q ↔ mm_wp d 85 18 [l0, .ref a] (.ref a :: st) h Q := wp_aloadR_n rfl rfl
theorem s85_17o : mm_wp d 85 17 [l0, mm_o o] st h Q ↔ mm_wp d 85 18 [l0, mm_o o] (mm_o o :: st) h Q := wp_aload_n rfl o rfl
theorem s85_18 : mm_wp d 85 18 ls (.ref a :: st) h Q ↔ (mm_s h a).1 = 6 ∧ mm_wp d 85 21 ls (.int (mm_i h a 3) :: st) h Q := wp_getI rfl rfl (by decide) (by decide)
theorem s85_21 : mm_wp d 85 21 ls (.int x :: .ref a :: st) h Q ↔ (mm_s h a).1 = 6 ∧ mm_wp d 85 24 ls st (mm_pi h a 3 x) Q := wp_putI rfl rfl
theorem s85_24 : mm_wp d 85 24 [.ref a, l1] st h Q ↔ mm_wp d 85 25 [.ref a, l1] (.ref a :: st) h Q := wp_aloadR_n rfl rfl
theorem s85_25 : mm_wp d 85 25 [l0, .ref a] st h Q ↔ mm_wp d 85 26 [l0, .ref a] (.ref a :: st) h Q := wp_aloadR_n rfl rfl
theorem s85_25o : mm_wp d 85 25 [l0, mm_o o] st h Q ↔ mm_wp d 85 26 [l0, mm_o o] (mm_o o :: st) h Q := wp_aload_n rfl o rfl
theorem s85_26 : mm_wp d 85 26 ls (.ref a :: st) h Q ↔ (mm_s h a).1 = 6 ∧ mm_wp d 85 29 ls (.int (mm_i h a 4) :: st) h Q := wp_getI rfl rfl (by decide) (by decide)
theorem s85_29 : mm_wp d 85 29 ls (.int x :: .ref a :: st) h Q ↔ (mm_s h a).1 = 6 ∧ mm_wp d 85 32 ls st (mm_pi h a 4 x) Q := wp_putI rfl rfl
theorem s85_32 : mm_wp d 85 32 [.ref a, l1] st h Q ↔ mm_wp d 85 33 [.ref a, l1] (.ref a :: st) h Q := wp_aloadR_n rfl rfl
theorem s85_33 : mm_wp d 85 33 [l0, .ref a] st h Q ↔ mm_wp d 85 34 [l0, .ref a] (.ref a :: st) h Q := wp_aloadR_n rfl rfl
theorem s85_33o : mm_wp d 85 33 [l0, mm_o o] st h Q ↔ mm_wp d 85 34 [l0, mm_o o] (mm_o o :: st) h Q := wp_aload_n rfl o rfl
theorem s85_34 : mm_wp d 85 34 ls (.ref a :: st) h Q ↔ (mm_s h a).1 = 6 ∧ mm_wp d 85 37 ls (.int (mm_i h a 5) :: st) h Q := wp_getI rfl rfl (by decide) (by decide)
theorem s85_37 : mm_wp d 85 37 ls (.int x :: .ref a :: st) h Q ↔ (mm_s h a).1 = 6 ∧ mm_wp d 85 40 ls st (mm_pi h a 5 x) Q := wp_putI rfl rfl
theorem s85_40 : mm_wp d 85 40 [.ref a, l1] st h Q ↔ mm_wp d 85 41 [.ref a, l1] (.ref a :: st) h Q := wp_aloadR_n rfl rfl
theorem s85_41 : mm_wp d 85 41 [l0, .ref a] st h Q ↔ mm_wp d 85 42 [l0, .ref a] (.ref a :: st) h Q := wp_aloadR_n rfl rfl
theorem s85_41o : mm_wp d 85 41 [l0, mm_o o] st h Q ↔ mm_wp d 85 42 [l0, mm_o o] (mm_o o :: st) h Q := wp_aload_n rfl o rfl
theorem s85_42 : mm_wp d 85 42 ls (.ref a :: st) h Q ↔ (mm_s h a).1 = 6 ∧ mm_wp d 85 45 ls (.int (mm_i h a 6) :: st) h Q := wp_getI rfl rfl (by decide) (by decide)
theorem s85_45 : mm_wp d 85 45 ls (.int x :: .ref a :: st) h Q ↔ (mm_s h a).1 = 6 ∧ mm_wp d 85 48 ls st (mm_pi h a 6 x) Q := wp_putI rfl rfl
theorem s85_48 : mm_wp d 85 48 [.ref a, l1] st h Q ↔ mm_wp d 85 49 [.ref a, l1] (.ref a :: st) h Q := wp_aloadR_n rfl rfl
theorem s85_49 : mm_wp d 85 49 [l0, .ref a] st h Q ↔ mm_wp d 85 50 [l0, .ref a] (.ref a :: st) h Q := wp_aloadR_n rfl rfl
theorem s85_49o : mm_wp d 85 49 [l0, mm_o o] st h Q ↔ mm_wp d 85 50 [l0, mm_o o] (mm_o o :: st) h Q := wp_aload_n rfl o rfl
theorem s85_50 : mm_wp d 85 50 ls (.ref a :: st) h Q ↔ (mm_s h a).1 = 6 ∧ mm_wp d 85 53 ls (.int (mm_i h a 7) :: st) h Q := wp_getI rfl rfl (by decide) (by decide)
theorem s85_53 : mm_wp d 85 53 ls (.int x :: .ref a :: st) h Q ↔ (mm_s h a).1 = 6 ∧ mm_wp d 85 56 ls st (mm_pi h a 7 x) Q := wp_putI rfl rfl
theorem s85_56 : mm_wp d 85 56 [.ref a, l1] st h Q ↔ mm_wp d 85 57 [.ref a, l1] (.ref a :: st) h Q := wp_aloadR_n rfl rfl
theorem s85_57 : mm_wp d 85 57 [l0, .ref a] st h Q ↔ mm_wp d 85 58 [l0, .ref a] (.ref a :: st) h Q := wp_aloadR_n rfl rfl
theorem s85_57o : mm_wp d 85 57 [l0, mm_o o] st h Q ↔ mm_wp d 85 58 [l0, mm_o o] (mm_o o :: st) h Q := wp_aload_n rfl o rfl
theorem s85_58 : mm_wp d 85 58 ls (.ref a :: st) h Q ↔ (mm_s h a).1 = 6 ∧ mm_wp d 85 61 ls (.int (mm_i h a 8) :: st) h Q := wp_getI rfl rfl (by decide) (by decide)
theorem s85_61 : mm_wp d 85 61 ls (.int x :: .ref a :: st) h Q ↔ (mm_s h a).1 = 6 ∧ mm_wp d 85 64 ls st (mm_pi h a 8 x) Q := wp_putI rfl rfl
theorem s85_64 : mm_wp d 85 64 [.ref a, l1] st h Q ↔ mm_wp d 85 65 [.ref a, l1] (.ref a :: st) h Q := wp_aloadR_n rfl rfl
theorem s85_65 : mm_wp d 85 65 [l0, .ref a] st h Q ↔ mm_wp d 85 66 [l0, .ref a] (.ref a :: st) h Q := wp_aloadR_n rfl rfl
theorem s85_65o : mm_wp d 85 65 [l0, mm_o o] st h Q ↔ mm_wp d 85 66 [l0, mm_o o] (mm_o o :: st) h Q := wp_aload_n rfl o rfl
theorem s85_66 : mm_wp d 85 66 ls (.ref a :: st) h Q ↔ (mm_s h a).1 = 6 ∧ mm_wp d 85 69 ls (.int (mm_i h a 9) :: st) h Q := wp_getI rfl rfl (by decide) (by decide)
theorem s85_69 : mm_wp d 85 69 ls (.int x :: .ref a :: st) h Q ↔ (mm_s h a).1 = 6 ∧ mm_wp d 85 72 ls st (mm_pi h a 9 x) Q := wp_putI rfl rfl
theorem s85_72 : mm_wp d 85 72 [.ref a, l1] st h Q ↔ mm_wp d 85 73 [.ref a, l1] (.ref a :: st) h Q := wp_aloadR_n rfl rfl
theorem s85_73 : mm_wp d 85 73 [l0, .ref a] st h Q ↔ mm_wp d 85 74 [l0, .ref a] (.ref a :: st) h Q := wp_aloadR_n rfl rfl
theorem s85_73o : mm_wp d 85 73 [l0, mm_o o] st h Q ↔ mm_wp d 85 74 [l0, mm_o o] (mm_o o :: st) h Q := wp_aload_n rfl o rfl
theorem s85_74 : mm_wp d 85 74 ls (.ref a :: st) h Q ↔ (mm_s h a).1 = 6 ∧ mm_wp d 85 77 ls (.int (mm_i h a 10) :: st) h Q := wp_getI rfl rfl (by decide) (by decide)
theorem s85_77 : mm_wp d 85 77 ls (.int x :: .ref a :: st) h Q ↔ (mm_s h a).1 = 6 ∧ mm_wp d 85 80 ls st (mm_pi h a 10 x) Q := wp_putI rfl rfl
theorem s85_80 : mm_wp d 85 80 [.ref a, l1] st h Q ↔ mm_wp d 85 81 [.ref a, l1] (.ref a :: st) h Q := wp_aloadR_n rfl rfl
theorem s85_81 : mm_wp d 85 81 [l0, .ref a] st h Q ↔ mm_wp d 85 82 [l0, .ref a] (.ref a :: st) h Q := wp_aloadR_n rfl rfl
theorem s85_81o : mm_wp d 85 81 [l0, mm_o o] st h Q ↔ mm_wp d 85 82 [l0, mm_o o] (mm_o o :: st) h Q := wp_aload_n rfl o rfl
theorem s85_82 : mm_wp d 85 82 ls (.ref a :: st) h Q ↔ (mm_s h a).1 = 6 ∧ mm_wp d 85 85 ls (.int (mm_i h a 11) :: st) h Q := wp_getI rfl rfl (by decide) (by decide)
theorem s85_85 : mm_wp d 85 85 ls (.int x :: .ref a :: st) h Q ↔ (mm_s h a).1 = 6 ∧ mm_wp d 85 88 ls st (mm_pi h a 11 x) Q := wp_putI rfl rfl
theorem s85_88 : mm_wp d 85 88 [.ref a, l1] st h Q ↔ mm_wp d 85 89 [.ref a, l1] (.ref a :: st) h Q := wp_aloadR_n rfl rfl
theorem s85_89 : mm_wp d 85 89 [l0, .ref a] st h Q ↔ mm_wp d 85 90 [l0, .ref a] (.ref a :: st) h Q := wp_aloadR_n rfl rfl
theorem s85_89o : mm_wp d 85 89 [l0, mm_o o] st h Q ↔ mm_wp d 85 90 [l0, mm_o o] (mm_o o :: st) h Q := wp_aload_n rfl o rfl
theorem s85_90 : mm_wp d 85 90 ls (.ref a :: st) h Q ↔ (mm_s h a).1 = 6 ∧ mm_wp d 85 93 ls (.int (mm_i h a 12) :: st) h Q := wp_getI rfl rfl (by decide) (by decide)
theorem s85_93 : mm_wp d 85 93 ls (.int x :: .ref a :: st) h Q ↔ (mm_s h a).1 = 6 ∧ mm_wp d 85 96 ls st (mm_pi h a 12 x) Q := wp_putI rfl rfl
theorem s85_96 : mm_wp d 85 96 [.ref a, l1] st h Q ↔ mm_wp d 85 97 [.ref a, l1] (.ref a :: st) h Q := wp_aloadR_n rfl rfl
theorem s85_97 : mm_wp d 85 97 [l0, .ref a] st h Q ↔ mm_wp d 85 98 [l0, .ref a] (.ref a :: st) h Q := wp_aloadR_n rfl rfl
theorem s85_97o : mm_wp d 85 97 [l0, mm_o o] st h Q ↔ mm_wp d 85 98 [l0, mm_o o] (mm_o o :: st) h Q := wp_aload_n rfl o rfl
theorem s85_98 : mm_wp d 85 98 ls (.ref a :: st) h Q ↔ (mm_s h a).1 = 6 ∧ mm_wp d 85 101 ls (.int (mm_i h a 13) :: st) h Q := wp_getI rfl rfl (by decide) (by decide)
theorem s85_101 : mm_wp d 85 101 ls (.int x :: .ref a :: st) h Q ↔ (mm_s h a).1 = 6 ∧ mm_wp d 85 104 ls st (mm_pi h a 13 x) Q := wp_putI rfl rfl
theorem s85_104 : mm_wp d 85 104 [.ref a, l1] st h Q ↔ mm_wp d 85 105 [.ref a, l1] (.ref a :: st) h Q := wp_aloadR_n rfl rfl
theorem s85_105 : mm_wp d 85 105 [l0, .ref a] st h Q ↔ mm_wp d 85 106 [l0, .ref a] (.ref a :: st) h Q := wp_aloadR_n rfl rfl
theorem s85_105o : mm_wp d 85 105 [l0, mm_o o] st h Q ↔ mm_wp d 85 106 [l0, mm_o o] (mm_o o :: st) h Q := wp_aload_n rfl o rfl
theorem s85_106 : mm_wp d 85 106 ls (.ref a :: st) h Q ↔ (mm_s h a).1 = 6 ∧ mm_wp d 85 109 ls (.int (mm_i h a 14) :: st) h Q := wp_getI rfl rfl (by decide) (by decide)
theorem s85_109 : mm_wp d 85 109 ls (.int x :: .ref a :: st) h Q ↔ (mm_s h a).1 = 6 ∧ mm_wp d 85 112 ls st (mm_pi h a 14 x) Q := wp_putI rfl rfl
theorem s85_112 : mm_wp d 85 112 [.ref a, l1] st h Q ↔ mm_wp d 85 113 [.ref a, l1] (.ref a :: st) h Q := wp_aloadR_n rfl rfl
theorem s85_113 : mm_wp d 85 113 [l0, .ref a] st h Q ↔ mm_wp d 85 114 [l0, .ref a] (.ref a :: st) h Q := wp_aloadR_n rfl rfl
theorem s85_113o : mm_wp d 85 113 [l0, mm_o o] st h Q ↔ mm_wp d 85 114 [l0, mm_o o] (mm_o o :: st) h Q := wp_aload_n rfl o rfl
theorem s85_114 : mm_wp d 85 114 ls (.ref a :: st) h Q ↔ (mm_s h a).1 = 6 ∧ mm_wp d 85 117 ls (.int (mm_i h a 15) :: st) h Q := wp_getI rfl rfl (by decide) (by decide)
theorem s85_117 : mm_wp d 85 117 ls (.int x :: .ref a :: st) h Q ↔ (mm_s h a).1 = 6 ∧ mm_wp d 85 120 ls st (mm_pi h a 15 x) Q := wp_putI rfl rfl
theorem s85_120 : mm_wp d 85 120 ls st h Q ↔ Q (.inl none) h := wp_vret rfl rfl
/-! 86: LoadRoom$Row.shorten()V -/
theorem s86_0 : mm_wp d 86 0 [.ref a] st h Q ↔ mm_wp d 86 1 [.ref a] (.ref a :: st) h Q := wp_aloadR_n rfl rfl
theorem s86_1 : mm_wp d 86 1 ls (.ref a :: st) h Q ↔ (mm_s h a).1 = 7 ∧ mm_wp d 86 4 ls (.int (mm_i h a 1) :: st) h Q := wp_getI rfl rfl (by decide) (by decide)
theorem s86_4 : mm_wp d 86 4 ls (.int x :: st) h Q ↔ if x ≤ 0 then mm_wp d 86 31 ls st h Q else mm_wp d 86 7 ls st h Q := wp_ifle rfl rfl
theorem s86_7 : mm_wp d 86 7 [.ref a] st h Q ↔ mm_wp d 86 8 [.ref a] (.ref a :: st) h Q := wp_aloadR_n rfl rfl
theorem s86_8 : mm_wp d 86 8 ls (.ref a :: st) h Q ↔ mm_wp d 86 9 ls (.ref a :: .ref a :: st) h Q := wp_dupR rfl
theorem s86_9 : mm_wp d 86 9 ls (.ref a :: st) h Q ↔ (mm_s h a).1 = 7 ∧ mm_wp d 86 12 ls (.int (mm_i h a 1) :: st) h Q := wp_getI rfl rfl (by decide) (by decide)
theorem s86_12 : mm_wp d 86 12 ls st h Q ↔ mm_wp d 86 13 ls (.int (1 : Int32) :: st) h Q := wp_iconst rfl rfl
theorem s86_13 : mm_wp d 86 13 ls (.int x2 :: .int x :: st) h Q ↔ mm_wp d 86 14 ls (.int (x - x2) :: st) h Q := wp_isub rfl
theorem s86_14 : mm_wp d 86 14 ls (.int x :: .ref a :: st) h Q ↔ (mm_s h a).1 = 7 ∧ mm_wp d 86 17 ls st (mm_pi h a 1 x) Q := wp_putI rfl rfl
theorem s86_17 : mm_wp d 86 17 [.ref a] st h Q ↔ mm_wp d 86 18 [.ref a] (.ref a :: st) h Q := wp_aloadR_n rfl rfl
theorem s86_18 : mm_wp d 86 18 [.ref a] st h Q ↔ mm_wp d 86 19 [.ref a] (.ref a :: st) h Q := wp_aloadR_n rfl rfl
theorem s86_19 : mm_wp d 86 19 ls (.ref a :: st) h Q ↔ (mm_s h a).1 = 7 ∧ mm_wp d 86 22 ls (mm_o (mm_r h a 0) :: st) h Q := wp_getR rfl rfl
theorem s86_22 : mm_wp d 86 22 [.ref a] st h Q ↔ mm_wp d 86 23 [.ref a] (.ref a :: st) h Q := wp_aloadR_n rfl rfl
theorem s86_23 : mm_wp d 86 23 ls (.ref a :: st) h Q ↔ (mm_s h a).1 = 7 ∧ mm_wp d 86 26 ls (.int (mm_i h a 1) :: st) h Q := wp_getI rfl rfl (by decide) (by decide)
theorem s86_26 : mm_wp d 86 26 ls (.int x :: .ref a :: st) h Q ↔ (23 ≤ (mm_s h a).1 ∧ (mm_s h a).1 ≤ 26 ∧ mm_in x (mm_s h a).2 = true) ∧ mm_wp d 86 27 ls (mm_o (mm_r h a x.toNatClampNeg) :: st) h Q := wp_aaload rfl
theorem s86_27 : mm_wp d 86 27 ls st h Q ↔ mm_wp d 86 28 ls (.int (-1 : Int32) :: st) h Q := wp_iconst rfl rfl
theorem s86_28 : mm_wp (d + 1) 86 28 ls [.int x3, .ref b, .ref a] h Q ↔ (mm_s h a).1 = 7 ∧ mm_wp d 81 0 [.ref a, .ref b, .int x3, mm_j] [] h (mm_bk (d + 1) 86 28 ls [] Q) := wp_virtual rfl rfl ⟨by decide, rfl⟩ ⟨Nat.le_of_ble_eq_true rfl, Nat.le_of_ble_eq_true rfl⟩ rfl rfl rfl rfl rfl rfl
theorem s86_31 : mm_wp d 86 31 ls st h Q ↔ Q (.inl none) h := wp_vret rfl rfl
/-! 87: LoadRoomLaw.at(LLoadRoom;II[J)I -/
theorem s87_0 : mm_wp d 87 0 [l0, l1, l2, .ref a, l4] st h Q ↔ mm_wp d 87 1 [l0, l1, l2, .ref a, l4] (.ref a :: st) h Q := wp_aloadR_n rfl rfl
theorem s87_0o : mm_wp d 87 0 [l0, l1, l2, mm_o o, l4] st h Q ↔ mm_wp d 87 1 [l0, l1, l2, mm_o o, l4] (mm_o o :: st) h Q := wp_aload_n rfl o rfl
theorem s87_1 : mm_wp d 87 1 ls st h Q ↔ mm_wp d 87 2 ls (.int (0 : Int32) :: st) h Q := wp_iconst rfl rfl
theorem s87_2 : mm_wp d 87 2 [.ref a, l1, l2, l3, l4] st h Q ↔ mm_wp d 87 3 [.ref a, l1, l2, l3, l4] (.ref a :: st) h Q := wp_aloadR_n rfl rfl
theorem s87_2o : mm_wp d 87 2 [mm_o o, l1, l2, l3, l4] st h Q ↔ mm_wp d 87 3 [mm_o o, l1, l2, l3, l4] (mm_o o :: st) h Q := wp_aload_n rfl o rfl
theorem s87_3 : mm_wp d 87 3 [l0, .int x, l2, l3, l4] st h Q ↔ mm_wp d 87 4 [l0, .int x, l2, l3, l4] (.int x :: st) h Q := wp_iload_n rfl rfl
theorem s87_4 : mm_wp d 87 4 [l0, l1, .int x, l3, l4] st h Q ↔ mm_wp d 87 5 [l0, l1, .int x, l3, l4] (.int x :: st) h Q := wp_iload_n rfl rfl
theorem s87_5 : mm_wp (d + 1) 87 5 ls [.int x3, .int x2, .ref a, t1, t0] h Q ↔ (mm_s h a).1 = 9 ∧ mm_wp d 88 0 [.ref a, .int x2, .int x3, mm_j] [] h (mm_bk (d + 1) 87 5 ls [t1, t0] Q) := wp_virtual rfl rfl ⟨by decide, rfl⟩ ⟨Nat.le_of_ble_eq_true rfl, Nat.le_of_ble_eq_true rfl⟩ rfl rfl rfl rfl rfl rfl
theorem s87_8 : mm_wp d 87 8 ls (.int x :: st) h Q ↔ mm_wp d 87 9 ls (.long x.toInt64 :: st) h Q := wp_i2l rfl
theorem s87_9 : mm_wp d 87 9 ls (.long w :: .int x :: .ref a :: st) h Q ↔ ((mm_s h a).1 = 21 ∧ mm_in x (mm_s h a).2 = true) ∧ mm_wp d 87 10 ls st (mm_pl h a x.toNatClampNeg w) Q := wp_lastore rfl
theorem s87_10 : mm_wp d 87 10 ls st h Q ↔ mm_wp d 87 21 ls st h Q := wp_goto rfl rfl
theorem s87_13 : mm_wp d 87 13 [l0, l1, l2, l3, l4] (.ref a :: st) h Q ↔ mm_wp d 87 15 [l0, l1, l2, l3, .ref a] st h Q := wp_astoreR rfl rfl
theorem s87_13o : mm_wp d 87 13 [l0, l1, l2, l3, l4] (mm_o o :: st) h Q ↔ mm_wp d 87 15 [l0, l1, l2, l3, mm_o o] st h Q := wp_astore rfl o rfl
theorem s87_15 : mm_wp d 87 15 ls st h Q ↔ mm_wp d 87 16 ls (.int (1 : Int32) :: st) h Q := wp_iconst rfl rfl
theorem s87_16 : mm_wp d 87 16 ls (.int x :: st) h Q ↔ Q (.inl (some (.int x))) h := wp_iret rfl rfl
theorem s87_17 : mm_wp d 87 17 [l0, l1, l2, l3, l4] (.ref a :: st) h Q ↔ mm_wp d 87 19 [l0, l1, l2, l3, .ref a] st h Q := wp_astoreR rfl rfl
theorem s87_17o : mm_wp d 87 17 [l0, l1, l2, l3, l4] (mm_o o :: st) h Q ↔ mm_wp d 87 19 [l0, l1, l2, l3, mm_o o] st h Q := wp_astore rfl o rfl
theorem s87_19 : mm_wp d 87 19 ls st h Q ↔ mm_wp d 87 20 ls (.int (2 : Int32) :: st) h Q := wp_iconst rfl rfl
theorem s87_20 : mm_wp d 87 20 ls (.int x :: st) h Q ↔ Q (.inl (some (.int x))) h := wp_iret rfl rfl
theorem s87_21 : mm_wp d 87 21 ls st h Q ↔ mm_wp d 87 22 ls (.int (0 : Int32) :: st) h Q := wp_iconst rfl rfl
theorem s87_22 : mm_wp d 87 22 ls (.int x :: st) h Q ↔ Q (.inl (some (.int x))) h := wp_iret rfl rfl
/-! 88: LoadRoom.at(II)I -/
theorem s88_0 : mm_wp d 88 0 [.ref a, l1, l2, l3] st h Q ↔ mm_wp d 88 1 [.ref a, l1, l2, l3] (.ref a :: st) h Q := wp_aloadR_n rfl rfl
theorem s88_1 : mm_wp d 88 1 ls (.ref a :: st) h Q ↔ (mm_s h a).1 = 9 ∧ mm_wp d 88 4 ls (mm_o (mm_r h a 1) :: st) h Q := wp_getR rfl rfl
theorem s88_4 : mm_wp d 88 4 [l0, .int x, l2, l3] st h Q ↔ mm_wp d 88 5 [l0, .int x, l2, l3] (.int x :: st) h Q := wp_iload_n rfl rfl
theorem s88_5 : mm_wp (d + 1) 88 5 ls [.int x2, .ref a] h Q ↔ (mm_s h a).1 = 2 ∧ mm_wp d 42 0 [.ref a, .int x2] [] h (mm_bk (d + 1) 88 5 ls [] Q) := wp_virtual rfl rfl ⟨by decide, rfl⟩ ⟨Nat.le_of_ble_eq_true rfl, Nat.le_of_ble_eq_true rfl⟩ rfl rfl rfl rfl rfl rfl
theorem s88_8 : mm_wp d 88 8 [l0, l1, .int x, l3] st h Q ↔ mm_wp d 88 9 [l0, l1, .int x, l3] (.int x :: st) h Q := wp_iload_n rfl rfl
theorem s88_9 : mm_wp d 88 9 ls st h Q ↔ mm_wp d 88 10 ls (.int (0 : Int32) :: st) h Q := wp_iconst rfl rfl
theorem s88_10 : mm_wp d 88 10 ls st h Q ↔ mm_wp d 88 11 ls (.int (5 : Int32) :: st) h Q := wp_iconst rfl rfl
theorem s88_11 : mm_wp (d + 1) 88 11 ls [.int x3, .int x2, .int x] h Q ↔ mm_wp d 25 0 [.int x, .int x2, .int x3] [] h (mm_bk (d + 1) 88 11 ls [] Q) := wp_static rfl rfl ⟨by decide, rfl⟩ ⟨Nat.le_of_ble_eq_true rfl, Nat.le_of_ble_eq_true rfl⟩ rfl rfl rfl rfl
theorem s88_14 : mm_wp d 88 14 ls (.int x :: st) h Q ↔ if x = 0 then mm_wp d 88 17 ls st h Q else mm_wp d 88 27 ls st h Q := wp_ifne rfl rfl
theorem s88_17 : mm_wp d 88 17 ls st h Q ↔ mm_wp d 88 20 ls (.ref (mm_n h) :: st) (mm_nw h 30 6 6) Q := wp_new rfl rfl rfl rfl
theorem s88_20 : mm_wp d 88 20 ls (.ref a :: st) h Q ↔ mm_wp d 88 21 ls (.ref a :: .ref a :: st) h Q := wp_dupR rfl
theorem s88_21 : mm_wp d 88 21 ls st h Q ↔ mm_wp d 88 23 ls (.float (UInt32.ofNat 8) :: st) h Q := wp_ldcS rfl rfl rfl
theorem s88_23 : mm_wp d 88 23 ls (.float q :: .ref a :: [t0]) h Q ↔ (mm_s h a).1 = 30 ∧ mm_wp d 88 26 ls [t0] h Q := wp_excInit (z := 1001) rfl rfl (Nat.le_of_ble_eq_true rfl) rfl (Nat.le_of_ble_eq_true rfl)
theorem s88_26 : mm_wp d 88 26 ls (.ref a :: st) h Q ↔ 30 ≤ (mm_s h a).1 ∧ Q (.inr a) h := wp_athrow rfl rfl
theorem s88_27 : mm_wp d 88 27 [.ref a, l1, l2, l3] st h Q ↔ mm_wp d 88 28 [.ref a, l1, l2, l3] (.ref a :: st) h Q := wp_aloadR_n rfl rfl
theorem s88_28 : mm_wp d 88 28 ls (.ref a :: st) h Q ↔ (mm_s h a).1 = 9 ∧ mm_wp d 88 31 ls (mm_o (mm_r h a 2) :: st) h Q := wp_getR rfl rfl
theorem s88_31 : mm_wp d 88 31 ls (.ref a :: st) h Q ↔ (mm_s h a).1 = 8 ∧ mm_wp d 88 34 ls (mm_o (mm_r h a 3) :: st) h Q := wp_getR rfl rfl
theorem s88_34 : mm_wp d 88 34 [l0, .int x, l2, l3] st h Q ↔ mm_wp d 88 35 [l0, .int x, l2, l3] (.int x :: st) h Q := wp_iload_n rfl rfl
theorem s88_35 : mm_wp (d + 1) 88 35 ls [.int x2, .ref a] h Q ↔ (mm_s h a).1 = 7 ∧ mm_wp d 59 0 [.ref a, .int x2, mm_j] [] h (mm_bk (d + 1) 88 35 ls [] Q) := wp_virtual rfl rfl ⟨by decide, rfl⟩ ⟨Nat.le_of_ble_eq_true rfl, Nat.le_of_ble_eq_true rfl⟩ rfl rfl rfl rfl rfl rfl
theorem s88_38 : mm_wp d 88 38 [l0, l1, l2, l3] (.ref a :: st) h Q ↔ mm_wp d 88 39 [l0, l1, l2, .ref a] st h Q := wp_astoreR_n rfl rfl
theorem s88_38o : mm_wp d 88 38 [l0, l1, l2, l3] (mm_o o :: st) h Q ↔ mm_wp d 88 39 [l0, l1, l2, mm_o o] st h Q := wp_astore_n rfl o rfl
theorem s88_39 : mm_wp d 88 39 [l0, l1, l2, .ref a] st h Q ↔ mm_wp d 88 40 [l0, l1, l2, .ref a] (.ref a :: st) h Q := wp_aloadR_n rfl rfl
theorem s88_39o : mm_wp d 88 39 [l0, l1, l2, mm_o o] st h Q ↔ mm_wp d 88 40 [l0, l1, l2, mm_o o] (mm_o o :: st) h Q := wp_aload_n rfl o rfl
theorem s88_40 : mm_wp d 88 40 ls (mm_o o :: st) h Q ↔ if o = none then mm_wp d 88 43 ls st h Q else mm_wp d 88 47 ls st h Q := wp_ifnonnull (off := 7) rfl rfl o
theorem s88_43 : mm_wp d 88 43 ls st h Q ↔ mm_wp d 88 44 ls (.int (-1 : Int32) :: st) h Q := wp_iconst rfl rfl
theorem s88_44 : mm_wp d 88 44 ls st h Q ↔ mm_wp d 88 52 ls st h Q := wp_goto rfl rfl
theorem s88_47 : mm_wp d 88 47 [l0, l1, l2, .ref a] st h Q ↔ mm_wp d 88 48 [l0, l1, l2, .ref a] (.ref a :: st) h Q := wp_aloadR_n rfl rfl
theorem s88_47o : mm_wp d 88 47 [l0, l1, l2, mm_o o] st h Q ↔ mm_wp d 88 48 [l0, l1, l2, mm_o o] (mm_o o :: st) h Q := wp_aload_n rfl o rfl
theorem s88_48 : mm_wp d 88 48 [l0, l1, .int x, l3] st h Q ↔ mm_wp d 88 49 [l0, l1, .int x, l3] (.int x :: st) h Q := wp_iload_n rfl rfl
theorem s88_49 : mm_wp (d + 1) 88 49 ls [.int x2, .ref a] h Q ↔ (mm_s h a).1 = 6 ∧ mm_wp d 89 0 [.ref a, .int x2] [] h (mm_bk (d + 1) 88 49 ls [] Q) := wp_virtual rfl rfl ⟨by decide, rfl⟩ ⟨Nat.le_of_ble_eq_true rfl, Nat.le_of_ble_eq_true rfl⟩ rfl rfl rfl rfl rfl rfl
theorem s88_52 : mm_wp d 88 52 ls (.int x :: st) h Q ↔ Q (.inl (some (.int x))) h := wp_iret rfl rfl
/-! 89: LoadRoom$Placed.tell(I)I -/
theorem s89_0 : mm_wp d 89 0 [l0, .int x] st h Q ↔ mm_wp d 89 1 [l0, .int x] (.int x :: st) h Q := wp_iload_n rfl rfl
theorem s89_1d (hx : x.toInt < 0 ∨ 4 < x.toInt) : mm_wp d 89 1 ls (.int x :: st) h Q ↔ mm_wp d 89 61 ls st h Q := wp_tabOut rfl hx rfl
theorem s89_1_0 : mm_wp d 89 1 ls (.int (0 : Int32) :: st) h Q ↔ mm_wp d 89 36 ls st h Q := wp_tabIn rfl (by decide) rfl
theorem s89_1_1 : mm_wp d 89 1 ls (.int (1 : Int32) :: st) h Q ↔ mm_wp d 89 41 ls st h Q := wp_tabIn rfl (by decide) rfl
theorem s89_1_2 : mm_wp d 89 1 ls (.int (2 : Int32) :: st) h Q ↔ mm_wp d 89 46 ls st h Q := wp_tabIn rfl (by decide) rfl
theorem s89_1_3 : mm_wp d 89 1 ls (.int (3 : Int32) :: st) h Q ↔ mm_wp d 89 51 ls st h Q := wp_tabIn rfl (by decide) rfl
theorem s89_1_4 : mm_wp d 89 1 ls (.int (4 : Int32) :: st) h Q ↔ mm_wp d 89 56 ls st h Q := wp_tabIn rfl (by decide) rfl
theorem s89_36 : mm_wp d 89 36 [.ref a, l1] st h Q ↔ mm_wp d 89 37 [.ref a, l1] (.ref a :: st) h Q := wp_aloadR_n rfl rfl
theorem s89_37 : mm_wp d 89 37 ls (.ref a :: st) h Q ↔ (mm_s h a).1 = 6 ∧ mm_wp d 89 40 ls (.int (mm_i h a 3) :: st) h Q := wp_getI rfl rfl (by decide) (by decide)
theorem s89_40 : mm_wp d 89 40 ls (.int x :: st) h Q ↔ Q (.inl (some (.int x))) h := wp_iret rfl rfl
theorem s89_41 : mm_wp d 89 41 [.ref a, l1] st h Q ↔ mm_wp d 89 42 [.ref a, l1] (.ref a :: st) h Q := wp_aloadR_n rfl rfl
theorem s89_42 : mm_wp d 89 42 ls (.ref a :: st) h Q ↔ (mm_s h a).1 = 6 ∧ mm_wp d 89 45 ls (.int (mm_i h a 4) :: st) h Q := wp_getI rfl rfl (by decide) (by decide)
theorem s89_45 : mm_wp d 89 45 ls (.int x :: st) h Q ↔ Q (.inl (some (.int x))) h := wp_iret rfl rfl
theorem s89_46 : mm_wp d 89 46 [.ref a, l1] st h Q ↔ mm_wp d 89 47 [.ref a, l1] (.ref a :: st) h Q := wp_aloadR_n rfl rfl
theorem s89_47 : mm_wp d 89 47 ls (.ref a :: st) h Q ↔ (mm_s h a).1 = 6 ∧ mm_wp d 89 50 ls (.int (mm_i h a 5) :: st) h Q := wp_getI rfl rfl (by decide) (by decide)
theorem s89_50 : mm_wp d 89 50 ls (.int x :: st) h Q ↔ Q (.inl (some (.int x))) h := wp_iret rfl rfl
theorem s89_51 : mm_wp d 89 51 [.ref a, l1] st h Q ↔ mm_wp d 89 52 [.ref a, l1] (.ref a :: st) h Q := wp_aloadR_n rfl rfl
theorem s89_52 : mm_wp d 89 52 ls (.ref a :: st) h Q ↔ (mm_s h a).1 = 6 ∧ mm_wp d 89 55 ls (.int (mm_i h a 2) :: st) h Q := wp_getI rfl rfl (by decide) (by decide)
theorem s89_55 : mm_wp d 89 55 ls (.int x :: st) h Q ↔ Q (.inl (some (.int x))) h := wp_iret rfl rfl
theorem s89_56 : mm_wp d 89 56 [.ref a, l1] st h Q ↔ mm_wp d 89 57 [.ref a, l1] (.ref a :: st) h Q := wp_aloadR_n rfl rfl
theorem s89_57 : mm_wp d 89 57 ls (.ref a :: st) h Q ↔ (mm_s h a).1 = 6 ∧ mm_wp d 89 60 ls (.int (mm_i h a 0) :: st) h Q := wp_getI rfl rfl (by decide) (by decide)
theorem s89_60 : mm_wp d 89 60 ls (.int x :: st) h Q ↔ Q (.inl (some (.int x))) h := wp_iret rfl rfl
theorem s89_61 : mm_wp d 89 61 [.ref a, l1] st h Q ↔ mm_wp d 89 62 [.ref a, l1] (.ref a :: st) h Q := wp_aloadR_n rfl rfl
theorem s89_62 : mm_wp d 89 62 ls (.ref a :: st) h Q ↔ (mm_s h a).1 = 6 ∧ mm_wp d 89 65 ls (.int (mm_i h a 15) :: st) h Q := wp_getI rfl rfl (by decide) (by decide)
theorem s89_65 : mm_wp d 89 65 ls (.int x :: st) h Q ↔ Q (.inl (some (.int x))) h := wp_iret rfl rfl
/-! 90: LoadRoomLaw.touch(LLoadRoom;II[J)I -/
theorem s90_0 : mm_wp d 90 0 [l0, l1, l2, .ref a, l4] st h Q ↔ mm_wp d 90 1 [l0, l1, l2, .ref a, l4] (.ref a :: st) h Q := wp_aloadR_n rfl rfl
theorem s90_0o : mm_wp d 90 0 [l0, l1, l2, mm_o o, l4] st h Q ↔ mm_wp d 90 1 [l0, l1, l2, mm_o o, l4] (mm_o o :: st) h Q := wp_aload_n rfl o rfl
theorem s90_1 : mm_wp d 90 1 ls st h Q ↔ mm_wp d 90 2 ls (.int (0 : Int32) :: st) h Q := wp_iconst rfl rfl
theorem s90_2 : mm_wp d 90 2 [.ref a, l1, l2, l3, l4] st h Q ↔ mm_wp d 90 3 [.ref a, l1, l2, l3, l4] (.ref a :: st) h Q := wp_aloadR_n rfl rfl
theorem s90_2o : mm_wp d 90 2 [mm_o o, l1, l2, l3, l4] st h Q ↔ mm_wp d 90 3 [mm_o o, l1, l2, l3, l4] (mm_o o :: st) h Q := wp_aload_n rfl o rfl
theorem s90_3 : mm_wp d 90 3 [l0, .int x, l2, l3, l4] st h Q ↔ mm_wp d 90 4 [l0, .int x, l2, l3, l4] (.int x :: st) h Q := wp_iload_n rfl rfl
theorem s90_4 : mm_wp d 90 4 [l0, l1, .int x, l3, l4] st h Q ↔ mm_wp d 90 5 [l0, l1, .int x, l3, l4] (.int x :: st) h Q := wp_iload_n rfl rfl
theorem s90_5 : mm_wp (d + 1) 90 5 ls [.int x3, .int x2, .ref a, t1, t0] h Q ↔ (mm_s h a).1 = 9 ∧ mm_wp d 91 0 [.ref a, .int x2, .int x3, mm_j, mm_j] [] h (mm_bk (d + 1) 90 5 ls [t1, t0] Q) := wp_virtual rfl rfl ⟨by decide, rfl⟩ ⟨Nat.le_of_ble_eq_true rfl, Nat.le_of_ble_eq_true rfl⟩ rfl rfl rfl rfl rfl rfl
theorem s90_8 : mm_wp d 90 8 ls (.int x :: st) h Q ↔ mm_wp d 90 9 ls (.long x.toInt64 :: st) h Q := wp_i2l rfl
theorem s90_9 : mm_wp d 90 9 ls (.long w :: .int x :: .ref a :: st) h Q ↔ ((mm_s h a).1 = 21 ∧ mm_in x (mm_s h a).2 = true) ∧ mm_wp d 90 10 ls st (mm_pl h a x.toNatClampNeg w) Q := wp_lastore rfl
theorem s90_10 : mm_wp d 90 10 ls st h Q ↔ mm_wp d 90 17 ls st h Q := wp_goto rfl rfl
theorem s90_13 : mm_wp d 90 13 [l0, l1, l2, l3, l4] (.ref a :: st) h Q ↔ mm_wp d 90 15 [l0, l1, l2, l3, .ref a] st h Q := wp_astoreR rfl rfl
theorem s90_13o : mm_wp d 90 13 [l0, l1, l2, l3, l4] (mm_o o :: st) h Q ↔ mm_wp d 90 15 [l0, l1, l2, l3, mm_o o] st h Q := wp_astore rfl o rfl
theorem s90_15 : mm_wp d 90 15 ls st h Q ↔ mm_wp d 90 16 ls (.int (1 : Int32) :: st) h Q := wp_iconst rfl rfl
theorem s90_16 : mm_wp d 90 16 ls (.int x :: st) h Q ↔ Q (.inl (some (.int x))) h := wp_iret rfl rfl
theorem s90_17 : mm_wp d 90 17 ls st h Q ↔ mm_wp d 90 18 ls (.int (0 : Int32) :: st) h Q := wp_iconst rfl rfl
theorem s90_18 : mm_wp d 90 18 ls (.int x :: st) h Q ↔ Q (.inl (some (.int x))) h := wp_iret rfl rfl
/-! 91: LoadRoom.touch(II)I -/
theorem s91_0 : mm_wp d 91 0 [.ref a, l1, l2, l3, l4] st h Q ↔ mm_wp d 91 1 [.ref a, l1, l2, l3, l4] (.ref a :: st) h Q := wp_aloadR_n rfl rfl
theorem s91_1 : mm_wp d 91 1 ls (.ref a :: st) h Q ↔ (mm_s h a).1 = 9 ∧ mm_wp d 91 4 ls (mm_o (mm_r h a 1) :: st) h Q := wp_getR rfl rfl
theorem s91_4 : mm_wp d 91 4 [l0, .int x, l2, l3, l4] st h Q ↔ mm_wp d 91 5 [l0, .int x, l2, l3, l4] (.int x :: st) h Q := wp_iload_n rfl rfl
theorem s91_5 : mm_wp (d + 1) 91 5 ls [.int x2, .ref a] h Q ↔ (mm_s h a).1 = 2 ∧ mm_wp d 42 0 [.ref a, .int x2] [] h (mm_bk (d + 1) 91 5 ls [] Q) := wp_virtual rfl rfl ⟨by decide, rfl⟩ ⟨Nat.le_of_ble_eq_true rfl, Nat.le_of_ble_eq_true rfl⟩ rfl rfl rfl rfl rfl rfl
theorem s91_8 : mm_wp d 91 8 [.ref a, l1, l2, l3, l4] st h Q ↔ mm_wp d 91 9 [.ref a, l1, l2, l3, l4] (.ref a :: st) h Q := wp_aloadR_n rfl rfl
theorem s91_9 : mm_wp d 91 9 ls (.ref a :: st) h Q ↔ (mm_s h a).1 = 9 ∧ mm_wp d 91 12 ls (mm_o (mm_r h a 1) :: st) h Q := wp_getR rfl rfl
theorem s91_12 : mm_wp d 91 12 [l0, l1, .int x, l3, l4] st h Q ↔ mm_wp d 91 13 [l0, l1, .int x, l3, l4] (.int x :: st) h Q := wp_iload_n rfl rfl
theorem s91_13 : mm_wp (d + 1) 91 13 ls [.int x2, .ref a] h Q ↔ (mm_s h a).1 = 2 ∧ mm_wp d 42 0 [.ref a, .int x2] [] h (mm_bk (d + 1) 91 13 ls [] Q) := wp_virtual rfl rfl ⟨by decide, rfl⟩ ⟨Nat.le_of_ble_eq_true rfl, Nat.le_of_ble_eq_true rfl⟩ rfl rfl rfl rfl rfl rfl
theorem s91_16 : mm_wp d 91 16 [.ref a, l1, l2, l3, l4] st h Q ↔ mm_wp d 91 17 [.ref a, l1, l2, l3, l4] (.ref a :: st) h Q := wp_aloadR_n rfl rfl
theorem s91_17 : mm_wp d 91 17 ls (.ref a :: st) h Q ↔ (mm_s h a).1 = 9 ∧ mm_wp d 91 20 ls (mm_o (mm_r h a 2) :: st) h Q := wp_getR rfl rfl
theorem s91_20 : mm_wp d 91 20 ls (.ref a :: st) h Q ↔ (mm_s h a).1 = 8 ∧ mm_wp d 91 23 ls (mm_o (mm_r h a 3) :: st) h Q := wp_getR rfl rfl
theorem s91_23 : mm_wp d 91 23 [l0, .int x, l2, l3, l4] st h Q ↔ mm_wp d 91 24 [l0, .int x, l2, l3, l4] (.int x :: st) h Q := wp_iload_n rfl rfl
theorem s91_24 : mm_wp (d + 1) 91 24 ls [.int x2, .ref a] h Q ↔ (mm_s h a).1 = 7 ∧ mm_wp d 59 0 [.ref a, .int x2, mm_j] [] h (mm_bk (d + 1) 91 24 ls [] Q) := wp_virtual rfl rfl ⟨by decide, rfl⟩ ⟨Nat.le_of_ble_eq_true rfl, Nat.le_of_ble_eq_true rfl⟩ rfl rfl rfl rfl rfl rfl
theorem s91_27 : mm_wp d 91 27 [l0, l1, l2, l3, l4] (.ref a :: st) h Q ↔ mm_wp d 91 28 [l0, l1, l2, .ref a, l4] st h Q := wp_astoreR_n rfl rfl
theorem s91_27o : mm_wp d 91 27 [l0, l1, l2, l3, l4] (mm_o o :: st) h Q ↔ mm_wp d 91 28 [l0, l1, l2, mm_o o, l4] st h Q := wp_astore_n rfl o rfl
theorem s91_28 : mm_wp d 91 28 [.ref a, l1, l2, l3, l4] st h Q ↔ mm_wp d 91 29 [.ref a, l1, l2, l3, l4] (.ref a :: st) h Q := wp_aloadR_n rfl rfl
theorem s91_29 : mm_wp d 91 29 ls (.ref a :: st) h Q ↔ (mm_s h a).1 = 9 ∧ mm_wp d 91 32 ls (mm_o (mm_r h a 2) :: st) h Q := wp_getR rfl rfl
theorem s91_32 : mm_wp d 91 32 ls (.ref a :: st) h Q ↔ (mm_s h a).1 = 8 ∧ mm_wp d 91 35 ls (mm_o (mm_r h a 3) :: st) h Q := wp_getR rfl rfl
theorem s91_35 : mm_wp d 91 35 [l0, l1, .int x, l3, l4] st h Q ↔ mm_wp d 91 36 [l0, l1, .int x, l3, l4] (.int x :: st) h Q := wp_iload_n rfl rfl
theorem s91_36 : mm_wp (d + 1) 91 36 ls [.int x2, .ref a] h Q ↔ (mm_s h a).1 = 7 ∧ mm_wp d 59 0 [.ref a, .int x2, mm_j] [] h (mm_bk (d + 1) 91 36 ls [] Q) := wp_virtual rfl rfl ⟨by decide, rfl⟩ ⟨Nat.le_of_ble_eq_true rfl, Nat.le_of_ble_eq_true rfl⟩ rfl rfl rfl rfl rfl rfl
theorem s91_39 : mm_wp d 91 39 [l0, l1, l2, l3, l4] (.ref a :: st) h Q ↔ mm_wp d 91 41 [l0, l1, l2, l3, .ref a] st h Q := wp_astoreR rfl rfl
theorem s91_39o : mm_wp d 91 39 [l0, l1, l2, l3, l4] (mm_o o :: st) h Q ↔ mm_wp d 91 41 [l0, l1, l2, l3, mm_o o] st h Q := wp_astore rfl o rfl
theorem s91_41 : mm_wp d 91 41 [l0, l1, l2, .ref a, l4] st h Q ↔ mm_wp d 91 42 [l0, l1, l2, .ref a, l4] (.ref a :: st) h Q := wp_aloadR_n rfl rfl
theorem s91_41o : mm_wp d 91 41 [l0, l1, l2, mm_o o, l4] st h Q ↔ mm_wp d 91 42 [l0, l1, l2, mm_o o, l4] (mm_o o :: st) h Q := wp_aload_n rfl o rfl
theorem s91_42 : mm_wp d 91 42 ls (mm_o o :: st) h Q ↔ if o = none then mm_wp d 91 50 ls st h Q else mm_wp d 91 45 ls st h Q := wp_ifnull (off := 8) rfl rfl o
theorem s91_45 : mm_wp d 91 45 [l0, l1, l2, l3, .ref a] st h Q ↔ mm_wp d 91 47 [l0, l1, l2, l3, .ref a] (.ref a :: st) h Q := wp_aloadR rfl rfl
theorem s91_45o : mm_wp d 91 45 [l0, l1, l2, l3, mm_o o] st h Q ↔ mm_wp d 91 47 [l0, l1, l2, l3, mm_o o] (mm_o o :: st) h Q := wp_aload rfl o rfl
theorem s91_47 : mm_wp d 91 47 ls (mm_o o :: st) h Q ↔ if o = none then mm_wp d 91 50 ls st h Q else mm_wp d 91 54 ls st h Q := wp_ifnonnull (off := 7) rfl rfl o
theorem s91_50 : mm_wp d 91 50 ls st h Q ↔ mm_wp d 91 51 ls (.int (0 : Int32) :: st) h Q := wp_iconst rfl rfl
theorem s91_51 : mm_wp d 91 51 ls st h Q ↔ mm_wp d 91 60 ls st h Q := wp_goto rfl rfl
theorem s91_54 : mm_wp d 91 54 [l0, l1, l2, l3, .ref a] st h Q ↔ mm_wp d 91 56 [l0, l1, l2, l3, .ref a] (.ref a :: st) h Q := wp_aloadR rfl rfl
theorem s91_54o : mm_wp d 91 54 [l0, l1, l2, l3, mm_o o] st h Q ↔ mm_wp d 91 56 [l0, l1, l2, l3, mm_o o] (mm_o o :: st) h Q := wp_aload rfl o rfl
theorem s91_56 : mm_wp d 91 56 [l0, l1, l2, .ref a, l4] st h Q ↔ mm_wp d 91 57 [l0, l1, l2, .ref a, l4] (.ref a :: st) h Q := wp_aloadR_n rfl rfl
theorem s91_56o : mm_wp d 91 56 [l0, l1, l2, mm_o o, l4] st h Q ↔ mm_wp d 91 57 [l0, l1, l2, mm_o o, l4] (mm_o o :: st) h Q := wp_aload_n rfl o rfl
theorem s91_57 : mm_wp (d + 1) 91 57 ls [.ref b, .ref a] h Q ↔ (mm_s h a).1 = 6 ∧ mm_wp d 72 0 [.ref a, .ref b, mm_j, mm_j] [] h (mm_bk (d + 1) 91 57 ls [] Q) := wp_virtual rfl rfl ⟨by decide, rfl⟩ ⟨Nat.le_of_ble_eq_true rfl, Nat.le_of_ble_eq_true rfl⟩ rfl rfl rfl rfl rfl rfl
theorem s91_60 : mm_wp d 91 60 ls (.int x :: st) h Q ↔ Q (.inl (some (.int x))) h := wp_iret rfl rfl
/-! 92: LoadRoomLaw.axle(LLoadRoom;I[J)I -/
theorem s92_0 : mm_wp d 92 0 [l0, l1, .ref a, l3] st h Q ↔ mm_wp d 92 1 [l0, l1, .ref a, l3] (.ref a :: st) h Q := wp_aloadR_n rfl rfl
theorem s92_0o : mm_wp d 92 0 [l0, l1, mm_o o, l3] st h Q ↔ mm_wp d 92 1 [l0, l1, mm_o o, l3] (mm_o o :: st) h Q := wp_aload_n rfl o rfl
theorem s92_1 : mm_wp d 92 1 ls st h Q ↔ mm_wp d 92 2 ls (.int (0 : Int32) :: st) h Q := wp_iconst rfl rfl
theorem s92_2 : mm_wp d 92 2 [.ref a, l1, l2, l3] st h Q ↔ mm_wp d 92 3 [.ref a, l1, l2, l3] (.ref a :: st) h Q := wp_aloadR_n rfl rfl
theorem s92_2o : mm_wp d 92 2 [mm_o o, l1, l2, l3] st h Q ↔ mm_wp d 92 3 [mm_o o, l1, l2, l3] (mm_o o :: st) h Q := wp_aload_n rfl o rfl
theorem s92_3 : mm_wp d 92 3 [l0, .int x, l2, l3] st h Q ↔ mm_wp d 92 4 [l0, .int x, l2, l3] (.int x :: st) h Q := wp_iload_n rfl rfl
theorem s92_4 : mm_wp (d + 1) 92 4 ls [.int x2, .ref a, t1, t0] h Q ↔ (mm_s h a).1 = 9 ∧ mm_wp d 93 0 [.ref a, .int x2] [] h (mm_bk (d + 1) 92 4 ls [t1, t0] Q) := wp_virtual rfl rfl ⟨by decide, rfl⟩ ⟨Nat.le_of_ble_eq_true rfl, Nat.le_of_ble_eq_true rfl⟩ rfl rfl rfl rfl rfl rfl
theorem s92_7 : mm_wp d 92 7 ls (.int x :: st) h Q ↔ mm_wp d 92 8 ls (.long x.toInt64 :: st) h Q := wp_i2l rfl
theorem s92_8 : mm_wp d 92 8 ls (.long w :: .int x :: .ref a :: st) h Q ↔ ((mm_s h a).1 = 21 ∧ mm_in x (mm_s h a).2 = true) ∧ mm_wp d 92 9 ls st (mm_pl h a x.toNatClampNeg w) Q := wp_lastore rfl
theorem s92_9 : mm_wp d 92 9 ls st h Q ↔ mm_wp d 92 18 ls st h Q := wp_goto rfl rfl
theorem s92_12 : mm_wp d 92 12 [l0, l1, l2, l3] (.ref a :: st) h Q ↔ mm_wp d 92 13 [l0, l1, l2, .ref a] st h Q := wp_astoreR_n rfl rfl
theorem s92_12o : mm_wp d 92 12 [l0, l1, l2, l3] (mm_o o :: st) h Q ↔ mm_wp d 92 13 [l0, l1, l2, mm_o o] st h Q := wp_astore_n rfl o rfl
theorem s92_13 : mm_wp d 92 13 ls st h Q ↔ mm_wp d 92 14 ls (.int (1 : Int32) :: st) h Q := wp_iconst rfl rfl
theorem s92_14 : mm_wp d 92 14 ls (.int x :: st) h Q ↔ Q (.inl (some (.int x))) h := wp_iret rfl rfl
theorem s92_15 : mm_wp d 92 15 [l0, l1, l2, l3] (.ref a :: st) h Q ↔ mm_wp d 92 16 [l0, l1, l2, .ref a] st h Q := wp_astoreR_n rfl rfl
theorem s92_15o : mm_wp d 92 15 [l0, l1, l2, l3] (mm_o o :: st) h Q ↔ mm_wp d 92 16 [l0, l1, l2, mm_o o] st h Q := wp_astore_n rfl o rfl
theorem s92_16 : mm_wp d 92 16 ls st h Q ↔ mm_wp d 92 17 ls (.int (2 : Int32) :: st) h Q := wp_iconst rfl rfl
theorem s92_17 : mm_wp d 92 17 ls (.int x :: st) h Q ↔ Q (.inl (some (.int x))) h := wp_iret rfl rfl
theorem s92_18 : mm_wp d 92 18 ls st h Q ↔ mm_wp d 92 19 ls (.int (0 : Int32) :: st) h Q := wp_iconst rfl rfl
theorem s92_19 : mm_wp d 92 19 ls (.int x :: st) h Q ↔ Q (.inl (some (.int x))) h := wp_iret rfl rfl
/-! 93: LoadRoom.axle(I)I -/
theorem s93_0 : mm_wp d 93 0 [l0, .int x] st h Q ↔ mm_wp d 93 1 [l0, .int x] (.int x :: st) h Q := wp_iload_n rfl rfl
theorem s93_1 : mm_wp d 93 1 ls st h Q ↔ mm_wp d 93 2 ls (.int (0 : Int32) :: st) h Q := wp_iconst rfl rfl
theorem s93_2 : mm_wp d 93 2 ls st h Q ↔ mm_wp d 93 5 ls (.int (1000 : Int32) :: st) h Q := wp_sipush rfl rfl
theorem s93_5 : mm_wp (d + 1) 93 5 ls [.int x3, .int x2, .int x] h Q ↔ mm_wp d 25 0 [.int x, .int x2, .int x3] [] h (mm_bk (d + 1) 93 5 ls [] Q) := wp_static rfl rfl ⟨by decide, rfl⟩ ⟨Nat.le_of_ble_eq_true rfl, Nat.le_of_ble_eq_true rfl⟩ rfl rfl rfl rfl
theorem s93_8 : mm_wp d 93 8 ls (.int x :: st) h Q ↔ if x = 0 then mm_wp d 93 11 ls st h Q else mm_wp d 93 21 ls st h Q := wp_ifne rfl rfl
theorem s93_11 : mm_wp d 93 11 ls st h Q ↔ mm_wp d 93 14 ls (.ref (mm_n h) :: st) (mm_nw h 30 6 6) Q := wp_new rfl rfl rfl rfl
theorem s93_14 : mm_wp d 93 14 ls (.ref a :: st) h Q ↔ mm_wp d 93 15 ls (.ref a :: .ref a :: st) h Q := wp_dupR rfl
theorem s93_15 : mm_wp d 93 15 ls st h Q ↔ mm_wp d 93 17 ls (.float (UInt32.ofNat 9) :: st) h Q := wp_ldcS rfl rfl rfl
theorem s93_17 : mm_wp d 93 17 ls (.float q :: .ref a :: [t0]) h Q ↔ (mm_s h a).1 = 30 ∧ mm_wp d 93 20 ls [t0] h Q := wp_excInit (z := 1001) rfl rfl (Nat.le_of_ble_eq_true rfl) rfl (Nat.le_of_ble_eq_true rfl)
theorem s93_20 : mm_wp d 93 20 ls (.ref a :: st) h Q ↔ 30 ≤ (mm_s h a).1 ∧ Q (.inr a) h := wp_athrow rfl rfl
theorem s93_21 : mm_wp d 93 21 [l0, .int x] st h Q ↔ mm_wp d 93 22 [l0, .int x] (.int x :: st) h Q := wp_iload_n rfl rfl
theorem s93_22 : mm_wp d 93 22 [.ref a, l1] st h Q ↔ mm_wp d 93 23 [.ref a, l1] (.ref a :: st) h Q := wp_aloadR_n rfl rfl
theorem s93_23 : mm_wp d 93 23 ls (.ref a :: st) h Q ↔ (mm_s h a).1 = 9 ∧ mm_wp d 93 26 ls (mm_o (mm_r h a 3) :: st) h Q := wp_getR rfl rfl
theorem s93_26 : mm_wp (d + 1) 93 26 ls [.ref a, t0] h Q ↔ (mm_s h a).1 = 0 ∧ mm_wp d 94 0 [.ref a] [] h (mm_bk (d + 1) 93 26 ls [t0] Q) := wp_virtual rfl rfl ⟨by decide, rfl⟩ ⟨Nat.le_of_ble_eq_true rfl, Nat.le_of_ble_eq_true rfl⟩ rfl rfl rfl rfl rfl rfl
theorem s93_29 : mm_wp d 93 29 ls (.int x2 :: .int x :: st) h Q ↔ if x2 < x then mm_wp d 93 42 ls st h Q else mm_wp d 93 32 ls st h Q := wp_icmpgt rfl rfl
theorem s93_32 : mm_wp d 93 32 ls st h Q ↔ mm_wp d 93 35 ls (.ref (mm_n h) :: st) (mm_nw h 30 6 6) Q := wp_new rfl rfl rfl rfl
theorem s93_35 : mm_wp d 93 35 ls (.ref a :: st) h Q ↔ mm_wp d 93 36 ls (.ref a :: .ref a :: st) h Q := wp_dupR rfl
theorem s93_36 : mm_wp d 93 36 ls st h Q ↔ mm_wp d 93 38 ls (.float (UInt32.ofNat 10) :: st) h Q := wp_ldcS rfl rfl rfl
theorem s93_38 : mm_wp d 93 38 ls (.float q :: .ref a :: [t0]) h Q ↔ (mm_s h a).1 = 30 ∧ mm_wp d 93 41 ls [t0] h Q := wp_excInit (z := 1001) rfl rfl (Nat.le_of_ble_eq_true rfl) rfl (Nat.le_of_ble_eq_true rfl)
theorem s93_41 : mm_wp d 93 41 ls (.ref a :: st) h Q ↔ 30 ≤ (mm_s h a).1 ∧ Q (.inr a) h := wp_athrow rfl rfl
theorem s93_42 : mm_wp d 93 42 [.ref a, l1] st h Q ↔ mm_wp d 93 43 [.ref a, l1] (.ref a :: st) h Q := wp_aloadR_n rfl rfl
theorem s93_43 : mm_wp d 93 43 ls (.ref a :: st) h Q ↔ (mm_s h a).1 = 9 ∧ mm_wp d 93 46 ls (mm_o (mm_r h a 3) :: st) h Q := wp_getR rfl rfl
theorem s93_46 : mm_wp (d + 1) 93 46 ls [.ref a] h Q ↔ (mm_s h a).1 = 0 ∧ mm_wp d 95 0 [.ref a] [] h (mm_bk (d + 1) 93 46 ls [] Q) := wp_virtual rfl rfl ⟨by decide, rfl⟩ ⟨Nat.le_of_ble_eq_true rfl, Nat.le_of_ble_eq_true rfl⟩ rfl rfl rfl rfl rfl rfl
theorem s93_49 : mm_wp d 93 49 ls (.int x :: st) h Q ↔ if x = 0 then mm_wp d 93 62 ls st h Q else mm_wp d 93 52 ls st h Q := wp_ifeq rfl rfl
theorem s93_52 : mm_wp d 93 52 ls st h Q ↔ mm_wp d 93 55 ls (.ref (mm_n h) :: st) (mm_nw h 31 6 6) Q := wp_new rfl rfl rfl rfl
theorem s93_55 : mm_wp d 93 55 ls (.ref a :: st) h Q ↔ mm_wp d 93 56 ls (.ref a :: .ref a :: st) h Q := wp_dupR rfl
theorem s93_56 : mm_wp d 93 56 ls st h Q ↔ mm_wp d 93 58 ls (.float (UInt32.ofNat 11) :: st) h Q := wp_ldcS rfl rfl rfl
theorem s93_58 : mm_wp d 93 58 ls (.float q :: .ref a :: [t0]) h Q ↔ (mm_s h a).1 = 31 ∧ mm_wp d 93 61 ls [t0] h Q := wp_excInit (z := 1002) rfl rfl (Nat.le_of_ble_eq_true rfl) rfl (Nat.le_of_ble_eq_true rfl)
theorem s93_61 : mm_wp d 93 61 ls (.ref a :: st) h Q ↔ 30 ≤ (mm_s h a).1 ∧ Q (.inr a) h := wp_athrow rfl rfl
theorem s93_62 : mm_wp d 93 62 [.ref a, l1] st h Q ↔ mm_wp d 93 63 [.ref a, l1] (.ref a :: st) h Q := wp_aloadR_n rfl rfl
theorem s93_63 : mm_wp d 93 63 ls (.ref a :: st) h Q ↔ (mm_s h a).1 = 9 ∧ mm_wp d 93 66 ls (mm_o (mm_r h a 3) :: st) h Q := wp_getR rfl rfl
theorem s93_66 : mm_wp d 93 66 [l0, .int x] st h Q ↔ mm_wp d 93 67 [l0, .int x] (.int x :: st) h Q := wp_iload_n rfl rfl
theorem s93_67 : mm_wp (d + 1) 93 67 ls [.int x2, .ref a] h Q ↔ (mm_s h a).1 = 0 ∧ mm_wp d 96 0 [.ref a, .int x2] [] h (mm_bk (d + 1) 93 67 ls [] Q) := wp_virtual rfl rfl ⟨by decide, rfl⟩ ⟨Nat.le_of_ble_eq_true rfl, Nat.le_of_ble_eq_true rfl⟩ rfl rfl rfl rfl rfl rfl
theorem s93_70 : mm_wp d 93 70 ls (.int x :: st) h Q ↔ Q (.inl (some (.int x))) h := wp_iret rfl rfl
/-! 94: LoadRoom$Axles.lastPlace()I -/
theorem s94_0 : mm_wp d 94 0 [.ref a] st h Q ↔ mm_wp d 94 1 [.ref a] (.ref a :: st) h Q := wp_aloadR_n rfl rfl
theorem s94_1 : mm_wp d 94 1 ls (.ref a :: st) h Q ↔ (mm_s h a).1 = 0 ∧ mm_wp d 94 4 ls (.int (mm_i h a 1) :: st) h Q := wp_getI rfl rfl (by decide) (by decide)
theorem s94_4 : mm_wp d 94 4 ls (.int x :: st) h Q ↔ if x ≤ 0 then mm_wp d 94 21 ls st h Q else mm_wp d 94 7 ls st h Q := wp_ifle rfl rfl
theorem s94_7 : mm_wp d 94 7 [.ref a] st h Q ↔ mm_wp d 94 8 [.ref a] (.ref a :: st) h Q := wp_aloadR_n rfl rfl
theorem s94_8 : mm_wp d 94 8 ls (.ref a :: st) h Q ↔ (mm_s h a).1 = 0 ∧ mm_wp d 94 11 ls (mm_o (mm_r h a 0) :: st) h Q := wp_getR rfl rfl
theorem s94_11 : mm_wp d 94 11 [.ref a] st h Q ↔ mm_wp d 94 12 [.ref a] (.ref a :: st) h Q := wp_aloadR_n rfl rfl
theorem s94_12 : mm_wp d 94 12 ls (.ref a :: st) h Q ↔ (mm_s h a).1 = 0 ∧ mm_wp d 94 15 ls (.int (mm_i h a 1) :: st) h Q := wp_getI rfl rfl (by decide) (by decide)
theorem s94_15 : mm_wp d 94 15 ls st h Q ↔ mm_wp d 94 16 ls (.int (1 : Int32) :: st) h Q := wp_iconst rfl rfl
theorem s94_16 : mm_wp d 94 16 ls (.int x2 :: .int x :: st) h Q ↔ mm_wp d 94 17 ls (.int (x - x2) :: st) h Q := wp_isub rfl
theorem s94_17 : mm_wp d 94 17 ls (.int x :: .ref a :: st) h Q ↔ ((mm_s h a).1 = 20 ∧ mm_in x (mm_s h a).2 = true) ∧ mm_wp d 94 18 ls (.int (mm_i h a x.toNatClampNeg) :: st) h Q := wp_iaload rfl
theorem s94_18 : mm_wp d 94 18 ls st h Q ↔ mm_wp d 94 22 ls st h Q := wp_goto rfl rfl
theorem s94_21 : mm_wp d 94 21 ls st h Q ↔ mm_wp d 94 22 ls (.int (-1 : Int32) :: st) h Q := wp_iconst rfl rfl
theorem s94_22 : mm_wp d 94 22 ls (.int x :: st) h Q ↔ Q (.inl (some (.int x))) h := wp_iret rfl rfl
/-! 95: LoadRoom$Axles.isFull()Z -/
theorem s95_0 : mm_wp d 95 0 [.ref a] st h Q ↔ mm_wp d 95 1 [.ref a] (.ref a :: st) h Q := wp_aloadR_n rfl rfl
theorem s95_1 : mm_wp d 95 1 ls (.ref a :: st) h Q ↔ (mm_s h a).1 = 0 ∧ mm_wp d 95 4 ls (.int (mm_i h a 1) :: st) h Q := wp_getI rfl rfl (by decide) (by decide)
theorem s95_4 : mm_wp d 95 4 ls st h Q ↔ mm_wp d 95 6 ls (.int (6 : Int32) :: st) h Q := wp_bipush rfl rfl
theorem s95_6 : mm_wp d 95 6 ls (.int x2 :: .int x :: st) h Q ↔ if x < x2 then mm_wp d 95 13 ls st h Q else mm_wp d 95 9 ls st h Q := wp_icmplt rfl rfl
theorem s95_9 : mm_wp d 95 9 ls st h Q ↔ mm_wp d 95 10 ls (.int (1 : Int32) :: st) h Q := wp_iconst rfl rfl
theorem s95_10 : mm_wp d 95 10 ls st h Q ↔ mm_wp d 95 14 ls st h Q := wp_goto rfl rfl
theorem s95_13 : mm_wp d 95 13 ls st h Q ↔ mm_wp d 95 14 ls (.int (0 : Int32) :: st) h Q := wp_iconst rfl rfl
theorem s95_14 : mm_wp d 95 14 ls (.int x :: st) h Q ↔ (x = 0 ∨ x = 1) ∧ Q (.inl (some (.int x))) h := wp_zret rfl rfl
/-! 96: LoadRoom$Axles.add(I)I -/
theorem s96_0 : mm_wp d 96 0 [.ref a, l1] st h Q ↔ mm_wp d 96 1 [.ref a, l1] (.ref a :: st) h Q := wp_aloadR_n rfl rfl
theorem s96_1 : mm_wp (d + 1) 96 1 ls [.ref a] h Q ↔ (mm_s h a).1 = 0 ∧ mm_wp d 95 0 [.ref a] [] h (mm_bk (d + 1) 96 1 ls [] Q) := wp_virtual rfl rfl ⟨by decide, rfl⟩ ⟨Nat.le_of_ble_eq_true rfl, Nat.le_of_ble_eq_true rfl⟩ rfl rfl rfl rfl rfl rfl
theorem s96_4 : mm_wp d 96 4 ls (.int x :: st) h Q ↔ if x = 0 then mm_wp d 96 9 ls st h Q else mm_wp d 96 7 ls st h Q := wp_ifeq rfl rfl
theorem s96_7 : mm_wp d 96 7 ls st h Q ↔ mm_wp d 96 8 ls (.int (-1 : Int32) :: st) h Q := wp_iconst rfl rfl
theorem s96_8 : mm_wp d 96 8 ls (.int x :: st) h Q ↔ Q (.inl (some (.int x))) h := wp_iret rfl rfl
theorem s96_9 : mm_wp d 96 9 [.ref a, l1] st h Q ↔ mm_wp d 96 10 [.ref a, l1] (.ref a :: st) h Q := wp_aloadR_n rfl rfl
theorem s96_10 : mm_wp d 96 10 ls (.ref a :: st) h Q ↔ (mm_s h a).1 = 0 ∧ mm_wp d 96 13 ls (mm_o (mm_r h a 0) :: st) h Q := wp_getR rfl rfl
theorem s96_13 : mm_wp d 96 13 [.ref a, l1] st h Q ↔ mm_wp d 96 14 [.ref a, l1] (.ref a :: st) h Q := wp_aloadR_n rfl rfl
theorem s96_14 : mm_wp d 96 14 ls (.ref a :: st) h Q ↔ (mm_s h a).1 = 0 ∧ mm_wp d 96 17 ls (.int (mm_i h a 1) :: st) h Q := wp_getI rfl rfl (by decide) (by decide)
theorem s96_17 : mm_wp d 96 17 [l0, .int x] st h Q ↔ mm_wp d 96 18 [l0, .int x] (.int x :: st) h Q := wp_iload_n rfl rfl
theorem s96_18 : mm_wp d 96 18 ls (.int x2 :: .int x :: .ref a :: st) h Q ↔ ((mm_s h a).1 = 20 ∧ ¬ a = 0 ∧ mm_in x (mm_s h a).2 = true) ∧ mm_wp d 96 19 ls st (mm_pi h a x.toNatClampNeg x2) Q := wp_iastore rfl
theorem s96_19 : mm_wp d 96 19 [.ref a, l1] st h Q ↔ mm_wp d 96 20 [.ref a, l1] (.ref a :: st) h Q := wp_aloadR_n rfl rfl
theorem s96_20 : mm_wp d 96 20 ls (.ref a :: st) h Q ↔ mm_wp d 96 21 ls (.ref a :: .ref a :: st) h Q := wp_dupR rfl
theorem s96_21 : mm_wp d 96 21 ls (.ref a :: st) h Q ↔ (mm_s h a).1 = 0 ∧ mm_wp d 96 24 ls (.int (mm_i h a 1) :: st) h Q := wp_getI rfl rfl (by decide) (by decide)
theorem s96_24 : mm_wp d 96 24 ls st h Q ↔ mm_wp d 96 25 ls (.int (1 : Int32) :: st) h Q := wp_iconst rfl rfl
theorem s96_25 : mm_wp d 96 25 ls (.int x2 :: .int x :: st) h Q ↔ mm_wp d 96 26 ls (.int (x + x2) :: st) h Q := wp_iadd rfl
theorem s96_26 : mm_wp d 96 26 ls (.int x :: .ref a :: st) h Q ↔ (mm_s h a).1 = 0 ∧ mm_wp d 96 29 ls st (mm_pi h a 1 x) Q := wp_putI rfl rfl
theorem s96_29 : mm_wp d 96 29 [.ref a, l1] st h Q ↔ mm_wp d 96 30 [.ref a, l1] (.ref a :: st) h Q := wp_aloadR_n rfl rfl
theorem s96_30 : mm_wp d 96 30 ls (.ref a :: st) h Q ↔ (mm_s h a).1 = 0 ∧ mm_wp d 96 33 ls (.int (mm_i h a 1) :: st) h Q := wp_getI rfl rfl (by decide) (by decide)
theorem s96_33 : mm_wp d 96 33 ls st h Q ↔ mm_wp d 96 34 ls (.int (1 : Int32) :: st) h Q := wp_iconst rfl rfl
theorem s96_34 : mm_wp d 96 34 ls (.int x2 :: .int x :: st) h Q ↔ mm_wp d 96 35 ls (.int (x - x2) :: st) h Q := wp_isub rfl
theorem s96_35 : mm_wp d 96 35 ls (.int x :: st) h Q ↔ Q (.inl (some (.int x))) h := wp_iret rfl rfl
/-! 97: LoadRoomLaw.load(LLoadRoom;II[J)I -/
theorem s97_0 : mm_wp d 97 0 [l0, l1, l2, .ref a, l4] st h Q ↔ mm_wp d 97 1 [l0, l1, l2, .ref a, l4] (.ref a :: st) h Q := wp_aloadR_n rfl rfl
theorem s97_0o : mm_wp d 97 0 [l0, l1, l2, mm_o o, l4] st h Q ↔ mm_wp d 97 1 [l0, l1, l2, mm_o o, l4] (mm_o o :: st) h Q := wp_aload_n rfl o rfl
theorem s97_1 : mm_wp d 97 1 ls st h Q ↔ mm_wp d 97 2 ls (.int (0 : Int32) :: st) h Q := wp_iconst rfl rfl
theorem s97_2 : mm_wp d 97 2 [.ref a, l1, l2, l3, l4] st h Q ↔ mm_wp d 97 3 [.ref a, l1, l2, l3, l4] (.ref a :: st) h Q := wp_aloadR_n rfl rfl
theorem s97_2o : mm_wp d 97 2 [mm_o o, l1, l2, l3, l4] st h Q ↔ mm_wp d 97 3 [mm_o o, l1, l2, l3, l4] (mm_o o :: st) h Q := wp_aload_n rfl o rfl
theorem s97_3 : mm_wp d 97 3 [l0, .int x, l2, l3, l4] st h Q ↔ mm_wp d 97 4 [l0, .int x, l2, l3, l4] (.int x :: st) h Q := wp_iload_n rfl rfl
theorem s97_4 : mm_wp d 97 4 [l0, l1, .int x, l3, l4] st h Q ↔ mm_wp d 97 5 [l0, l1, .int x, l3, l4] (.int x :: st) h Q := wp_iload_n rfl rfl
theorem s97_5 : mm_wp (d + 1) 97 5 ls [.int x3, .int x2, .ref a, t1, t0] h Q ↔ (mm_s h a).1 = 9 ∧ mm_wp d 98 0 [.ref a, .int x2, .int x3] [] h (mm_bk (d + 1) 97 5 ls [t1, t0] Q) := wp_virtual rfl rfl ⟨by decide, rfl⟩ ⟨Nat.le_of_ble_eq_true rfl, Nat.le_of_ble_eq_true rfl⟩ rfl rfl rfl rfl rfl rfl
theorem s97_8 : mm_wp d 97 8 ls (.long w :: .int x :: .ref a :: st) h Q ↔ ((mm_s h a).1 = 21 ∧ mm_in x (mm_s h a).2 = true) ∧ mm_wp d 97 9 ls st (mm_pl h a x.toNatClampNeg w) Q := wp_lastore rfl
theorem s97_9 : mm_wp d 97 9 ls st h Q ↔ mm_wp d 97 24 ls st h Q := wp_goto rfl rfl
theorem s97_12 : mm_wp d 97 12 [l0, l1, l2, l3, l4] (.ref a :: st) h Q ↔ mm_wp d 97 14 [l0, l1, l2, l3, .ref a] st h Q := wp_astoreR rfl rfl
theorem s97_12o : mm_wp d 97 12 [l0, l1, l2, l3, l4] (mm_o o :: st) h Q ↔ mm_wp d 97 14 [l0, l1, l2, l3, mm_o o] st h Q := wp_astore rfl o rfl
theorem s97_14 : mm_wp d 97 14 ls st h Q ↔ mm_wp d 97 15 ls (.int (1 : Int32) :: st) h Q := wp_iconst rfl rfl
theorem s97_15 : mm_wp d 97 15 ls (.int x :: st) h Q ↔ Q (.inl (some (.int x))) h := wp_iret rfl rfl
theorem s97_16 : mm_wp d 97 16 [l0, l1, l2, l3, l4] (.ref a :: st) h Q ↔ mm_wp d 97 18 [l0, l1, l2, l3, .ref a] st h Q := wp_astoreR rfl rfl
theorem s97_16o : mm_wp d 97 16 [l0, l1, l2, l3, l4] (mm_o o :: st) h Q ↔ mm_wp d 97 18 [l0, l1, l2, l3, mm_o o] st h Q := wp_astore rfl o rfl
theorem s97_18 : mm_wp d 97 18 ls st h Q ↔ mm_wp d 97 19 ls (.int (2 : Int32) :: st) h Q := wp_iconst rfl rfl
theorem s97_19 : mm_wp d 97 19 ls (.int x :: st) h Q ↔ Q (.inl (some (.int x))) h := wp_iret rfl rfl
theorem s97_20 : mm_wp d 97 20 [l0, l1, l2, l3, l4] (.ref a :: st) h Q ↔ mm_wp d 97 22 [l0, l1, l2, l3, .ref a] st h Q := wp_astoreR rfl rfl
theorem s97_20o : mm_wp d 97 20 [l0, l1, l2, l3, l4] (mm_o o :: st) h Q ↔ mm_wp d 97 22 [l0, l1, l2, l3, mm_o o] st h Q := wp_astore rfl o rfl
theorem s97_22 : mm_wp d 97 22 ls st h Q ↔ mm_wp d 97 23 ls (.int (3 : Int32) :: st) h Q := wp_iconst rfl rfl
theorem s97_23 : mm_wp d 97 23 ls (.int x :: st) h Q ↔ Q (.inl (some (.int x))) h := wp_iret rfl rfl
theorem s97_24 : mm_wp d 97 24 ls st h Q ↔ mm_wp d 97 25 ls (.int (0 : Int32) :: st) h Q := wp_iconst rfl rfl
theorem s97_25 : mm_wp d 97 25 ls (.int x :: st) h Q ↔ Q (.inl (some (.int x))) h := wp_iret rfl rfl
/-! 98: LoadRoom.load(II)J -/
theorem s98_0 : mm_wp d 98 0 [.ref a, l1, l2] st h Q ↔ mm_wp d 98 1 [.ref a, l1, l2] (.ref a :: st) h Q := wp_aloadR_n rfl rfl
theorem s98_1 : mm_wp d 98 1 ls (.ref a :: st) h Q ↔ (mm_s h a).1 = 9 ∧ mm_wp d 98 4 ls (mm_o (mm_r h a 3) :: st) h Q := wp_getR rfl rfl
theorem s98_4 : mm_wp d 98 4 ls (.ref a :: st) h Q ↔ (mm_s h a).1 = 0 ∧ mm_wp d 98 7 ls (.int (mm_i h a 1) :: st) h Q := wp_getI rfl rfl (by decide) (by decide)
theorem s98_7 : mm_wp d 98 7 ls (.int x :: st) h Q ↔ if x = 0 then mm_wp d 98 10 ls st h Q else mm_wp d 98 20 ls st h Q := wp_ifne rfl rfl
theorem s98_10 : mm_wp d 98 10 ls st h Q ↔ mm_wp d 98 13 ls (.ref (mm_n h) :: st) (mm_nw h 33 6 6) Q := wp_new rfl rfl rfl rfl
theorem s98_13 : mm_wp d 98 13 ls (.ref a :: st) h Q ↔ mm_wp d 98 14 ls (.ref a :: .ref a :: st) h Q := wp_dupR rfl
theorem s98_14 : mm_wp d 98 14 ls st h Q ↔ mm_wp d 98 16 ls (.float (UInt32.ofNat 12) :: st) h Q := wp_ldcS rfl rfl rfl
theorem s98_16 : mm_wp d 98 16 ls (.float q :: .ref a :: [t0]) h Q ↔ (mm_s h a).1 = 33 ∧ mm_wp d 98 19 ls [t0] h Q := wp_excInit (z := 1004) rfl rfl (Nat.le_of_ble_eq_true rfl) rfl (Nat.le_of_ble_eq_true rfl)
theorem s98_19 : mm_wp d 98 19 ls (.ref a :: st) h Q ↔ 30 ≤ (mm_s h a).1 ∧ Q (.inr a) h := wp_athrow rfl rfl
theorem s98_20 : mm_wp d 98 20 [.ref a, l1, l2] st h Q ↔ mm_wp d 98 21 [.ref a, l1, l2] (.ref a :: st) h Q := wp_aloadR_n rfl rfl
theorem s98_21 : mm_wp d 98 21 ls (.ref a :: st) h Q ↔ (mm_s h a).1 = 9 ∧ mm_wp d 98 24 ls (mm_o (mm_r h a 3) :: st) h Q := wp_getR rfl rfl
theorem s98_24 : mm_wp d 98 24 [l0, .int x, l2] st h Q ↔ mm_wp d 98 25 [l0, .int x, l2] (.int x :: st) h Q := wp_iload_n rfl rfl
theorem s98_25 : mm_wp (d + 1) 98 25 ls [.int x2, .ref a] h Q ↔ (mm_s h a).1 = 0 ∧ mm_wp d 99 0 [.ref a, .int x2] [] h (mm_bk (d + 1) 98 25 ls [] Q) := wp_virtual rfl rfl ⟨by decide, rfl⟩ ⟨Nat.le_of_ble_eq_true rfl, Nat.le_of_ble_eq_true rfl⟩ rfl rfl rfl rfl rfl rfl
theorem s98_28 : mm_wp d 98 28 ls (.int x :: st) h Q ↔ if x = 0 then mm_wp d 98 31 ls st h Q else mm_wp d 98 41 ls st h Q := wp_ifne rfl rfl
theorem s98_31 : mm_wp d 98 31 ls st h Q ↔ mm_wp d 98 34 ls (.ref (mm_n h) :: st) (mm_nw h 32 6 6) Q := wp_new rfl rfl rfl rfl
theorem s98_34 : mm_wp d 98 34 ls (.ref a :: st) h Q ↔ mm_wp d 98 35 ls (.ref a :: .ref a :: st) h Q := wp_dupR rfl
theorem s98_35 : mm_wp d 98 35 ls st h Q ↔ mm_wp d 98 37 ls (.float (UInt32.ofNat 13) :: st) h Q := wp_ldcS rfl rfl rfl
theorem s98_37 : mm_wp d 98 37 ls (.float q :: .ref a :: [t0]) h Q ↔ (mm_s h a).1 = 32 ∧ mm_wp d 98 40 ls [t0] h Q := wp_excInit (z := 1003) rfl rfl (Nat.le_of_ble_eq_true rfl) rfl (Nat.le_of_ble_eq_true rfl)
theorem s98_40 : mm_wp d 98 40 ls (.ref a :: st) h Q ↔ 30 ≤ (mm_s h a).1 ∧ Q (.inr a) h := wp_athrow rfl rfl
theorem s98_41 : mm_wp d 98 41 [l0, l1, .int x] st h Q ↔ mm_wp d 98 42 [l0, l1, .int x] (.int x :: st) h Q := wp_iload_n rfl rfl
theorem s98_42 : mm_wp d 98 42 ls st h Q ↔ mm_wp d 98 43 ls (.int (0 : Int32) :: st) h Q := wp_iconst rfl rfl
theorem s98_43 : mm_wp d 98 43 ls st h Q ↔ mm_wp d 98 44 ls (.int (1 : Int32) :: st) h Q := wp_iconst rfl rfl
theorem s98_44 : mm_wp (d + 1) 98 44 ls [.int x3, .int x2, .int x] h Q ↔ mm_wp d 25 0 [.int x, .int x2, .int x3] [] h (mm_bk (d + 1) 98 44 ls [] Q) := wp_static rfl rfl ⟨by decide, rfl⟩ ⟨Nat.le_of_ble_eq_true rfl, Nat.le_of_ble_eq_true rfl⟩ rfl rfl rfl rfl
theorem s98_47 : mm_wp d 98 47 ls (.int x :: st) h Q ↔ if x = 0 then mm_wp d 98 50 ls st h Q else mm_wp d 98 60 ls st h Q := wp_ifne rfl rfl
theorem s98_50 : mm_wp d 98 50 ls st h Q ↔ mm_wp d 98 53 ls (.ref (mm_n h) :: st) (mm_nw h 30 6 6) Q := wp_new rfl rfl rfl rfl
theorem s98_53 : mm_wp d 98 53 ls (.ref a :: st) h Q ↔ mm_wp d 98 54 ls (.ref a :: .ref a :: st) h Q := wp_dupR rfl
theorem s98_54 : mm_wp d 98 54 ls st h Q ↔ mm_wp d 98 56 ls (.float (UInt32.ofNat 14) :: st) h Q := wp_ldcS rfl rfl rfl
theorem s98_56 : mm_wp d 98 56 ls (.float q :: .ref a :: [t0]) h Q ↔ (mm_s h a).1 = 30 ∧ mm_wp d 98 59 ls [t0] h Q := wp_excInit (z := 1001) rfl rfl (Nat.le_of_ble_eq_true rfl) rfl (Nat.le_of_ble_eq_true rfl)
theorem s98_59 : mm_wp d 98 59 ls (.ref a :: st) h Q ↔ 30 ≤ (mm_s h a).1 ∧ Q (.inr a) h := wp_athrow rfl rfl
theorem s98_60 : mm_wp d 98 60 [.ref a, l1, l2] st h Q ↔ mm_wp d 98 61 [.ref a, l1, l2] (.ref a :: st) h Q := wp_aloadR_n rfl rfl
theorem s98_61 : mm_wp d 98 61 ls (.ref a :: st) h Q ↔ (mm_s h a).1 = 9 ∧ mm_wp d 98 64 ls (mm_o (mm_r h a 3) :: st) h Q := wp_getR rfl rfl
theorem s98_64 : mm_wp d 98 64 [l0, .int x, l2] st h Q ↔ mm_wp d 98 65 [l0, .int x, l2] (.int x :: st) h Q := wp_iload_n rfl rfl
theorem s98_65 : mm_wp d 98 65 [l0, l1, .int x] st h Q ↔ mm_wp d 98 66 [l0, l1, .int x] (.int x :: st) h Q := wp_iload_n rfl rfl
theorem s98_66 : mm_wp d 98 66 [.ref a, l1, l2] st h Q ↔ mm_wp d 98 67 [.ref a, l1, l2] (.ref a :: st) h Q := wp_aloadR_n rfl rfl
theorem s98_67 : mm_wp d 98 67 ls (.ref a :: st) h Q ↔ (mm_s h a).1 = 9 ∧ mm_wp d 98 70 ls (mm_o (mm_r h a 2) :: st) h Q := wp_getR rfl rfl
theorem s98_70 : mm_wp d 98 70 ls (.ref a :: st) h Q ↔ (mm_s h a).1 = 8 ∧ mm_wp d 98 73 ls (mm_o (mm_r h a 3) :: st) h Q := wp_getR rfl rfl
theorem s98_73 : mm_wp (d + 1) 98 73 ls [.ref b, .int x3, .int x2, .ref a] h Q ↔ (mm_s h a).1 = 0 ∧ mm_wp d 100 0 [.ref a, .int x2, .int x3, .ref b, mm_j, mm_j, mm_j, mm_j, mm_j, mm_j] [] h (mm_bk (d + 1) 98 73 ls [] Q) := wp_virtual rfl rfl ⟨by decide, rfl⟩ ⟨Nat.le_of_ble_eq_true rfl, Nat.le_of_ble_eq_true rfl⟩ rfl rfl rfl rfl rfl rfl
theorem s98_76 : mm_wp d 98 76 ls (.long w :: st) h Q ↔ Q (.inl (some (.long w))) h := wp_lret rfl rfl
/-! 99: LoadRoom$Axles.has(I)Z -/
theorem s99_0 : mm_wp d 99 0 [l0, .int x] st h Q ↔ mm_wp d 99 1 [l0, .int x] (.int x :: st) h Q := wp_iload_n rfl rfl
theorem s99_1 : mm_wp d 99 1 ls (.int x :: st) h Q ↔ if x < 0 then mm_wp d 99 16 ls st h Q else mm_wp d 99 4 ls st h Q := wp_iflt rfl rfl
theorem s99_4 : mm_wp d 99 4 [l0, .int x] st h Q ↔ mm_wp d 99 5 [l0, .int x] (.int x :: st) h Q := wp_iload_n rfl rfl
theorem s99_5 : mm_wp d 99 5 [.ref a, l1] st h Q ↔ mm_wp d 99 6 [.ref a, l1] (.ref a :: st) h Q := wp_aloadR_n rfl rfl
theorem s99_6 : mm_wp d 99 6 ls (.ref a :: st) h Q ↔ (mm_s h a).1 = 0 ∧ mm_wp d 99 9 ls (.int (mm_i h a 1) :: st) h Q := wp_getI rfl rfl (by decide) (by decide)
theorem s99_9 : mm_wp d 99 9 ls (.int x2 :: .int x :: st) h Q ↔ if x2 ≤ x then mm_wp d 99 16 ls st h Q else mm_wp d 99 12 ls st h Q := wp_icmpge rfl rfl
theorem s99_12 : mm_wp d 99 12 ls st h Q ↔ mm_wp d 99 13 ls (.int (1 : Int32) :: st) h Q := wp_iconst rfl rfl
theorem s99_13 : mm_wp d 99 13 ls st h Q ↔ mm_wp d 99 17 ls st h Q := wp_goto rfl rfl
theorem s99_16 : mm_wp d 99 16 ls st h Q ↔ mm_wp d 99 17 ls (.int (0 : Int32) :: st) h Q := wp_iconst rfl rfl
theorem s99_17 : mm_wp d 99 17 ls (.int x :: st) h Q ↔ (x = 0 ∨ x = 1) ∧ Q (.inl (some (.int x))) h := wp_zret rfl rfl
/-! 100: LoadRoom$Axles.share(IILLoadRoom$Row;)J -/
theorem s100_0 : mm_wp d 100 0 [.ref a, l1, l2, l3, l4, l5, l6, l7, l8, l9] st h Q ↔ mm_wp d 100 1 [.ref a, l1, l2, l3, l4, l5, l6, l7, l8, l9] (.ref a :: st) h Q := wp_aloadR_n rfl rfl
theorem s100_1 : mm_wp d 100 1 [l0, .int x, l2, l3, l4, l5, l6, l7, l8, l9] st h Q ↔ mm_wp d 100 2 [l0, .int x, l2, l3, l4, l5, l6, l7, l8, l9] (.int x :: st) h Q := wp_iload_n rfl rfl
theorem s100_2 : mm_wp d 100 2 ls st h Q ↔ mm_wp d 100 3 ls (.int (1 : Int32) :: st) h Q := wp_iconst rfl rfl
theorem s100_3 : mm_wp d 100 3 ls (.int x2 :: .int x :: st) h Q ↔ mm_wp d 100 4 ls (.int (x - x2) :: st) h Q := wp_isub rfl
theorem s100_4 : mm_wp (d + 1) 100 4 ls [.int x2, .ref a] h Q ↔ (mm_s h a).1 = 0 ∧ mm_wp d 101 0 [.ref a, .int x2] [] h (mm_bk (d + 1) 100 4 ls [] Q) := wp_virtual rfl rfl ⟨by decide, rfl⟩ ⟨Nat.le_of_ble_eq_true rfl, Nat.le_of_ble_eq_true rfl⟩ rfl rfl rfl rfl rfl rfl
theorem s100_7 : mm_wp d 100 7 ls (.int x :: st) h Q ↔ mm_wp d 100 8 ls (.long x.toInt64 :: st) h Q := wp_i2l rfl
theorem s100_8 : mm_wp d 100 8 [l0, l1, l2, l3, l4, l5, l6, l7, l8, l9] (.long w :: st) h Q ↔ mm_wp d 100 10 [l0, l1, l2, l3, .long w, mm_j, l6, l7, l8, l9] st h Q := wp_lstore rfl rfl
theorem s100_10 : mm_wp d 100 10 [.ref a, l1, l2, l3, l4, l5, l6, l7, l8, l9] st h Q ↔ mm_wp d 100 11 [.ref a, l1, l2, l3, l4, l5, l6, l7, l8, l9] (.ref a :: st) h Q := wp_aloadR_n rfl rfl
theorem s100_11 : mm_wp d 100 11 [l0, .int x, l2, l3, l4, l5, l6, l7, l8, l9] st h Q ↔ mm_wp d 100 12 [l0, .int x, l2, l3, l4, l5, l6, l7, l8, l9] (.int x :: st) h Q := wp_iload_n rfl rfl
theorem s100_12 : mm_wp (d + 1) 100 12 ls [.int x2, .ref a] h Q ↔ (mm_s h a).1 = 0 ∧ mm_wp d 101 0 [.ref a, .int x2] [] h (mm_bk (d + 1) 100 12 ls [] Q) := wp_virtual rfl rfl ⟨by decide, rfl⟩ ⟨Nat.le_of_ble_eq_true rfl, Nat.le_of_ble_eq_true rfl⟩ rfl rfl rfl rfl rfl rfl
theorem s100_15 : mm_wp d 100 15 ls (.int x :: st) h Q ↔ mm_wp d 100 16 ls (.long x.toInt64 :: st) h Q := wp_i2l rfl
theorem s100_16 : mm_wp d 100 16 [l0, l1, l2, l3, l4, l5, l6, l7, l8, l9] (.long w :: st) h Q ↔ mm_wp d 100 18 [l0, l1, l2, l3, l4, l5, .long w, mm_j, l8, l9] st h Q := wp_lstore rfl rfl
theorem s100_18 : mm_wp d 100 18 [.ref a, l1, l2, l3, l4, l5, l6, l7, l8, l9] st h Q ↔ mm_wp d 100 19 [.ref a, l1, l2, l3, l4, l5, l6, l7, l8, l9] (.ref a :: st) h Q := wp_aloadR_n rfl rfl
theorem s100_19 : mm_wp d 100 19 [l0, .int x, l2, l3, l4, l5, l6, l7, l8, l9] st h Q ↔ mm_wp d 100 20 [l0, .int x, l2, l3, l4, l5, l6, l7, l8, l9] (.int x :: st) h Q := wp_iload_n rfl rfl
theorem s100_20 : mm_wp d 100 20 [l0, l1, l2, .ref a, l4, l5, l6, l7, l8, l9] st h Q ↔ mm_wp d 100 21 [l0, l1, l2, .ref a, l4, l5, l6, l7, l8, l9] (.ref a :: st) h Q := wp_aloadR_n rfl rfl
theorem s100_20o : mm_wp d 100 20 [l0, l1, l2, mm_o o, l4, l5, l6, l7, l8, l9] st h Q ↔ mm_wp d 100 21 [l0, l1, l2, mm_o o, l4, l5, l6, l7, l8, l9] (mm_o o :: st) h Q := wp_aload_n rfl o rfl
theorem s100_21 : mm_wp (d + 1) 100 21 ls [.ref b, .int x2, .ref a] h Q ↔ (mm_s h a).1 = 0 ∧ mm_wp d 102 0 [.ref a, .int x2, .ref b, mm_j, mm_j, mm_j, mm_j, mm_j] [] h (mm_bk (d + 1) 100 21 ls [] Q) := wp_virtual rfl rfl ⟨by decide, rfl⟩ ⟨Nat.le_of_ble_eq_true rfl, Nat.le_of_ble_eq_true rfl⟩ rfl rfl rfl rfl rfl rfl
theorem s100_24 : mm_wp d 100 24 [l0, l1, l2, l3, l4, l5, .long w, l7, l8, l9] st h Q ↔ mm_wp d 100 26 [l0, l1, l2, l3, l4, l5, .long w, l7, l8, l9] (.long w :: st) h Q := wp_lload rfl rfl
theorem s100_26 : mm_wp d 100 26 ls (.long w2 :: .long w :: st) h Q ↔ mm_wp d 100 27 ls (.long (w * w2) :: st) h Q := wp_lmul rfl
theorem s100_27 : mm_wp d 100 27 [.ref a, l1, l2, l3, l4, l5, l6, l7, l8, l9] st h Q ↔ mm_wp d 100 28 [.ref a, l1, l2, l3, l4, l5, l6, l7, l8, l9] (.ref a :: st) h Q := wp_aloadR_n rfl rfl
theorem s100_28 : mm_wp d 100 28 [l0, .int x, l2, l3, l4, l5, l6, l7, l8, l9] st h Q ↔ mm_wp d 100 29 [l0, .int x, l2, l3, l4, l5, l6, l7, l8, l9] (.int x :: st) h Q := wp_iload_n rfl rfl
theorem s100_29 : mm_wp d 100 29 [l0, l1, l2, .ref a, l4, l5, l6, l7, l8, l9] st h Q ↔ mm_wp d 100 30 [l0, l1, l2, .ref a, l4, l5, l6, l7, l8, l9] (.ref a :: st) h Q := wp_aloadR_n rfl rfl
theorem s100_29o : mm_wp d 100 29 [l0, l1, l2, mm_o o, l4, l5, l6, l7, l8, l9] st h Q ↔ mm_wp d 100 30 [l0, l1, l2, mm_o o, l4, l5, l6, l7, l8, l9] (mm_o o :: st) h Q := wp_aload_n rfl o rfl
theorem s100_30 : mm_wp (d + 1) 100 30 ls [.ref b, .int x2, .ref a, t0] h Q ↔ (mm_s h a).1 = 0 ∧ mm_wp d 104 0 [.ref a, .int x2, .ref b, mm_j, mm_j, mm_j, mm_j, mm_j] [] h (mm_bk (d + 1) 100 30 ls [t0] Q) := wp_virtual rfl rfl ⟨by decide, rfl⟩ ⟨Nat.le_of_ble_eq_true rfl, Nat.le_of_ble_eq_true rfl⟩ rfl rfl rfl rfl rfl rfl
theorem s100_33 : mm_wp d 100 33 [l0, l1, l2, l3, .long w, l5, l6, l7, l8, l9] st h Q ↔ mm_wp d 100 35 [l0, l1, l2, l3, .long w, l5, l6, l7, l8, l9] (.long w :: st) h Q := wp_lload rfl rfl
theorem s100_35 : mm_wp d 100 35 ls (.long w2 :: .long w :: st) h Q ↔ mm_wp d 100 36 ls (.long (w * w2) :: st) h Q := wp_lmul rfl
theorem s100_36 : mm_wp d 100 36 ls (.long w2 :: .long w :: st) h Q ↔ mm_wp d 100 37 ls (.long (w + w2) :: st) h Q := wp_ladd rfl
theorem s100_37 : mm_wp d 100 37 [l0, l1, l2, l3, l4, l5, l6, l7, l8, l9] (.long w :: st) h Q ↔ mm_wp d 100 39 [l0, l1, l2, l3, l4, l5, l6, l7, .long w, mm_j] st h Q := wp_lstore rfl rfl
theorem s100_39 : mm_wp d 100 39 [l0, l1, l2, l3, l4, l5, l6, l7, .long w, l9] st h Q ↔ mm_wp d 100 41 [l0, l1, l2, l3, l4, l5, l6, l7, .long w, l9] (.long w :: st) h Q := wp_lload rfl rfl
theorem s100_41 : mm_wp d 100 41 [l0, l1, l2, l3, .long w, l5, l6, l7, l8, l9] st h Q ↔ mm_wp d 100 43 [l0, l1, l2, l3, .long w, l5, l6, l7, l8, l9] (.long w :: st) h Q := wp_lload rfl rfl
theorem s100_43 : mm_wp d 100 43 [l0, l1, l2, l3, l4, l5, .long w, l7, l8, l9] st h Q ↔ mm_wp d 100 45 [l0, l1, l2, l3, l4, l5, .long w, l7, l8, l9] (.long w :: st) h Q := wp_lload rfl rfl
theorem s100_45 : mm_wp d 100 45 ls (.long w2 :: .long w :: st) h Q ↔ mm_wp d 100 46 ls (.long (w * w2) :: st) h Q := wp_lmul rfl
theorem s100_46 : mm_wp d 100 46 [l0, l1, .int x, l3, l4, l5, l6, l7, l8, l9] st h Q ↔ mm_wp d 100 47 [l0, l1, .int x, l3, l4, l5, l6, l7, l8, l9] (.int x :: st) h Q := wp_iload_n rfl rfl
theorem s100_47 : mm_wp (d + 1) 100 47 ls [.int x3, .long w2, .long w] h Q ↔ mm_wp d 105 0 [.long w, mm_j, .long w2, mm_j, .int x3, mm_j, mm_j, mm_j, mm_j] [] h (mm_bk (d + 1) 100 47 ls [] Q) := wp_static rfl rfl ⟨by decide, rfl⟩ ⟨Nat.le_of_ble_eq_true rfl, Nat.le_of_ble_eq_true rfl⟩ rfl rfl rfl rfl
theorem s100_50 : mm_wp d 100 50 ls (.long w :: st) h Q ↔ Q (.inl (some (.long w))) h := wp_lret rfl rfl
/-! 101: LoadRoom$Axles.gap(I)I -/
theorem s101_0 : mm_wp d 101 0 [.ref a, l1] st h Q ↔ mm_wp d 101 1 [.ref a, l1] (.ref a :: st) h Q := wp_aloadR_n rfl rfl
theorem s101_1 : mm_wp d 101 1 [l0, .int x] st h Q ↔ mm_wp d 101 2 [l0, .int x] (.int x :: st) h Q := wp_iload_n rfl rfl
theorem s101_2 : mm_wp (d + 1) 101 2 ls [.int x2, .ref a] h Q ↔ (mm_s h a).1 = 0 ∧ mm_wp d 99 0 [.ref a, .int x2] [] h (mm_bk (d + 1) 101 2 ls [] Q) := wp_virtual rfl rfl ⟨by decide, rfl⟩ ⟨Nat.le_of_ble_eq_true rfl, Nat.le_of_ble_eq_true rfl⟩ rfl rfl rfl rfl rfl rfl
theorem s101_5 : mm_wp d 101 5 ls (.int x :: st) h Q ↔ if x = 0 then mm_wp d 101 38 ls st h Q else mm_wp d 101 8 ls st h Q := wp_ifeq rfl rfl
theorem s101_8 : mm_wp d 101 8 [.ref a, l1] st h Q ↔ mm_wp d 101 9 [.ref a, l1] (.ref a :: st) h Q := wp_aloadR_n rfl rfl
theorem s101_9 : mm_wp d 101 9 [l0, .int x] st h Q ↔ mm_wp d 101 10 [l0, .int x] (.int x :: st) h Q := wp_iload_n rfl rfl
theorem s101_10 : mm_wp d 101 10 ls st h Q ↔ mm_wp d 101 11 ls (.int (1 : Int32) :: st) h Q := wp_iconst rfl rfl
theorem s101_11 : mm_wp d 101 11 ls (.int x2 :: .int x :: st) h Q ↔ mm_wp d 101 12 ls (.int (x + x2) :: st) h Q := wp_iadd rfl
theorem s101_12 : mm_wp (d + 1) 101 12 ls [.int x2, .ref a] h Q ↔ (mm_s h a).1 = 0 ∧ mm_wp d 99 0 [.ref a, .int x2] [] h (mm_bk (d + 1) 101 12 ls [] Q) := wp_virtual rfl rfl ⟨by decide, rfl⟩ ⟨Nat.le_of_ble_eq_true rfl, Nat.le_of_ble_eq_true rfl⟩ rfl rfl rfl rfl rfl rfl
theorem s101_15 : mm_wp d 101 15 ls (.int x :: st) h Q ↔ if x = 0 then mm_wp d 101 38 ls st h Q else mm_wp d 101 18 ls st h Q := wp_ifeq rfl rfl
theorem s101_18 : mm_wp d 101 18 ls st h Q ↔ mm_wp d 101 19 ls (.int (2 : Int32) :: st) h Q := wp_iconst rfl rfl
theorem s101_19 : mm_wp d 101 19 [.ref a, l1] st h Q ↔ mm_wp d 101 20 [.ref a, l1] (.ref a :: st) h Q := wp_aloadR_n rfl rfl
theorem s101_20 : mm_wp d 101 20 ls (.ref a :: st) h Q ↔ (mm_s h a).1 = 0 ∧ mm_wp d 101 23 ls (mm_o (mm_r h a 0) :: st) h Q := wp_getR rfl rfl
theorem s101_23 : mm_wp d 101 23 [l0, .int x] st h Q ↔ mm_wp d 101 24 [l0, .int x] (.int x :: st) h Q := wp_iload_n rfl rfl
theorem s101_24 : mm_wp d 101 24 ls st h Q ↔ mm_wp d 101 25 ls (.int (1 : Int32) :: st) h Q := wp_iconst rfl rfl
theorem s101_25 : mm_wp d 101 25 ls (.int x2 :: .int x :: st) h Q ↔ mm_wp d 101 26 ls (.int (x + x2) :: st) h Q := wp_iadd rfl
theorem s101_26 : mm_wp d 101 26 ls (.int x :: .ref a :: st) h Q ↔ ((mm_s h a).1 = 20 ∧ mm_in x (mm_s h a).2 = true) ∧ mm_wp d 101 27 ls (.int (mm_i h a x.toNatClampNeg) :: st) h Q := wp_iaload rfl
theorem s101_27 : mm_wp d 101 27 [.ref a, l1] st h Q ↔ mm_wp d 101 28 [.ref a, l1] (.ref a :: st) h Q := wp_aloadR_n rfl rfl
theorem s101_28 : mm_wp d 101 28 ls (.ref a :: st) h Q ↔ (mm_s h a).1 = 0 ∧ mm_wp d 101 31 ls (mm_o (mm_r h a 0) :: st) h Q := wp_getR rfl rfl
theorem s101_31 : mm_wp d 101 31 [l0, .int x] st h Q ↔ mm_wp d 101 32 [l0, .int x] (.int x :: st) h Q := wp_iload_n rfl rfl
theorem s101_32 : mm_wp d 101 32 ls (.int x :: .ref a :: st) h Q ↔ ((mm_s h a).1 = 20 ∧ mm_in x (mm_s h a).2 = true) ∧ mm_wp d 101 33 ls (.int (mm_i h a x.toNatClampNeg) :: st) h Q := wp_iaload rfl
theorem s101_33 : mm_wp d 101 33 ls (.int x2 :: .int x :: st) h Q ↔ mm_wp d 101 34 ls (.int (x - x2) :: st) h Q := wp_isub rfl
theorem s101_34 : mm_wp d 101 34 ls (.int x2 :: .int x :: st) h Q ↔ mm_wp d 101 35 ls (.int (x * x2) :: st) h Q := wp_imul rfl
theorem s101_35 : mm_wp d 101 35 ls st h Q ↔ mm_wp d 101 39 ls st h Q := wp_goto rfl rfl
theorem s101_38 : mm_wp d 101 38 ls st h Q ↔ mm_wp d 101 39 ls (.int (1 : Int32) :: st) h Q := wp_iconst rfl rfl
theorem s101_39 : mm_wp d 101 39 ls (.int x :: st) h Q ↔ Q (.inl (some (.int x))) h := wp_iret rfl rfl
/-! 102: LoadRoom$Axles.sumFromBefore(ILLoadRoom$Row;)J -/
theorem s102_0 : mm_wp d 102 0 ls st h Q ↔ mm_wp d 102 1 ls (.long (0 : Int64) :: st) h Q := wp_lconst rfl rfl
theorem s102_1 : mm_wp d 102 1 [l0, l1, l2, l3, l4, l5, l6, l7] (.long w :: st) h Q ↔ mm_wp d 102 2 [l0, l1, l2, .long w, mm_j, l5, l6, l7] st h Q := wp_lstore_n rfl rfl
theorem s102_2 : mm_wp d 102 2 ls st h Q ↔ mm_wp d 102 3 ls (.int (0 : Int32) :: st) h Q := wp_iconst rfl rfl
theorem s102_3 : mm_wp d 102 3 [l0, l1, l2, l3, l4, l5, l6, l7] (.int x :: st) h Q ↔ mm_wp d 102 5 [l0, l1, l2, l3, l4, .int x, l6, l7] st h Q := wp_istore rfl rfl
theorem s102_5 : mm_wp d 102 5 [l0, l1, l2, l3, l4, .int x, l6, l7] st h Q ↔ mm_wp d 102 7 [l0, l1, l2, l3, l4, .int x, l6, l7] (.int x :: st) h Q := wp_iload rfl rfl
theorem s102_7 : mm_wp d 102 7 [l0, l1, .ref a, l3, l4, l5, l6, l7] st h Q ↔ mm_wp d 102 8 [l0, l1, .ref a, l3, l4, l5, l6, l7] (.ref a :: st) h Q := wp_aloadR_n rfl rfl
theorem s102_7o : mm_wp d 102 7 [l0, l1, mm_o o, l3, l4, l5, l6, l7] st h Q ↔ mm_wp d 102 8 [l0, l1, mm_o o, l3, l4, l5, l6, l7] (mm_o o :: st) h Q := wp_aload_n rfl o rfl
theorem s102_8 : mm_wp d 102 8 ls (.ref a :: st) h Q ↔ (mm_s h a).1 = 7 ∧ mm_wp d 102 11 ls (.int (mm_i h a 1) :: st) h Q := wp_getI rfl rfl (by decide) (by decide)
theorem s102_11 : mm_wp d 102 11 ls (.int x2 :: .int x :: st) h Q ↔ if x2 ≤ x then mm_wp d 102 90 ls st h Q else mm_wp d 102 14 ls st h Q := wp_icmpge rfl rfl
theorem s102_14 : mm_wp d 102 14 [l0, l1, .ref a, l3, l4, l5, l6, l7] st h Q ↔ mm_wp d 102 15 [l0, l1, .ref a, l3, l4, l5, l6, l7] (.ref a :: st) h Q := wp_aloadR_n rfl rfl
theorem s102_14o : mm_wp d 102 14 [l0, l1, mm_o o, l3, l4, l5, l6, l7] st h Q ↔ mm_wp d 102 15 [l0, l1, mm_o o, l3, l4, l5, l6, l7] (mm_o o :: st) h Q := wp_aload_n rfl o rfl
theorem s102_15 : mm_wp d 102 15 ls (.ref a :: st) h Q ↔ (mm_s h a).1 = 7 ∧ mm_wp d 102 18 ls (mm_o (mm_r h a 0) :: st) h Q := wp_getR rfl rfl
theorem s102_18 : mm_wp d 102 18 [l0, l1, l2, l3, l4, .int x, l6, l7] st h Q ↔ mm_wp d 102 20 [l0, l1, l2, l3, l4, .int x, l6, l7] (.int x :: st) h Q := wp_iload rfl rfl
theorem s102_20 : mm_wp d 102 20 ls (.int x :: .ref a :: st) h Q ↔ (23 ≤ (mm_s h a).1 ∧ (mm_s h a).1 ≤ 26 ∧ mm_in x (mm_s h a).2 = true) ∧ mm_wp d 102 21 ls (mm_o (mm_r h a x.toNatClampNeg) :: st) h Q := wp_aaload rfl
theorem s102_21 : mm_wp d 102 21 [l0, l1, l2, l3, l4, l5, l6, l7] (.ref a :: st) h Q ↔ mm_wp d 102 23 [l0, l1, l2, l3, l4, l5, .ref a, l7] st h Q := wp_astoreR rfl rfl
theorem s102_21o : mm_wp d 102 21 [l0, l1, l2, l3, l4, l5, l6, l7] (mm_o o :: st) h Q ↔ mm_wp d 102 23 [l0, l1, l2, l3, l4, l5, mm_o o, l7] st h Q := wp_astore rfl o rfl
theorem s102_23 : mm_wp d 102 23 ls st h Q ↔ mm_wp d 102 24 ls (.int (2 : Int32) :: st) h Q := wp_iconst rfl rfl
theorem s102_24 : mm_wp d 102 24 [l0, l1, l2, l3, l4, l5, .ref a, l7] st h Q ↔ mm_wp d 102 26 [l0, l1, l2, l3, l4, l5, .ref a, l7] (.ref a :: st) h Q := wp_aloadR rfl rfl
theorem s102_24o : mm_wp d 102 24 [l0, l1, l2, l3, l4, l5, mm_o o, l7] st h Q ↔ mm_wp d 102 26 [l0, l1, l2, l3, l4, l5, mm_o o, l7] (mm_o o :: st) h Q := wp_aload rfl o rfl
theorem s102_26 : mm_wp d 102 26 ls (.ref a :: st) h Q ↔ (mm_s h a).1 = 6 ∧ mm_wp d 102 29 ls (.int (mm_i h a 5) :: st) h Q := wp_getI rfl rfl (by decide) (by decide)
theorem s102_29 : mm_wp d 102 29 ls (.int x2 :: .int x :: st) h Q ↔ mm_wp d 102 30 ls (.int (x * x2) :: st) h Q := wp_imul rfl
theorem s102_30 : mm_wp d 102 30 [l0, l1, l2, l3, l4, l5, .ref a, l7] st h Q ↔ mm_wp d 102 32 [l0, l1, l2, l3, l4, l5, .ref a, l7] (.ref a :: st) h Q := wp_aloadR rfl rfl
theorem s102_30o : mm_wp d 102 30 [l0, l1, l2, l3, l4, l5, mm_o o, l7] st h Q ↔ mm_wp d 102 32 [l0, l1, l2, l3, l4, l5, mm_o o, l7] (mm_o o :: st) h Q := wp_aload rfl o rfl
theorem s102_32 : mm_wp d 102 32 ls (.ref a :: st) h Q ↔ (mm_s h a).1 = 6 ∧ mm_wp d 102 35 ls (.int (mm_i h a 11) :: st) h Q := wp_getI rfl rfl (by decide) (by decide)
theorem s102_35 : mm_wp d 102 35 ls (.int x2 :: .int x :: st) h Q ↔ mm_wp d 102 36 ls (.int (x + x2) :: st) h Q := wp_iadd rfl
theorem s102_36 : mm_wp d 102 36 [l0, l1, l2, l3, l4, l5, l6, l7] (.int x :: st) h Q ↔ mm_wp d 102 38 [l0, l1, l2, l3, l4, l5, l6, .int x] st h Q := wp_istore rfl rfl
theorem s102_38 : mm_wp d 102 38 [.ref a, l1, l2, l3, l4, l5, l6, l7] st h Q ↔ mm_wp d 102 39 [.ref a, l1, l2, l3, l4, l5, l6, l7] (.ref a :: st) h Q := wp_aloadR_n rfl rfl
theorem s102_39 : mm_wp d 102 39 [l0, .int x, l2, l3, l4, l5, l6, l7] st h Q ↔ mm_wp d 102 40 [l0, .int x, l2, l3, l4, l5, l6, l7] (.int x :: st) h Q := wp_iload_n rfl rfl
theorem s102_40 : mm_wp d 102 40 ls st h Q ↔ mm_wp d 102 41 ls (.int (1 : Int32) :: st) h Q := wp_iconst rfl rfl
theorem s102_41 : mm_wp d 102 41 ls (.int x2 :: .int x :: st) h Q ↔ mm_wp d 102 42 ls (.int (x - x2) :: st) h Q := wp_isub rfl
theorem s102_42 : mm_wp (d + 1) 102 42 ls [.int x2, .ref a] h Q ↔ (mm_s h a).1 = 0 ∧ mm_wp d 99 0 [.ref a, .int x2] [] h (mm_bk (d + 1) 102 42 ls [] Q) := wp_virtual rfl rfl ⟨by decide, rfl⟩ ⟨Nat.le_of_ble_eq_true rfl, Nat.le_of_ble_eq_true rfl⟩ rfl rfl rfl rfl rfl rfl
theorem s102_45 : mm_wp d 102 45 ls (.int x :: st) h Q ↔ if x = 0 then mm_wp d 102 84 ls st h Q else mm_wp d 102 48 ls st h Q := wp_ifeq rfl rfl
theorem s102_48 : mm_wp d 102 48 [.ref a, l1, l2, l3, l4, l5, l6, l7] st h Q ↔ mm_wp d 102 49 [.ref a, l1, l2, l3, l4, l5, l6, l7] (.ref a :: st) h Q := wp_aloadR_n rfl rfl
theorem s102_49 : mm_wp d 102 49 [l0, l1, l2, l3, l4, l5, l6, .int x] st h Q ↔ mm_wp d 102 51 [l0, l1, l2, l3, l4, l5, l6, .int x] (.int x :: st) h Q := wp_iload rfl rfl
theorem s102_51 : mm_wp (d + 1) 102 51 ls [.int x2, .ref a] h Q ↔ (mm_s h a).1 = 0 ∧ mm_wp d 103 0 [.ref a, .int x2, mm_j, mm_j] [] h (mm_bk (d + 1) 102 51 ls [] Q) := wp_virtual rfl rfl ⟨by decide, rfl⟩ ⟨Nat.le_of_ble_eq_true rfl, Nat.le_of_ble_eq_true rfl⟩ rfl rfl rfl rfl rfl rfl
theorem s102_54 : mm_wp d 102 54 [l0, .int x, l2, l3, l4, l5, l6, l7] st h Q ↔ mm_wp d 102 55 [l0, .int x, l2, l3, l4, l5, l6, l7] (.int x :: st) h Q := wp_iload_n rfl rfl
theorem s102_55 : mm_wp d 102 55 ls st h Q ↔ mm_wp d 102 56 ls (.int (1 : Int32) :: st) h Q := wp_iconst rfl rfl
theorem s102_56 : mm_wp d 102 56 ls (.int x2 :: .int x :: st) h Q ↔ mm_wp d 102 57 ls (.int (x - x2) :: st) h Q := wp_isub rfl
theorem s102_57 : mm_wp d 102 57 ls (.int x2 :: .int x :: st) h Q ↔ if x = x2 then mm_wp d 102 60 ls st h Q else mm_wp d 102 84 ls st h Q := wp_icmpne rfl rfl
theorem s102_60 : mm_wp d 102 60 [l0, l1, l2, .long w, l4, l5, l6, l7] st h Q ↔ mm_wp d 102 61 [l0, l1, l2, .long w, l4, l5, l6, l7] (.long w :: st) h Q := wp_lload_n rfl rfl
theorem s102_61 : mm_wp d 102 61 [l0, l1, l2, l3, l4, l5, .ref a, l7] st h Q ↔ mm_wp d 102 63 [l0, l1, l2, l3, l4, l5, .ref a, l7] (.ref a :: st) h Q := wp_aloadR rfl rfl
theorem s102_61o : mm_wp d 102 61 [l0, l1, l2, l3, l4, l5, mm_o o, l7] st h Q ↔ mm_wp d 102 63 [l0, l1, l2, l3, l4, l5, mm_o o, l7] (mm_o o :: st) h Q := wp_aload rfl o rfl
theorem s102_63 : mm_wp d 102 63 ls (.ref a :: st) h Q ↔ (mm_s h a).1 = 6 ∧ mm_wp d 102 66 ls (.int (mm_i h a 12) :: st) h Q := wp_getI rfl rfl (by decide) (by decide)
theorem s102_66 : mm_wp d 102 66 ls (.int x :: st) h Q ↔ mm_wp d 102 67 ls (.long x.toInt64 :: st) h Q := wp_i2l rfl
theorem s102_67 : mm_wp d 102 67 [l0, l1, l2, l3, l4, l5, l6, .int x] st h Q ↔ mm_wp d 102 69 [l0, l1, l2, l3, l4, l5, l6, .int x] (.int x :: st) h Q := wp_iload rfl rfl
theorem s102_69 : mm_wp d 102 69 ls st h Q ↔ mm_wp d 102 70 ls (.int (2 : Int32) :: st) h Q := wp_iconst rfl rfl
theorem s102_70 : mm_wp d 102 70 [.ref a, l1, l2, l3, l4, l5, l6, l7] st h Q ↔ mm_wp d 102 71 [.ref a, l1, l2, l3, l4, l5, l6, l7] (.ref a :: st) h Q := wp_aloadR_n rfl rfl
theorem s102_71 : mm_wp d 102 71 ls (.ref a :: st) h Q ↔ (mm_s h a).1 = 0 ∧ mm_wp d 102 74 ls (mm_o (mm_r h a 0) :: st) h Q := wp_getR rfl rfl
theorem s102_74 : mm_wp d 102 74 [l0, .int x, l2, l3, l4, l5, l6, l7] st h Q ↔ mm_wp d 102 75 [l0, .int x, l2, l3, l4, l5, l6, l7] (.int x :: st) h Q := wp_iload_n rfl rfl
theorem s102_75 : mm_wp d 102 75 ls st h Q ↔ mm_wp d 102 76 ls (.int (1 : Int32) :: st) h Q := wp_iconst rfl rfl
theorem s102_76 : mm_wp d 102 76 ls (.int x2 :: .int x :: st) h Q ↔ mm_wp d 102 77 ls (.int (x - x2) :: st) h Q := wp_isub rfl
theorem s102_77 : mm_wp d 102 77 ls (.int x :: .ref a :: st) h Q ↔ ((mm_s h a).1 = 20 ∧ mm_in x (mm_s h a).2 = true) ∧ mm_wp d 102 78 ls (.int (mm_i h a x.toNatClampNeg) :: st) h Q := wp_iaload rfl
theorem s102_78 : mm_wp d 102 78 ls (.int x2 :: .int x :: st) h Q ↔ mm_wp d 102 79 ls (.int (x * x2) :: st) h Q := wp_imul rfl
theorem s102_79 : mm_wp d 102 79 ls (.int x2 :: .int x :: st) h Q ↔ mm_wp d 102 80 ls (.int (x - x2) :: st) h Q := wp_isub rfl
theorem s102_80 : mm_wp d 102 80 ls (.int x :: st) h Q ↔ mm_wp d 102 81 ls (.long x.toInt64 :: st) h Q := wp_i2l rfl
theorem s102_81 : mm_wp d 102 81 ls (.long w2 :: .long w :: st) h Q ↔ mm_wp d 102 82 ls (.long (w * w2) :: st) h Q := wp_lmul rfl
theorem s102_82 : mm_wp d 102 82 ls (.long w2 :: .long w :: st) h Q ↔ mm_wp d 102 83 ls (.long (w + w2) :: st) h Q := wp_ladd rfl
theorem s102_83 : mm_wp d 102 83 [l0, l1, l2, l3, l4, l5, l6, l7] (.long w :: st) h Q ↔ mm_wp d 102 84 [l0, l1, l2, .long w, mm_j, l5, l6, l7] st h Q := wp_lstore_n rfl rfl
theorem s102_84 : mm_wp d 102 84 [l0, l1, l2, l3, l4, .int x, l6, l7] st h Q ↔ mm_wp d 102 87 [l0, l1, l2, l3, l4, .int (x + (1 : Int32)), l6, l7] st h Q := wp_iinc rfl rfl rfl rfl
theorem s102_87 : mm_wp d 102 87 ls st h Q ↔ mm_wp d 102 5 ls st h Q := wp_goto rfl rfl
theorem s102_90 : mm_wp d 102 90 [l0, l1, l2, .long w, l4, l5, l6, l7] st h Q ↔ mm_wp d 102 91 [l0, l1, l2, .long w, l4, l5, l6, l7] (.long w :: st) h Q := wp_lload_n rfl rfl
theorem s102_91 : mm_wp d 102 91 ls (.long w :: st) h Q ↔ Q (.inl (some (.long w))) h := wp_lret rfl rfl
/-! 103: LoadRoom$Axles.firstOfTwo(I)I -/
theorem s103_0 : mm_wp d 103 0 ls st h Q ↔ mm_wp d 103 1 ls (.int (0 : Int32) :: st) h Q := wp_iconst rfl rfl
theorem s103_1 : mm_wp d 103 1 [l0, l1, l2, l3] (.int x :: st) h Q ↔ mm_wp d 103 2 [l0, l1, .int x, l3] st h Q := wp_istore_n rfl rfl
theorem s103_2 : mm_wp d 103 2 ls st h Q ↔ mm_wp d 103 3 ls (.int (1 : Int32) :: st) h Q := wp_iconst rfl rfl
theorem s103_3 : mm_wp d 103 3 [l0, l1, l2, l3] (.int x :: st) h Q ↔ mm_wp d 103 4 [l0, l1, l2, .int x] st h Q := wp_istore_n rfl rfl
theorem s103_4 : mm_wp d 103 4 [l0, l1, l2, .int x] st h Q ↔ mm_wp d 103 5 [l0, l1, l2, .int x] (.int x :: st) h Q := wp_iload_n rfl rfl
theorem s103_5 : mm_wp d 103 5 [.ref a, l1, l2, l3] st h Q ↔ mm_wp d 103 6 [.ref a, l1, l2, l3] (.ref a :: st) h Q := wp_aloadR_n rfl rfl
theorem s103_6 : mm_wp d 103 6 ls (.ref a :: st) h Q ↔ (mm_s h a).1 = 0 ∧ mm_wp d 103 9 ls (.int (mm_i h a 1) :: st) h Q := wp_getI rfl rfl (by decide) (by decide)
theorem s103_9 : mm_wp d 103 9 ls st h Q ↔ mm_wp d 103 10 ls (.int (1 : Int32) :: st) h Q := wp_iconst rfl rfl
theorem s103_10 : mm_wp d 103 10 ls (.int x2 :: .int x :: st) h Q ↔ mm_wp d 103 11 ls (.int (x - x2) :: st) h Q := wp_isub rfl
theorem s103_11 : mm_wp d 103 11 ls (.int x2 :: .int x :: st) h Q ↔ if x2 ≤ x then mm_wp d 103 34 ls st h Q else mm_wp d 103 14 ls st h Q := wp_icmpge rfl rfl
theorem s103_14 : mm_wp d 103 14 ls st h Q ↔ mm_wp d 103 15 ls (.int (2 : Int32) :: st) h Q := wp_iconst rfl rfl
theorem s103_15 : mm_wp d 103 15 [.ref a, l1, l2, l3] st h Q ↔ mm_wp d 103 16 [.ref a, l1, l2, l3] (.ref a :: st) h Q := wp_aloadR_n rfl rfl
theorem s103_16 : mm_wp d 103 16 ls (.ref a :: st) h Q ↔ (mm_s h a).1 = 0 ∧ mm_wp d 103 19 ls (mm_o (mm_r h a 0) :: st) h Q := wp_getR rfl rfl
theorem s103_19 : mm_wp d 103 19 [l0, l1, l2, .int x] st h Q ↔ mm_wp d 103 20 [l0, l1, l2, .int x] (.int x :: st) h Q := wp_iload_n rfl rfl
theorem s103_20 : mm_wp d 103 20 ls (.int x :: .ref a :: st) h Q ↔ ((mm_s h a).1 = 20 ∧ mm_in x (mm_s h a).2 = true) ∧ mm_wp d 103 21 ls (.int (mm_i h a x.toNatClampNeg) :: st) h Q := wp_iaload rfl
theorem s103_21 : mm_wp d 103 21 ls (.int x2 :: .int x :: st) h Q ↔ mm_wp d 103 22 ls (.int (x * x2) :: st) h Q := wp_imul rfl
theorem s103_22 : mm_wp d 103 22 [l0, .int x, l2, l3] st h Q ↔ mm_wp d 103 23 [l0, .int x, l2, l3] (.int x :: st) h Q := wp_iload_n rfl rfl
theorem s103_23 : mm_wp d 103 23 ls (.int x2 :: .int x :: st) h Q ↔ if x2 < x then mm_wp d 103 28 ls st h Q else mm_wp d 103 26 ls st h Q := wp_icmpgt rfl rfl
theorem s103_26 : mm_wp d 103 26 [l0, l1, l2, .int x] st h Q ↔ mm_wp d 103 27 [l0, l1, l2, .int x] (.int x :: st) h Q := wp_iload_n rfl rfl
theorem s103_27 : mm_wp d 103 27 [l0, l1, l2, l3] (.int x :: st) h Q ↔ mm_wp d 103 28 [l0, l1, .int x, l3] st h Q := wp_istore_n rfl rfl
theorem s103_28 : mm_wp d 103 28 [l0, l1, l2, .int x] st h Q ↔ mm_wp d 103 31 [l0, l1, l2, .int (x + (1 : Int32))] st h Q := wp_iinc rfl rfl rfl rfl
theorem s103_31 : mm_wp d 103 31 ls st h Q ↔ mm_wp d 103 4 ls st h Q := wp_goto rfl rfl
theorem s103_34 : mm_wp d 103 34 [l0, l1, .int x, l3] st h Q ↔ mm_wp d 103 35 [l0, l1, .int x, l3] (.int x :: st) h Q := wp_iload_n rfl rfl
theorem s103_35 : mm_wp d 103 35 ls (.int x :: st) h Q ↔ Q (.inl (some (.int x))) h := wp_iret rfl rfl
/-! 104: LoadRoom$Axles.sumFromBehind(ILLoadRoom$Row;)J -/
theorem s104_0 : mm_wp d 104 0 ls st h Q ↔ mm_wp d 104 1 ls (.long (0 : Int64) :: st) h Q := wp_lconst rfl rfl
theorem s104_1 : mm_wp d 104 1 [l0, l1, l2, l3, l4, l5, l6, l7] (.long w :: st) h Q ↔ mm_wp d 104 2 [l0, l1, l2, .long w, mm_j, l5, l6, l7] st h Q := wp_lstore_n rfl rfl
theorem s104_2 : mm_wp d 104 2 ls st h Q ↔ mm_wp d 104 3 ls (.int (0 : Int32) :: st) h Q := wp_iconst rfl rfl
theorem s104_3 : mm_wp d 104 3 [l0, l1, l2, l3, l4, l5, l6, l7] (.int x :: st) h Q ↔ mm_wp d 104 5 [l0, l1, l2, l3, l4, .int x, l6, l7] st h Q := wp_istore rfl rfl
theorem s104_5 : mm_wp d 104 5 [l0, l1, l2, l3, l4, .int x, l6, l7] st h Q ↔ mm_wp d 104 7 [l0, l1, l2, l3, l4, .int x, l6, l7] (.int x :: st) h Q := wp_iload rfl rfl
theorem s104_7 : mm_wp d 104 7 [l0, l1, .ref a, l3, l4, l5, l6, l7] st h Q ↔ mm_wp d 104 8 [l0, l1, .ref a, l3, l4, l5, l6, l7] (.ref a :: st) h Q := wp_aloadR_n rfl rfl
theorem s104_7o : mm_wp d 104 7 [l0, l1, mm_o o, l3, l4, l5, l6, l7] st h Q ↔ mm_wp d 104 8 [l0, l1, mm_o o, l3, l4, l5, l6, l7] (mm_o o :: st) h Q := wp_aload_n rfl o rfl
theorem s104_8 : mm_wp d 104 8 ls (.ref a :: st) h Q ↔ (mm_s h a).1 = 7 ∧ mm_wp d 104 11 ls (.int (mm_i h a 1) :: st) h Q := wp_getI rfl rfl (by decide) (by decide)
theorem s104_11 : mm_wp d 104 11 ls (.int x2 :: .int x :: st) h Q ↔ if x2 ≤ x then mm_wp d 104 108 ls st h Q else mm_wp d 104 14 ls st h Q := wp_icmpge rfl rfl
theorem s104_14 : mm_wp d 104 14 [l0, l1, .ref a, l3, l4, l5, l6, l7] st h Q ↔ mm_wp d 104 15 [l0, l1, .ref a, l3, l4, l5, l6, l7] (.ref a :: st) h Q := wp_aloadR_n rfl rfl
theorem s104_14o : mm_wp d 104 14 [l0, l1, mm_o o, l3, l4, l5, l6, l7] st h Q ↔ mm_wp d 104 15 [l0, l1, mm_o o, l3, l4, l5, l6, l7] (mm_o o :: st) h Q := wp_aload_n rfl o rfl
theorem s104_15 : mm_wp d 104 15 ls (.ref a :: st) h Q ↔ (mm_s h a).1 = 7 ∧ mm_wp d 104 18 ls (mm_o (mm_r h a 0) :: st) h Q := wp_getR rfl rfl
theorem s104_18 : mm_wp d 104 18 [l0, l1, l2, l3, l4, .int x, l6, l7] st h Q ↔ mm_wp d 104 20 [l0, l1, l2, l3, l4, .int x, l6, l7] (.int x :: st) h Q := wp_iload rfl rfl
theorem s104_20 : mm_wp d 104 20 ls (.int x :: .ref a :: st) h Q ↔ (23 ≤ (mm_s h a).1 ∧ (mm_s h a).1 ≤ 26 ∧ mm_in x (mm_s h a).2 = true) ∧ mm_wp d 104 21 ls (mm_o (mm_r h a x.toNatClampNeg) :: st) h Q := wp_aaload rfl
theorem s104_21 : mm_wp d 104 21 [l0, l1, l2, l3, l4, l5, l6, l7] (.ref a :: st) h Q ↔ mm_wp d 104 23 [l0, l1, l2, l3, l4, l5, .ref a, l7] st h Q := wp_astoreR rfl rfl
theorem s104_21o : mm_wp d 104 21 [l0, l1, l2, l3, l4, l5, l6, l7] (mm_o o :: st) h Q ↔ mm_wp d 104 23 [l0, l1, l2, l3, l4, l5, mm_o o, l7] st h Q := wp_astore rfl o rfl
theorem s104_23 : mm_wp d 104 23 ls st h Q ↔ mm_wp d 104 24 ls (.int (2 : Int32) :: st) h Q := wp_iconst rfl rfl
theorem s104_24 : mm_wp d 104 24 [l0, l1, l2, l3, l4, l5, .ref a, l7] st h Q ↔ mm_wp d 104 26 [l0, l1, l2, l3, l4, l5, .ref a, l7] (.ref a :: st) h Q := wp_aloadR rfl rfl
theorem s104_24o : mm_wp d 104 24 [l0, l1, l2, l3, l4, l5, mm_o o, l7] st h Q ↔ mm_wp d 104 26 [l0, l1, l2, l3, l4, l5, mm_o o, l7] (mm_o o :: st) h Q := wp_aload rfl o rfl
theorem s104_26 : mm_wp d 104 26 ls (.ref a :: st) h Q ↔ (mm_s h a).1 = 6 ∧ mm_wp d 104 29 ls (.int (mm_i h a 5) :: st) h Q := wp_getI rfl rfl (by decide) (by decide)
theorem s104_29 : mm_wp d 104 29 ls (.int x2 :: .int x :: st) h Q ↔ mm_wp d 104 30 ls (.int (x * x2) :: st) h Q := wp_imul rfl
theorem s104_30 : mm_wp d 104 30 [l0, l1, l2, l3, l4, l5, .ref a, l7] st h Q ↔ mm_wp d 104 32 [l0, l1, l2, l3, l4, l5, .ref a, l7] (.ref a :: st) h Q := wp_aloadR rfl rfl
theorem s104_30o : mm_wp d 104 30 [l0, l1, l2, l3, l4, l5, mm_o o, l7] st h Q ↔ mm_wp d 104 32 [l0, l1, l2, l3, l4, l5, mm_o o, l7] (mm_o o :: st) h Q := wp_aload rfl o rfl
theorem s104_32 : mm_wp d 104 32 ls (.ref a :: st) h Q ↔ (mm_s h a).1 = 6 ∧ mm_wp d 104 35 ls (.int (mm_i h a 11) :: st) h Q := wp_getI rfl rfl (by decide) (by decide)
theorem s104_35 : mm_wp d 104 35 ls (.int x2 :: .int x :: st) h Q ↔ mm_wp d 104 36 ls (.int (x + x2) :: st) h Q := wp_iadd rfl
theorem s104_36 : mm_wp d 104 36 [l0, l1, l2, l3, l4, l5, l6, l7] (.int x :: st) h Q ↔ mm_wp d 104 38 [l0, l1, l2, l3, l4, l5, l6, .int x] st h Q := wp_istore rfl rfl
theorem s104_38 : mm_wp d 104 38 [.ref a, l1, l2, l3, l4, l5, l6, l7] st h Q ↔ mm_wp d 104 39 [.ref a, l1, l2, l3, l4, l5, l6, l7] (.ref a :: st) h Q := wp_aloadR_n rfl rfl
theorem s104_39 : mm_wp d 104 39 ls (.ref a :: st) h Q ↔ (mm_s h a).1 = 0 ∧ mm_wp d 104 42 ls (.int (mm_i h a 1) :: st) h Q := wp_getI rfl rfl (by decide) (by decide)
theorem s104_42 : mm_wp d 104 42 ls st h Q ↔ mm_wp d 104 43 ls (.int (1 : Int32) :: st) h Q := wp_iconst rfl rfl
theorem s104_43 : mm_wp d 104 43 ls (.int x2 :: .int x :: st) h Q ↔ if x = x2 then mm_wp d 104 46 ls st h Q else mm_wp d 104 58 ls st h Q := wp_icmpne rfl rfl
theorem s104_46 : mm_wp d 104 46 [l0, l1, l2, .long w, l4, l5, l6, l7] st h Q ↔ mm_wp d 104 47 [l0, l1, l2, .long w, l4, l5, l6, l7] (.long w :: st) h Q := wp_lload_n rfl rfl
theorem s104_47 : mm_wp d 104 47 [l0, l1, l2, l3, l4, l5, .ref a, l7] st h Q ↔ mm_wp d 104 49 [l0, l1, l2, l3, l4, l5, .ref a, l7] (.ref a :: st) h Q := wp_aloadR rfl rfl
theorem s104_47o : mm_wp d 104 47 [l0, l1, l2, l3, l4, l5, mm_o o, l7] st h Q ↔ mm_wp d 104 49 [l0, l1, l2, l3, l4, l5, mm_o o, l7] (mm_o o :: st) h Q := wp_aload rfl o rfl
theorem s104_49 : mm_wp d 104 49 ls (.ref a :: st) h Q ↔ (mm_s h a).1 = 6 ∧ mm_wp d 104 52 ls (.int (mm_i h a 12) :: st) h Q := wp_getI rfl rfl (by decide) (by decide)
theorem s104_52 : mm_wp d 104 52 ls (.int x :: st) h Q ↔ mm_wp d 104 53 ls (.long x.toInt64 :: st) h Q := wp_i2l rfl
theorem s104_53 : mm_wp d 104 53 ls (.long w2 :: .long w :: st) h Q ↔ mm_wp d 104 54 ls (.long (w + w2) :: st) h Q := wp_ladd rfl
theorem s104_54 : mm_wp d 104 54 [l0, l1, l2, l3, l4, l5, l6, l7] (.long w :: st) h Q ↔ mm_wp d 104 55 [l0, l1, l2, .long w, mm_j, l5, l6, l7] st h Q := wp_lstore_n rfl rfl
theorem s104_55 : mm_wp d 104 55 ls st h Q ↔ mm_wp d 104 102 ls st h Q := wp_goto rfl rfl
theorem s104_58 : mm_wp d 104 58 [.ref a, l1, l2, l3, l4, l5, l6, l7] st h Q ↔ mm_wp d 104 59 [.ref a, l1, l2, l3, l4, l5, l6, l7] (.ref a :: st) h Q := wp_aloadR_n rfl rfl
theorem s104_59 : mm_wp d 104 59 [l0, .int x, l2, l3, l4, l5, l6, l7] st h Q ↔ mm_wp d 104 60 [l0, .int x, l2, l3, l4, l5, l6, l7] (.int x :: st) h Q := wp_iload_n rfl rfl
theorem s104_60 : mm_wp d 104 60 ls st h Q ↔ mm_wp d 104 61 ls (.int (1 : Int32) :: st) h Q := wp_iconst rfl rfl
theorem s104_61 : mm_wp d 104 61 ls (.int x2 :: .int x :: st) h Q ↔ mm_wp d 104 62 ls (.int (x + x2) :: st) h Q := wp_iadd rfl
theorem s104_62 : mm_wp (d + 1) 104 62 ls [.int x2, .ref a] h Q ↔ (mm_s h a).1 = 0 ∧ mm_wp d 99 0 [.ref a, .int x2] [] h (mm_bk (d + 1) 104 62 ls [] Q) := wp_virtual rfl rfl ⟨by decide, rfl⟩ ⟨Nat.le_of_ble_eq_true rfl, Nat.le_of_ble_eq_true rfl⟩ rfl rfl rfl rfl rfl rfl
theorem s104_65 : mm_wp d 104 65 ls (.int x :: st) h Q ↔ if x = 0 then mm_wp d 104 102 ls st h Q else mm_wp d 104 68 ls st h Q := wp_ifeq rfl rfl
theorem s104_68 : mm_wp d 104 68 [.ref a, l1, l2, l3, l4, l5, l6, l7] st h Q ↔ mm_wp d 104 69 [.ref a, l1, l2, l3, l4, l5, l6, l7] (.ref a :: st) h Q := wp_aloadR_n rfl rfl
theorem s104_69 : mm_wp d 104 69 [l0, l1, l2, l3, l4, l5, l6, .int x] st h Q ↔ mm_wp d 104 71 [l0, l1, l2, l3, l4, l5, l6, .int x] (.int x :: st) h Q := wp_iload rfl rfl
theorem s104_71 : mm_wp (d + 1) 104 71 ls [.int x2, .ref a] h Q ↔ (mm_s h a).1 = 0 ∧ mm_wp d 103 0 [.ref a, .int x2, mm_j, mm_j] [] h (mm_bk (d + 1) 104 71 ls [] Q) := wp_virtual rfl rfl ⟨by decide, rfl⟩ ⟨Nat.le_of_ble_eq_true rfl, Nat.le_of_ble_eq_true rfl⟩ rfl rfl rfl rfl rfl rfl
theorem s104_74 : mm_wp d 104 74 [l0, .int x, l2, l3, l4, l5, l6, l7] st h Q ↔ mm_wp d 104 75 [l0, .int x, l2, l3, l4, l5, l6, l7] (.int x :: st) h Q := wp_iload_n rfl rfl
theorem s104_75 : mm_wp d 104 75 ls (.int x2 :: .int x :: st) h Q ↔ if x = x2 then mm_wp d 104 78 ls st h Q else mm_wp d 104 102 ls st h Q := wp_icmpne rfl rfl
theorem s104_78 : mm_wp d 104 78 [l0, l1, l2, .long w, l4, l5, l6, l7] st h Q ↔ mm_wp d 104 79 [l0, l1, l2, .long w, l4, l5, l6, l7] (.long w :: st) h Q := wp_lload_n rfl rfl
theorem s104_79 : mm_wp d 104 79 [l0, l1, l2, l3, l4, l5, .ref a, l7] st h Q ↔ mm_wp d 104 81 [l0, l1, l2, l3, l4, l5, .ref a, l7] (.ref a :: st) h Q := wp_aloadR rfl rfl
theorem s104_79o : mm_wp d 104 79 [l0, l1, l2, l3, l4, l5, mm_o o, l7] st h Q ↔ mm_wp d 104 81 [l0, l1, l2, l3, l4, l5, mm_o o, l7] (mm_o o :: st) h Q := wp_aload rfl o rfl
theorem s104_81 : mm_wp d 104 81 ls (.ref a :: st) h Q ↔ (mm_s h a).1 = 6 ∧ mm_wp d 104 84 ls (.int (mm_i h a 12) :: st) h Q := wp_getI rfl rfl (by decide) (by decide)
theorem s104_84 : mm_wp d 104 84 ls (.int x :: st) h Q ↔ mm_wp d 104 85 ls (.long x.toInt64 :: st) h Q := wp_i2l rfl
theorem s104_85 : mm_wp d 104 85 ls st h Q ↔ mm_wp d 104 86 ls (.int (2 : Int32) :: st) h Q := wp_iconst rfl rfl
theorem s104_86 : mm_wp d 104 86 [.ref a, l1, l2, l3, l4, l5, l6, l7] st h Q ↔ mm_wp d 104 87 [.ref a, l1, l2, l3, l4, l5, l6, l7] (.ref a :: st) h Q := wp_aloadR_n rfl rfl
theorem s104_87 : mm_wp d 104 87 ls (.ref a :: st) h Q ↔ (mm_s h a).1 = 0 ∧ mm_wp d 104 90 ls (mm_o (mm_r h a 0) :: st) h Q := wp_getR rfl rfl
theorem s104_90 : mm_wp d 104 90 [l0, .int x, l2, l3, l4, l5, l6, l7] st h Q ↔ mm_wp d 104 91 [l0, .int x, l2, l3, l4, l5, l6, l7] (.int x :: st) h Q := wp_iload_n rfl rfl
theorem s104_91 : mm_wp d 104 91 ls st h Q ↔ mm_wp d 104 92 ls (.int (1 : Int32) :: st) h Q := wp_iconst rfl rfl
theorem s104_92 : mm_wp d 104 92 ls (.int x2 :: .int x :: st) h Q ↔ mm_wp d 104 93 ls (.int (x + x2) :: st) h Q := wp_iadd rfl
theorem s104_93 : mm_wp d 104 93 ls (.int x :: .ref a :: st) h Q ↔ ((mm_s h a).1 = 20 ∧ mm_in x (mm_s h a).2 = true) ∧ mm_wp d 104 94 ls (.int (mm_i h a x.toNatClampNeg) :: st) h Q := wp_iaload rfl
theorem s104_94 : mm_wp d 104 94 ls (.int x2 :: .int x :: st) h Q ↔ mm_wp d 104 95 ls (.int (x * x2) :: st) h Q := wp_imul rfl
theorem s104_95 : mm_wp d 104 95 [l0, l1, l2, l3, l4, l5, l6, .int x] st h Q ↔ mm_wp d 104 97 [l0, l1, l2, l3, l4, l5, l6, .int x] (.int x :: st) h Q := wp_iload rfl rfl
theorem s104_97 : mm_wp d 104 97 ls (.int x2 :: .int x :: st) h Q ↔ mm_wp d 104 98 ls (.int (x - x2) :: st) h Q := wp_isub rfl
theorem s104_98 : mm_wp d 104 98 ls (.int x :: st) h Q ↔ mm_wp d 104 99 ls (.long x.toInt64 :: st) h Q := wp_i2l rfl
theorem s104_99 : mm_wp d 104 99 ls (.long w2 :: .long w :: st) h Q ↔ mm_wp d 104 100 ls (.long (w * w2) :: st) h Q := wp_lmul rfl
theorem s104_100 : mm_wp d 104 100 ls (.long w2 :: .long w :: st) h Q ↔ mm_wp d 104 101 ls (.long (w + w2) :: st) h Q := wp_ladd rfl
theorem s104_101 : mm_wp d 104 101 [l0, l1, l2, l3, l4, l5, l6, l7] (.long w :: st) h Q ↔ mm_wp d 104 102 [l0, l1, l2, .long w, mm_j, l5, l6, l7] st h Q := wp_lstore_n rfl rfl
theorem s104_102 : mm_wp d 104 102 [l0, l1, l2, l3, l4, .int x, l6, l7] st h Q ↔ mm_wp d 104 105 [l0, l1, l2, l3, l4, .int (x + (1 : Int32)), l6, l7] st h Q := wp_iinc rfl rfl rfl rfl
theorem s104_105 : mm_wp d 104 105 ls st h Q ↔ mm_wp d 104 5 ls st h Q := wp_goto rfl rfl
theorem s104_108 : mm_wp d 104 108 [l0, l1, l2, .long w, l4, l5, l6, l7] st h Q ↔ mm_wp d 104 109 [l0, l1, l2, .long w, l4, l5, l6, l7] (.long w :: st) h Q := wp_lload_n rfl rfl
theorem s104_109 : mm_wp d 104 109 ls (.long w :: st) h Q ↔ Q (.inl (some (.long w))) h := wp_lret rfl rfl
/-! 105: LoadRoom$Axles.inLowestTerms(JJI)J -/
theorem s105_0 : mm_wp d 105 0 [l0, l1, l2, l3, .int x, l5, l6, l7, l8] st h Q ↔ mm_wp d 105 2 [l0, l1, l2, l3, .int x, l5, l6, l7, l8] (.int x :: st) h Q := wp_iload rfl rfl
theorem s105_2 : mm_wp d 105 2 ls (.int x :: st) h Q ↔ if x = 0 then mm_wp d 105 5 ls st h Q else mm_wp d 105 9 ls st h Q := wp_ifne rfl rfl
theorem s105_5 : mm_wp d 105 5 [.long w, l1, l2, l3, l4, l5, l6, l7, l8] st h Q ↔ mm_wp d 105 6 [.long w, l1, l2, l3, l4, l5, l6, l7, l8] (.long w :: st) h Q := wp_lload_n rfl rfl
theorem s105_6 : mm_wp d 105 6 ls st h Q ↔ mm_wp d 105 10 ls st h Q := wp_goto rfl rfl
theorem s105_9 : mm_wp d 105 9 [l0, l1, .long w, l3, l4, l5, l6, l7, l8] st h Q ↔ mm_wp d 105 10 [l0, l1, .long w, l3, l4, l5, l6, l7, l8] (.long w :: st) h Q := wp_lload_n rfl rfl
theorem s105_10 : mm_wp d 105 10 [l0, l1, l2, l3, l4, l5, l6, l7, l8] (.long w :: st) h Q ↔ mm_wp d 105 12 [l0, l1, l2, l3, l4, .long w, mm_j, l7, l8] st h Q := wp_lstore rfl rfl
theorem s105_12 : mm_wp d 105 12 [.long w, l1, l2, l3, l4, l5, l6, l7, l8] st h Q ↔ mm_wp d 105 13 [.long w, l1, l2, l3, l4, l5, l6, l7, l8] (.long w :: st) h Q := wp_lload_n rfl rfl
theorem s105_13 : mm_wp (d + 1) 105 13 ls [.long w] h Q ↔ mm_wp d 106 0 [.long w, mm_j] [] h (mm_bk (d + 1) 105 13 ls [] Q) := wp_static rfl rfl ⟨by decide, rfl⟩ ⟨Nat.le_of_ble_eq_true rfl, Nat.le_of_ble_eq_true rfl⟩ rfl rfl rfl rfl
theorem s105_16 : mm_wp d 105 16 [l0, l1, .long w, l3, l4, l5, l6, l7, l8] st h Q ↔ mm_wp d 105 17 [l0, l1, .long w, l3, l4, l5, l6, l7, l8] (.long w :: st) h Q := wp_lload_n rfl rfl
theorem s105_17 : mm_wp (d + 1) 105 17 ls [.long w2, .long w] h Q ↔ mm_wp d 107 0 [.long w, mm_j, .long w2, mm_j, mm_j, mm_j, mm_j, mm_j, mm_j, mm_j, mm_j] [] h (mm_bk (d + 1) 105 17 ls [] Q) := wp_static rfl rfl ⟨by decide, rfl⟩ ⟨Nat.le_of_ble_eq_true rfl, Nat.le_of_ble_eq_true rfl⟩ rfl rfl rfl rfl
theorem s105_20 : mm_wp d 105 20 [l0, l1, l2, l3, l4, l5, l6, l7, l8] (.long w :: st) h Q ↔ mm_wp d 105 22 [l0, l1, l2, l3, l4, l5, l6, .long w, mm_j] st h Q := wp_lstore rfl rfl
theorem s105_22 : mm_wp d 105 22 [l0, l1, l2, l3, l4, l5, l6, .long w, l8] st h Q ↔ mm_wp d 105 24 [l0, l1, l2, l3, l4, l5, l6, .long w, l8] (.long w :: st) h Q := wp_lload rfl rfl
theorem s105_24 : mm_wp d 105 24 ls st h Q ↔ mm_wp d 105 25 ls (.long (1 : Int64) :: st) h Q := wp_lconst rfl rfl
theorem s105_25 : mm_wp d 105 25 ls (.long w2 :: .long w :: st) h Q ↔ mm_wp d 105 26 ls (.int (if w2 < w then 1 else if w = w2 then 0 else -1) :: st) h Q := wp_lcmp rfl
theorem s105_26 : mm_wp d 105 26 ls (.int x :: st) h Q ↔ if x ≤ 0 then mm_wp d 105 37 ls st h Q else mm_wp d 105 29 ls st h Q := wp_ifle rfl rfl
theorem s105_29 : mm_wp d 105 29 [l0, l1, l2, l3, l4, .long w, l6, l7, l8] st h Q ↔ mm_wp d 105 31 [l0, l1, l2, l3, l4, .long w, l6, l7, l8] (.long w :: st) h Q := wp_lload rfl rfl
theorem s105_31 : mm_wp d 105 31 [l0, l1, l2, l3, l4, l5, l6, .long w, l8] st h Q ↔ mm_wp d 105 33 [l0, l1, l2, l3, l4, l5, l6, .long w, l8] (.long w :: st) h Q := wp_lload rfl rfl
theorem s105_33 : mm_wp d 105 33 ls (.long w2 :: .long w :: st) h Q ↔ ¬ w2 = 0 ∧ mm_wp d 105 34 ls (.long (w / w2) :: st) h Q := wp_ldiv rfl
theorem s105_34 : mm_wp d 105 34 ls st h Q ↔ mm_wp d 105 39 ls st h Q := wp_goto rfl rfl
theorem s105_37 : mm_wp d 105 37 [l0, l1, l2, l3, l4, .long w, l6, l7, l8] st h Q ↔ mm_wp d 105 39 [l0, l1, l2, l3, l4, .long w, l6, l7, l8] (.long w :: st) h Q := wp_lload rfl rfl
theorem s105_39 : mm_wp d 105 39 ls (.long w :: st) h Q ↔ Q (.inl (some (.long w))) h := wp_lret rfl rfl
/-! 106: java/lang/Math.abs(J)J -/
theorem s106_0 : mm_wp d 106 0 [.long w, l1] st h Q ↔ mm_wp d 106 1 [.long w, l1] (.long w :: st) h Q := wp_lload_n rfl rfl
theorem s106_1 : mm_wp d 106 1 ls st h Q ↔ mm_wp d 106 2 ls (.long (0 : Int64) :: st) h Q := wp_lconst rfl rfl
theorem s106_2 : mm_wp d 106 2 ls (.long w2 :: .long w :: st) h Q ↔ mm_wp d 106 3 ls (.int (if w2 < w then 1 else if w = w2 then 0 else -1) :: st) h Q := wp_lcmp rfl
theorem s106_3 : mm_wp d 106 3 ls (.int x :: st) h Q ↔ if 0 ≤ x then mm_wp d 106 11 ls st h Q else mm_wp d 106 6 ls st h Q := wp_ifge rfl rfl
theorem s106_6 : mm_wp d 106 6 [.long w, l1] st h Q ↔ mm_wp d 106 7 [.long w, l1] (.long w :: st) h Q := wp_lload_n rfl rfl
theorem s106_7 : mm_wp d 106 7 ls (.long w :: st) h Q ↔ mm_wp d 106 8 ls (.long (-w) :: st) h Q := wp_lneg rfl
theorem s106_8 : mm_wp d 106 8 ls st h Q ↔ mm_wp d 106 12 ls st h Q := wp_goto rfl rfl
theorem s106_11 : mm_wp d 106 11 [.long w, l1] st h Q ↔ mm_wp d 106 12 [.long w, l1] (.long w :: st) h Q := wp_lload_n rfl rfl
theorem s106_12 : mm_wp d 106 12 ls (.long w :: st) h Q ↔ Q (.inl (some (.long w))) h := wp_lret rfl rfl
/-! 107: LoadRoom$Axles.commonDivisor(JJ)J -/
theorem s107_0 : mm_wp d 107 0 [.long w, l1, l2, l3, l4, l5, l6, l7, l8, l9, l10] st h Q ↔ mm_wp d 107 1 [.long w, l1, l2, l3, l4, l5, l6, l7, l8, l9, l10] (.long w :: st) h Q := wp_lload_n rfl rfl
theorem s107_1 : mm_wp d 107 1 [l0, l1, l2, l3, l4, l5, l6, l7, l8, l9, l10] (.long w :: st) h Q ↔ mm_wp d 107 3 [l0, l1, l2, l3, .long w, mm_j, l6, l7, l8, l9, l10] st h Q := wp_lstore rfl rfl
theorem s107_3 : mm_wp d 107 3 [l0, l1, .long w, l3, l4, l5, l6, l7, l8, l9, l10] st h Q ↔ mm_wp d 107 4 [l0, l1, .long w, l3, l4, l5, l6, l7, l8, l9, l10] (.long w :: st) h Q := wp_lload_n rfl rfl
theorem s107_4 : mm_wp d 107 4 [l0, l1, l2, l3, l4, l5, l6, l7, l8, l9, l10] (.long w :: st) h Q ↔ mm_wp d 107 6 [l0, l1, l2, l3, l4, l5, .long w, mm_j, l8, l9, l10] st h Q := wp_lstore rfl rfl
theorem s107_6 : mm_wp d 107 6 ls st h Q ↔ mm_wp d 107 7 ls (.int (0 : Int32) :: st) h Q := wp_iconst rfl rfl
theorem s107_7 : mm_wp d 107 7 [l0, l1, l2, l3, l4, l5, l6, l7, l8, l9, l10] (.int x :: st) h Q ↔ mm_wp d 107 9 [l0, l1, l2, l3, l4, l5, l6, l7, .int x, l9, l10] st h Q := wp_istore rfl rfl
theorem s107_9 : mm_wp d 107 9 [l0, l1, l2, l3, l4, l5, l6, l7, .int x, l9, l10] st h Q ↔ mm_wp d 107 11 [l0, l1, l2, l3, l4, l5, l6, l7, .int x, l9, l10] (.int x :: st) h Q := wp_iload rfl rfl
theorem s107_11 : mm_wp d 107 11 ls st h Q ↔ mm_wp d 107 14 ls (.int (1000 : Int32) :: st) h Q := wp_sipush rfl rfl
theorem s107_14 : mm_wp d 107 14 ls (.int x2 :: .int x :: st) h Q ↔ if x2 ≤ x then mm_wp d 107 45 ls st h Q else mm_wp d 107 17 ls st h Q := wp_icmpge rfl rfl
theorem s107_17 : mm_wp d 107 17 [l0, l1, l2, l3, l4, l5, .long w, l7, l8, l9, l10] st h Q ↔ mm_wp d 107 19 [l0, l1, l2, l3, l4, l5, .long w, l7, l8, l9, l10] (.long w :: st) h Q := wp_lload rfl rfl
theorem s107_19 : mm_wp d 107 19 ls st h Q ↔ mm_wp d 107 20 ls (.long (0 : Int64) :: st) h Q := wp_lconst rfl rfl
theorem s107_20 : mm_wp d 107 20 ls (.long w2 :: .long w :: st) h Q ↔ mm_wp d 107 21 ls (.int (if w2 < w then 1 else if w = w2 then 0 else -1) :: st) h Q := wp_lcmp rfl
theorem s107_21 : mm_wp d 107 21 ls (.int x :: st) h Q ↔ if x = 0 then mm_wp d 107 45 ls st h Q else mm_wp d 107 24 ls st h Q := wp_ifeq rfl rfl
theorem s107_24 : mm_wp d 107 24 [l0, l1, l2, l3, .long w, l5, l6, l7, l8, l9, l10] st h Q ↔ mm_wp d 107 26 [l0, l1, l2, l3, .long w, l5, l6, l7, l8, l9, l10] (.long w :: st) h Q := wp_lload rfl rfl
theorem s107_26 : mm_wp d 107 26 [l0, l1, l2, l3, l4, l5, .long w, l7, l8, l9, l10] st h Q ↔ mm_wp d 107 28 [l0, l1, l2, l3, l4, l5, .long w, l7, l8, l9, l10] (.long w :: st) h Q := wp_lload rfl rfl
theorem s107_28 : mm_wp d 107 28 ls (.long w2 :: .long w :: st) h Q ↔ ¬ w2 = 0 ∧ mm_wp d 107 29 ls (.long (w - w / w2 * w2) :: st) h Q := wp_lrem rfl
theorem s107_29 : mm_wp d 107 29 [l0, l1, l2, l3, l4, l5, l6, l7, l8, l9, l10] (.long w :: st) h Q ↔ mm_wp d 107 31 [l0, l1, l2, l3, l4, l5, l6, l7, l8, .long w, mm_j] st h Q := wp_lstore rfl rfl
theorem s107_31 : mm_wp d 107 31 [l0, l1, l2, l3, l4, l5, .long w, l7, l8, l9, l10] st h Q ↔ mm_wp d 107 33 [l0, l1, l2, l3, l4, l5, .long w, l7, l8, l9, l10] (.long w :: st) h Q := wp_lload rfl rfl
theorem s107_33 : mm_wp d 107 33 [l0, l1, l2, l3, l4, l5, l6, l7, l8, l9, l10] (.long w :: st) h Q ↔ mm_wp d 107 35 [l0, l1, l2, l3, .long w, mm_j, l6, l7, l8, l9, l10] st h Q := wp_lstore rfl rfl
theorem s107_35 : mm_wp d 107 35 [l0, l1, l2, l3, l4, l5, l6, l7, l8, .long w, l10] st h Q ↔ mm_wp d 107 37 [l0, l1, l2, l3, l4, l5, l6, l7, l8, .long w, l10] (.long w :: st) h Q := wp_lload rfl rfl
theorem s107_37 : mm_wp d 107 37 [l0, l1, l2, l3, l4, l5, l6, l7, l8, l9, l10] (.long w :: st) h Q ↔ mm_wp d 107 39 [l0, l1, l2, l3, l4, l5, .long w, mm_j, l8, l9, l10] st h Q := wp_lstore rfl rfl
theorem s107_39 : mm_wp d 107 39 [l0, l1, l2, l3, l4, l5, l6, l7, .int x, l9, l10] st h Q ↔ mm_wp d 107 42 [l0, l1, l2, l3, l4, l5, l6, l7, .int (x + (1 : Int32)), l9, l10] st h Q := wp_iinc rfl rfl rfl rfl
theorem s107_42 : mm_wp d 107 42 ls st h Q ↔ mm_wp d 107 9 ls st h Q := wp_goto rfl rfl
theorem s107_45 : mm_wp d 107 45 [l0, l1, l2, l3, .long w, l5, l6, l7, l8, l9, l10] st h Q ↔ mm_wp d 107 47 [l0, l1, l2, l3, .long w, l5, l6, l7, l8, l9, l10] (.long w :: st) h Q := wp_lload rfl rfl
theorem s107_47 : mm_wp d 107 47 ls (.long w :: st) h Q ↔ Q (.inl (some (.long w))) h := wp_lret rfl rfl
/-! 108: LoadRoomModel.<init>(III)V -/
theorem s108_0 : mm_wp d 108 0 [.ref a, l1, l2, l3] st h Q ↔ mm_wp d 108 1 [.ref a, l1, l2, l3] (.ref a :: st) h Q := wp_aloadR_n rfl rfl
theorem s108_1 : mm_wp d 108 1 ls (.ref a :: []) h Q ↔ mm_wp d 108 4 ls [] h Q := wp_objInit rfl rfl (Nat.le_of_ble_eq_true rfl)
theorem s108_4 : mm_wp d 108 4 [.ref a, l1, l2, l3] st h Q ↔ mm_wp d 108 5 [.ref a, l1, l2, l3] (.ref a :: st) h Q := wp_aloadR_n rfl rfl
theorem s108_5 : mm_wp d 108 5 ls st h Q ↔ mm_wp d 108 6 ls (.int (3 : Int32) :: st) h Q := wp_iconst rfl rfl
theorem s108_6 : mm_wp d 108 6 ls (.int x :: st) h Q ↔ (0 ≤ x ∧ x ≤ 1000) ∧ mm_wp d 108 8 ls (.ref (mm_n h) :: st) (mm_nw h 20 x.toNatClampNeg x.toNatClampNeg) Q := wp_newI rfl
theorem s108_8 : mm_wp d 108 8 ls (.ref b :: .ref a :: st) h Q ↔ (mm_s h a).1 = 10 ∧ mm_wp d 108 11 ls st (mm_pr h a 1 (some b)) Q := wp_putR rfl rfl
theorem s108_11 : mm_wp d 108 11 [.ref a, l1, l2, l3] st h Q ↔ mm_wp d 108 12 [.ref a, l1, l2, l3] (.ref a :: st) h Q := wp_aloadR_n rfl rfl
theorem s108_12 : mm_wp d 108 12 ls st h Q ↔ mm_wp d 108 14 ls (.int (24 : Int32) :: st) h Q := wp_bipush rfl rfl
theorem s108_14 : mm_wp d 108 14 ls (.int x :: st) h Q ↔ (0 ≤ x ∧ x ≤ 1000) ∧ mm_wp d 108 16 ls (.ref (mm_n h) :: st) (mm_nw h 20 x.toNatClampNeg x.toNatClampNeg) Q := wp_newI rfl
theorem s108_16 : mm_wp d 108 16 ls (.ref b :: .ref a :: st) h Q ↔ (mm_s h a).1 = 10 ∧ mm_wp d 108 19 ls st (mm_pr h a 3 (some b)) Q := wp_putR rfl rfl
theorem s108_19 : mm_wp d 108 19 [.ref a, l1, l2, l3] st h Q ↔ mm_wp d 108 20 [.ref a, l1, l2, l3] (.ref a :: st) h Q := wp_aloadR_n rfl rfl
theorem s108_20 : mm_wp d 108 20 ls st h Q ↔ mm_wp d 108 22 ls (.int (8 : Int32) :: st) h Q := wp_bipush rfl rfl
theorem s108_22 : mm_wp d 108 22 ls (.int x :: st) h Q ↔ (0 ≤ x ∧ x ≤ 1000) ∧ mm_wp d 108 24 ls (.ref (mm_n h) :: st) (mm_nw h 20 x.toNatClampNeg x.toNatClampNeg) Q := wp_newI rfl
theorem s108_24 : mm_wp d 108 24 ls (.ref b :: .ref a :: st) h Q ↔ (mm_s h a).1 = 10 ∧ mm_wp d 108 27 ls st (mm_pr h a 4 (some b)) Q := wp_putR rfl rfl
theorem s108_27 : mm_wp d 108 27 [.ref a, l1, l2, l3] st h Q ↔ mm_wp d 108 28 [.ref a, l1, l2, l3] (.ref a :: st) h Q := wp_aloadR_n rfl rfl
theorem s108_28 : mm_wp d 108 28 ls st h Q ↔ mm_wp d 108 30 ls (.int (8 : Int32) :: st) h Q := wp_bipush rfl rfl
theorem s108_30 : mm_wp d 108 30 ls (.int x :: st) h Q ↔ (0 ≤ x ∧ x ≤ 1000) ∧ mm_wp d 108 32 ls (.ref (mm_n h) :: st) (mm_nw h 20 x.toNatClampNeg x.toNatClampNeg) Q := wp_newI rfl
theorem s108_32 : mm_wp d 108 32 ls (.ref b :: .ref a :: st) h Q ↔ (mm_s h a).1 = 10 ∧ mm_wp d 108 35 ls st (mm_pr h a 5 (some b)) Q := wp_putR rfl rfl
theorem s108_35 : mm_wp d 108 35 [.ref a, l1, l2, l3] st h Q ↔ mm_wp d 108 36 [.ref a, l1, l2, l3] (.ref a :: st) h Q := wp_aloadR_n rfl rfl
theorem s108_36 : mm_wp d 108 36 ls st h Q ↔ mm_wp d 108 38 ls (.int (8 : Int32) :: st) h Q := wp_bipush rfl rfl
theorem s108_38 : mm_wp d 108 38 ls (.int x :: st) h Q ↔ (0 ≤ x ∧ x ≤ 1000) ∧ mm_wp d 108 40 ls (.ref (mm_n h) :: st) (mm_nw h 20 x.toNatClampNeg x.toNatClampNeg) Q := wp_newI rfl
theorem s108_40 : mm_wp d 108 40 ls (.ref b :: .ref a :: st) h Q ↔ (mm_s h a).1 = 10 ∧ mm_wp d 108 43 ls st (mm_pr h a 6 (some b)) Q := wp_putR rfl rfl
theorem s108_43 : mm_wp d 108 43 [.ref a, l1, l2, l3] st h Q ↔ mm_wp d 108 44 [.ref a, l1, l2, l3] (.ref a :: st) h Q := wp_aloadR_n rfl rfl
theorem s108_44 : mm_wp d 108 44 ls st h Q ↔ mm_wp d 108 46 ls (.int (8 : Int32) :: st) h Q := wp_bipush rfl rfl
theorem s108_46 : mm_wp d 108 46 ls (.int x :: st) h Q ↔ (0 ≤ x ∧ x ≤ 1000) ∧ mm_wp d 108 48 ls (.ref (mm_n h) :: st) (mm_nw h 20 x.toNatClampNeg x.toNatClampNeg) Q := wp_newI rfl
theorem s108_48 : mm_wp d 108 48 ls (.ref b :: .ref a :: st) h Q ↔ (mm_s h a).1 = 10 ∧ mm_wp d 108 51 ls st (mm_pr h a 7 (some b)) Q := wp_putR rfl rfl
theorem s108_51 : mm_wp d 108 51 [.ref a, l1, l2, l3] st h Q ↔ mm_wp d 108 52 [.ref a, l1, l2, l3] (.ref a :: st) h Q := wp_aloadR_n rfl rfl
theorem s108_52 : mm_wp d 108 52 ls st h Q ↔ mm_wp d 108 54 ls (.int (8 : Int32) :: st) h Q := wp_bipush rfl rfl
theorem s108_54 : mm_wp d 108 54 ls (.int x :: st) h Q ↔ (0 ≤ x ∧ x ≤ 1000) ∧ mm_wp d 108 56 ls (.ref (mm_n h) :: st) (mm_nw h 20 x.toNatClampNeg x.toNatClampNeg) Q := wp_newI rfl
theorem s108_56 : mm_wp d 108 56 ls (.ref b :: .ref a :: st) h Q ↔ (mm_s h a).1 = 10 ∧ mm_wp d 108 59 ls st (mm_pr h a 9 (some b)) Q := wp_putR rfl rfl
theorem s108_59 : mm_wp d 108 59 [.ref a, l1, l2, l3] st h Q ↔ mm_wp d 108 60 [.ref a, l1, l2, l3] (.ref a :: st) h Q := wp_aloadR_n rfl rfl
theorem s108_60 : mm_wp d 108 60 ls st h Q ↔ mm_wp d 108 62 ls (.int (8 : Int32) :: st) h Q := wp_bipush rfl rfl
theorem s108_62 : mm_wp d 108 62 ls (.int x :: st) h Q ↔ (0 ≤ x ∧ x ≤ 1000) ∧ mm_wp d 108 64 ls (.ref (mm_n h) :: st) (mm_nw h 20 x.toNatClampNeg x.toNatClampNeg) Q := wp_newI rfl
theorem s108_64 : mm_wp d 108 64 ls (.ref b :: .ref a :: st) h Q ↔ (mm_s h a).1 = 10 ∧ mm_wp d 108 67 ls st (mm_pr h a 10 (some b)) Q := wp_putR rfl rfl
theorem s108_67 : mm_wp d 108 67 [.ref a, l1, l2, l3] st h Q ↔ mm_wp d 108 68 [.ref a, l1, l2, l3] (.ref a :: st) h Q := wp_aloadR_n rfl rfl
theorem s108_68 : mm_wp d 108 68 ls st h Q ↔ mm_wp d 108 70 ls (.int (24 : Int32) :: st) h Q := wp_bipush rfl rfl
theorem s108_70 : mm_wp d 108 70 ls (.int x :: st) h Q ↔ (0 ≤ x ∧ x ≤ 1000) ∧ mm_wp d 108 72 ls (.ref (mm_n h) :: st) (mm_nw h 20 x.toNatClampNeg x.toNatClampNeg) Q := wp_newI rfl
theorem s108_72 : mm_wp d 108 72 ls (.ref b :: .ref a :: st) h Q ↔ (mm_s h a).1 = 10 ∧ mm_wp d 108 75 ls st (mm_pr h a 11 (some b)) Q := wp_putR rfl rfl
theorem s108_75 : mm_wp d 108 75 [.ref a, l1, l2, l3] st h Q ↔ mm_wp d 108 76 [.ref a, l1, l2, l3] (.ref a :: st) h Q := wp_aloadR_n rfl rfl
theorem s108_76 : mm_wp d 108 76 ls st h Q ↔ mm_wp d 108 78 ls (.int (24 : Int32) :: st) h Q := wp_bipush rfl rfl
theorem s108_78 : mm_wp d 108 78 ls (.int x :: st) h Q ↔ (0 ≤ x ∧ x ≤ 1000) ∧ mm_wp d 108 80 ls (.ref (mm_n h) :: st) (mm_nw h 20 x.toNatClampNeg x.toNatClampNeg) Q := wp_newI rfl
theorem s108_80 : mm_wp d 108 80 ls (.ref b :: .ref a :: st) h Q ↔ (mm_s h a).1 = 10 ∧ mm_wp d 108 83 ls st (mm_pr h a 12 (some b)) Q := wp_putR rfl rfl
theorem s108_83 : mm_wp d 108 83 [.ref a, l1, l2, l3] st h Q ↔ mm_wp d 108 84 [.ref a, l1, l2, l3] (.ref a :: st) h Q := wp_aloadR_n rfl rfl
theorem s108_84 : mm_wp d 108 84 ls st h Q ↔ mm_wp d 108 86 ls (.int (8 : Int32) :: st) h Q := wp_bipush rfl rfl
theorem s108_86 : mm_wp d 108 86 ls (.int x :: st) h Q ↔ (0 ≤ x ∧ x ≤ 1000) ∧ mm_wp d 108 88 ls (.ref (mm_n h) :: st) (mm_nw h 20 x.toNatClampNeg x.toNatClampNeg) Q := wp_newI rfl
theorem s108_88 : mm_wp d 108 88 ls (.ref b :: .ref a :: st) h Q ↔ (mm_s h a).1 = 10 ∧ mm_wp d 108 91 ls st (mm_pr h a 13 (some b)) Q := wp_putR rfl rfl
theorem s108_91 : mm_wp d 108 91 [.ref a, l1, l2, l3] st h Q ↔ mm_wp d 108 92 [.ref a, l1, l2, l3] (.ref a :: st) h Q := wp_aloadR_n rfl rfl
theorem s108_92 : mm_wp d 108 92 ls st h Q ↔ mm_wp d 108 94 ls (.int (8 : Int32) :: st) h Q := wp_bipush rfl rfl
theorem s108_94 : mm_wp d 108 94 ls (.int x :: st) h Q ↔ (0 ≤ x ∧ x ≤ 1000) ∧ mm_wp d 108 96 ls (.ref (mm_n h) :: st) (mm_nw h 22 x.toNatClampNeg x.toNatClampNeg) Q := wp_newZ rfl
theorem s108_96 : mm_wp d 108 96 ls (.ref b :: .ref a :: st) h Q ↔ (mm_s h a).1 = 10 ∧ mm_wp d 108 99 ls st (mm_pr h a 14 (some b)) Q := wp_putR rfl rfl
theorem s108_99 : mm_wp d 108 99 [.ref a, l1, l2, l3] st h Q ↔ mm_wp d 108 100 [.ref a, l1, l2, l3] (.ref a :: st) h Q := wp_aloadR_n rfl rfl
theorem s108_100 : mm_wp d 108 100 ls st h Q ↔ mm_wp d 108 102 ls (.int (9 : Int32) :: st) h Q := wp_bipush rfl rfl
theorem s108_102 : mm_wp d 108 102 ls (.int x :: st) h Q ↔ (0 ≤ x ∧ x ≤ 1000) ∧ mm_wp d 108 104 ls (.ref (mm_n h) :: st) (mm_nw h 20 x.toNatClampNeg x.toNatClampNeg) Q := wp_newI rfl
theorem s108_104 : mm_wp d 108 104 ls (.ref b :: .ref a :: st) h Q ↔ (mm_s h a).1 = 10 ∧ mm_wp d 108 107 ls st (mm_pr h a 15 (some b)) Q := wp_putR rfl rfl
theorem s108_107 : mm_wp d 108 107 [.ref a, l1, l2, l3] st h Q ↔ mm_wp d 108 108 [.ref a, l1, l2, l3] (.ref a :: st) h Q := wp_aloadR_n rfl rfl
theorem s108_108 : mm_wp d 108 108 ls st h Q ↔ mm_wp d 108 110 ls (.int (9 : Int32) :: st) h Q := wp_bipush rfl rfl
theorem s108_110 : mm_wp d 108 110 ls (.int x :: st) h Q ↔ (0 ≤ x ∧ x ≤ 1000) ∧ mm_wp d 108 112 ls (.ref (mm_n h) :: st) (mm_nw h 20 x.toNatClampNeg x.toNatClampNeg) Q := wp_newI rfl
theorem s108_112 : mm_wp d 108 112 ls (.ref b :: .ref a :: st) h Q ↔ (mm_s h a).1 = 10 ∧ mm_wp d 108 115 ls st (mm_pr h a 16 (some b)) Q := wp_putR rfl rfl
theorem s108_115 : mm_wp d 108 115 [.ref a, l1, l2, l3] st h Q ↔ mm_wp d 108 116 [.ref a, l1, l2, l3] (.ref a :: st) h Q := wp_aloadR_n rfl rfl
theorem s108_116 : mm_wp d 108 116 ls st h Q ↔ mm_wp d 108 118 ls (.int (9 : Int32) :: st) h Q := wp_bipush rfl rfl
theorem s108_118 : mm_wp d 108 118 ls (.int x :: st) h Q ↔ (0 ≤ x ∧ x ≤ 1000) ∧ mm_wp d 108 120 ls (.ref (mm_n h) :: st) (mm_nw h 20 x.toNatClampNeg x.toNatClampNeg) Q := wp_newI rfl
theorem s108_120 : mm_wp d 108 120 ls (.ref b :: .ref a :: st) h Q ↔ (mm_s h a).1 = 10 ∧ mm_wp d 108 123 ls st (mm_pr h a 17 (some b)) Q := wp_putR rfl rfl
theorem s108_123 : mm_wp d 108 123 [.ref a, l1, l2, l3] st h Q ↔ mm_wp d 108 124 [.ref a, l1, l2, l3] (.ref a :: st) h Q := wp_aloadR_n rfl rfl
theorem s108_124 : mm_wp d 108 124 ls st h Q ↔ mm_wp d 108 127 ls (.int (243 : Int32) :: st) h Q := wp_sipush rfl rfl
theorem s108_127 : mm_wp d 108 127 ls (.int x :: st) h Q ↔ (0 ≤ x ∧ x ≤ 1000) ∧ mm_wp d 108 129 ls (.ref (mm_n h) :: st) (mm_nw h 20 x.toNatClampNeg x.toNatClampNeg) Q := wp_newI rfl
theorem s108_129 : mm_wp d 108 129 ls (.ref b :: .ref a :: st) h Q ↔ (mm_s h a).1 = 10 ∧ mm_wp d 108 132 ls st (mm_pr h a 18 (some b)) Q := wp_putR rfl rfl
theorem s108_132 : mm_wp d 108 132 [.ref a, l1, l2, l3] st h Q ↔ mm_wp d 108 133 [.ref a, l1, l2, l3] (.ref a :: st) h Q := wp_aloadR_n rfl rfl
theorem s108_133 : mm_wp d 108 133 ls st h Q ↔ mm_wp d 108 135 ls (.int (27 : Int32) :: st) h Q := wp_bipush rfl rfl
theorem s108_135 : mm_wp d 108 135 ls (.int x :: st) h Q ↔ (0 ≤ x ∧ x ≤ 1000) ∧ mm_wp d 108 137 ls (.ref (mm_n h) :: st) (mm_nw h 20 x.toNatClampNeg x.toNatClampNeg) Q := wp_newI rfl
theorem s108_137 : mm_wp d 108 137 ls (.ref b :: .ref a :: st) h Q ↔ (mm_s h a).1 = 10 ∧ mm_wp d 108 140 ls st (mm_pr h a 19 (some b)) Q := wp_putR rfl rfl
theorem s108_140 : mm_wp d 108 140 [.ref a, l1, l2, l3] st h Q ↔ mm_wp d 108 141 [.ref a, l1, l2, l3] (.ref a :: st) h Q := wp_aloadR_n rfl rfl
theorem s108_141 : mm_wp d 108 141 ls st h Q ↔ mm_wp d 108 143 ls (.int (8 : Int32) :: st) h Q := wp_bipush rfl rfl
theorem s108_143 : mm_wp d 108 143 ls (.int x :: st) h Q ↔ (0 ≤ x ∧ x ≤ 1000) ∧ mm_wp d 108 145 ls (.ref (mm_n h) :: st) (mm_nw h 20 x.toNatClampNeg x.toNatClampNeg) Q := wp_newI rfl
theorem s108_145 : mm_wp d 108 145 ls (.ref b :: .ref a :: st) h Q ↔ (mm_s h a).1 = 10 ∧ mm_wp d 108 148 ls st (mm_pr h a 26 (some b)) Q := wp_putR rfl rfl
theorem s108_148 : mm_wp d 108 148 [.ref a, l1, l2, l3] st h Q ↔ mm_wp d 108 149 [.ref a, l1, l2, l3] (.ref a :: st) h Q := wp_aloadR_n rfl rfl
theorem s108_149 : mm_wp d 108 149 ls st h Q ↔ mm_wp d 108 151 ls (.int (8 : Int32) :: st) h Q := wp_bipush rfl rfl
theorem s108_151 : mm_wp d 108 151 ls (.int x :: st) h Q ↔ (0 ≤ x ∧ x ≤ 1000) ∧ mm_wp d 108 153 ls (.ref (mm_n h) :: st) (mm_nw h 20 x.toNatClampNeg x.toNatClampNeg) Q := wp_newI rfl
theorem s108_153 : mm_wp d 108 153 ls (.ref b :: .ref a :: st) h Q ↔ (mm_s h a).1 = 10 ∧ mm_wp d 108 156 ls st (mm_pr h a 27 (some b)) Q := wp_putR rfl rfl
theorem s108_156 : mm_wp d 108 156 [.ref a, l1, l2, l3] st h Q ↔ mm_wp d 108 157 [.ref a, l1, l2, l3] (.ref a :: st) h Q := wp_aloadR_n rfl rfl
theorem s108_157 : mm_wp d 108 157 ls st h Q ↔ mm_wp d 108 159 ls (.int (24 : Int32) :: st) h Q := wp_bipush rfl rfl
theorem s108_159 : mm_wp d 108 159 ls (.int x :: st) h Q ↔ (0 ≤ x ∧ x ≤ 1000) ∧ mm_wp d 108 161 ls (.ref (mm_n h) :: st) (mm_nw h 20 x.toNatClampNeg x.toNatClampNeg) Q := wp_newI rfl
theorem s108_161 : mm_wp d 108 161 ls (.ref b :: .ref a :: st) h Q ↔ (mm_s h a).1 = 10 ∧ mm_wp d 108 164 ls st (mm_pr h a 28 (some b)) Q := wp_putR rfl rfl
theorem s108_164 : mm_wp d 108 164 [.ref a, l1, l2, l3] st h Q ↔ mm_wp d 108 165 [.ref a, l1, l2, l3] (.ref a :: st) h Q := wp_aloadR_n rfl rfl
theorem s108_165 : mm_wp d 108 165 ls st h Q ↔ mm_wp d 108 167 ls (.int (24 : Int32) :: st) h Q := wp_bipush rfl rfl
theorem s108_167 : mm_wp d 108 167 ls (.int x :: st) h Q ↔ (0 ≤ x ∧ x ≤ 1000) ∧ mm_wp d 108 169 ls (.ref (mm_n h) :: st) (mm_nw h 20 x.toNatClampNeg x.toNatClampNeg) Q := wp_newI rfl
theorem s108_169 : mm_wp d 108 169 ls (.ref b :: .ref a :: st) h Q ↔ (mm_s h a).1 = 10 ∧ mm_wp d 108 172 ls st (mm_pr h a 29 (some b)) Q := wp_putR rfl rfl
theorem s108_172 : mm_wp d 108 172 [.ref a, l1, l2, l3] st h Q ↔ mm_wp d 108 173 [.ref a, l1, l2, l3] (.ref a :: st) h Q := wp_aloadR_n rfl rfl
theorem s108_173 : mm_wp d 108 173 ls st h Q ↔ mm_wp d 108 175 ls (.int (8 : Int32) :: st) h Q := wp_bipush rfl rfl
theorem s108_175 : mm_wp d 108 175 ls (.int x :: st) h Q ↔ (0 ≤ x ∧ x ≤ 1000) ∧ mm_wp d 108 177 ls (.ref (mm_n h) :: st) (mm_nw h 20 x.toNatClampNeg x.toNatClampNeg) Q := wp_newI rfl
theorem s108_177 : mm_wp d 108 177 ls (.ref b :: .ref a :: st) h Q ↔ (mm_s h a).1 = 10 ∧ mm_wp d 108 180 ls st (mm_pr h a 30 (some b)) Q := wp_putR rfl rfl
theorem s108_180 : mm_wp d 108 180 [.ref a, l1, l2, l3] st h Q ↔ mm_wp d 108 181 [.ref a, l1, l2, l3] (.ref a :: st) h Q := wp_aloadR_n rfl rfl
theorem s108_181 : mm_wp d 108 181 ls st h Q ↔ mm_wp d 108 183 ls (.int (6 : Int32) :: st) h Q := wp_bipush rfl rfl
theorem s108_183 : mm_wp d 108 183 ls (.int x :: st) h Q ↔ (0 ≤ x ∧ x ≤ 1000) ∧ mm_wp d 108 185 ls (.ref (mm_n h) :: st) (mm_nw h 20 x.toNatClampNeg x.toNatClampNeg) Q := wp_newI rfl
theorem s108_185 : mm_wp d 108 185 ls (.ref b :: .ref a :: st) h Q ↔ (mm_s h a).1 = 10 ∧ mm_wp d 108 188 ls st (mm_pr h a 32 (some b)) Q := wp_putR rfl rfl
theorem s108_188 : mm_wp d 108 188 [.ref a, l1, l2, l3] st h Q ↔ mm_wp d 108 189 [.ref a, l1, l2, l3] (.ref a :: st) h Q := wp_aloadR_n rfl rfl
theorem s108_189 : mm_wp d 108 189 ls st h Q ↔ mm_wp d 108 190 ls (.int (3 : Int32) :: st) h Q := wp_iconst rfl rfl
theorem s108_190 : mm_wp d 108 190 ls (.int x :: st) h Q ↔ (0 ≤ x ∧ x ≤ 1000) ∧ mm_wp d 108 192 ls (.ref (mm_n h) :: st) (mm_nw h 20 x.toNatClampNeg x.toNatClampNeg) Q := wp_newI rfl
theorem s108_192 : mm_wp d 108 192 ls (.ref b :: .ref a :: st) h Q ↔ (mm_s h a).1 = 10 ∧ mm_wp d 108 195 ls st (mm_pr h a 33 (some b)) Q := wp_putR rfl rfl
theorem s108_195 : mm_wp d 108 195 [.ref a, l1, l2, l3] st h Q ↔ mm_wp d 108 196 [.ref a, l1, l2, l3] (.ref a :: st) h Q := wp_aloadR_n rfl rfl
theorem s108_196 : mm_wp d 108 196 ls (.ref a :: st) h Q ↔ (mm_s h a).1 = 10 ∧ mm_wp d 108 199 ls (mm_o (mm_r h a 1) :: st) h Q := wp_getR rfl rfl
theorem s108_199 : mm_wp d 108 199 ls st h Q ↔ mm_wp d 108 200 ls (.int (0 : Int32) :: st) h Q := wp_iconst rfl rfl
theorem s108_200 : mm_wp d 108 200 [l0, .int x, l2, l3] st h Q ↔ mm_wp d 108 201 [l0, .int x, l2, l3] (.int x :: st) h Q := wp_iload_n rfl rfl
theorem s108_201 : mm_wp (d + 1) 108 201 ls [.int x, t1, t0] h Q ↔ mm_wp d 109 0 [.int x] [] h (mm_bk (d + 1) 108 201 ls [t1, t0] Q) := wp_static rfl rfl ⟨by decide, rfl⟩ ⟨Nat.le_of_ble_eq_true rfl, Nat.le_of_ble_eq_true rfl⟩ rfl rfl rfl rfl
theorem s108_204 : mm_wp d 108 204 ls (.int x2 :: .int x :: .ref a :: st) h Q ↔ ((mm_s h a).1 = 20 ∧ ¬ a = 0 ∧ mm_in x (mm_s h a).2 = true) ∧ mm_wp d 108 205 ls st (mm_pi h a x.toNatClampNeg x2) Q := wp_iastore rfl
theorem s108_205 : mm_wp d 108 205 [.ref a, l1, l2, l3] st h Q ↔ mm_wp d 108 206 [.ref a, l1, l2, l3] (.ref a :: st) h Q := wp_aloadR_n rfl rfl
theorem s108_206 : mm_wp d 108 206 ls (.ref a :: st) h Q ↔ (mm_s h a).1 = 10 ∧ mm_wp d 108 209 ls (mm_o (mm_r h a 1) :: st) h Q := wp_getR rfl rfl
theorem s108_209 : mm_wp d 108 209 ls st h Q ↔ mm_wp d 108 210 ls (.int (1 : Int32) :: st) h Q := wp_iconst rfl rfl
theorem s108_210 : mm_wp d 108 210 [l0, l1, .int x, l3] st h Q ↔ mm_wp d 108 211 [l0, l1, .int x, l3] (.int x :: st) h Q := wp_iload_n rfl rfl
theorem s108_211 : mm_wp (d + 1) 108 211 ls [.int x, t1, t0] h Q ↔ mm_wp d 109 0 [.int x] [] h (mm_bk (d + 1) 108 211 ls [t1, t0] Q) := wp_static rfl rfl ⟨by decide, rfl⟩ ⟨Nat.le_of_ble_eq_true rfl, Nat.le_of_ble_eq_true rfl⟩ rfl rfl rfl rfl
theorem s108_214 : mm_wp d 108 214 ls (.int x2 :: .int x :: .ref a :: st) h Q ↔ ((mm_s h a).1 = 20 ∧ ¬ a = 0 ∧ mm_in x (mm_s h a).2 = true) ∧ mm_wp d 108 215 ls st (mm_pi h a x.toNatClampNeg x2) Q := wp_iastore rfl
theorem s108_215 : mm_wp d 108 215 [.ref a, l1, l2, l3] st h Q ↔ mm_wp d 108 216 [.ref a, l1, l2, l3] (.ref a :: st) h Q := wp_aloadR_n rfl rfl
theorem s108_216 : mm_wp d 108 216 ls (.ref a :: st) h Q ↔ (mm_s h a).1 = 10 ∧ mm_wp d 108 219 ls (mm_o (mm_r h a 1) :: st) h Q := wp_getR rfl rfl
theorem s108_219 : mm_wp d 108 219 ls st h Q ↔ mm_wp d 108 220 ls (.int (2 : Int32) :: st) h Q := wp_iconst rfl rfl
theorem s108_220 : mm_wp d 108 220 [l0, l1, l2, .int x] st h Q ↔ mm_wp d 108 221 [l0, l1, l2, .int x] (.int x :: st) h Q := wp_iload_n rfl rfl
theorem s108_221 : mm_wp (d + 1) 108 221 ls [.int x, t1, t0] h Q ↔ mm_wp d 109 0 [.int x] [] h (mm_bk (d + 1) 108 221 ls [t1, t0] Q) := wp_static rfl rfl ⟨by decide, rfl⟩ ⟨Nat.le_of_ble_eq_true rfl, Nat.le_of_ble_eq_true rfl⟩ rfl rfl rfl rfl
theorem s108_224 : mm_wp d 108 224 ls (.int x2 :: .int x :: .ref a :: st) h Q ↔ ((mm_s h a).1 = 20 ∧ ¬ a = 0 ∧ mm_in x (mm_s h a).2 = true) ∧ mm_wp d 108 225 ls st (mm_pi h a x.toNatClampNeg x2) Q := wp_iastore rfl
theorem s108_225 : mm_wp d 108 225 ls st h Q ↔ Q (.inl none) h := wp_vret rfl rfl
/-! 109: LoadRoomModel.brought(I)I -/
theorem s109_0 : mm_wp d 109 0 [.int x] st h Q ↔ mm_wp d 109 1 [.int x] (.int x :: st) h Q := wp_iload_n rfl rfl
theorem s109_1 : mm_wp d 109 1 ls st h Q ↔ mm_wp d 109 2 ls (.int (1 : Int32) :: st) h Q := wp_iconst rfl rfl
theorem s109_2 : mm_wp d 109 2 ls (.int x2 :: .int x :: st) h Q ↔ if x2 ≤ x then mm_wp d 109 9 ls st h Q else mm_wp d 109 5 ls st h Q := wp_icmpge rfl rfl
theorem s109_5 : mm_wp d 109 5 ls st h Q ↔ mm_wp d 109 6 ls (.int (1 : Int32) :: st) h Q := wp_iconst rfl rfl
theorem s109_6 : mm_wp d 109 6 ls st h Q ↔ mm_wp d 109 23 ls st h Q := wp_goto rfl rfl
theorem s109_9 : mm_wp d 109 9 [.int x] st h Q ↔ mm_wp d 109 10 [.int x] (.int x :: st) h Q := wp_iload_n rfl rfl
theorem s109_10 : mm_wp d 109 10 ls st h Q ↔ mm_wp d 109 13 ls (.int (200 : Int32) :: st) h Q := wp_sipush rfl rfl
theorem s109_13 : mm_wp d 109 13 ls (.int x2 :: .int x :: st) h Q ↔ if x ≤ x2 then mm_wp d 109 22 ls st h Q else mm_wp d 109 16 ls st h Q := wp_icmple rfl rfl
theorem s109_16 : mm_wp d 109 16 ls st h Q ↔ mm_wp d 109 19 ls (.int (200 : Int32) :: st) h Q := wp_sipush rfl rfl
theorem s109_19 : mm_wp d 109 19 ls st h Q ↔ mm_wp d 109 23 ls st h Q := wp_goto rfl rfl
theorem s109_22 : mm_wp d 109 22 [.int x] st h Q ↔ mm_wp d 109 23 [.int x] (.int x :: st) h Q := wp_iload_n rfl rfl
theorem s109_23 : mm_wp d 109 23 ls (.int x :: st) h Q ↔ Q (.inl (some (.int x))) h := wp_iret rfl rfl
/-! 110: LoadRoomModel.thrown()I -/
theorem s110_0 : mm_wp d 110 0 [.ref a] st h Q ↔ mm_wp d 110 1 [.ref a] (.ref a :: st) h Q := wp_aloadR_n rfl rfl
theorem s110_1 : mm_wp d 110 1 ls (.ref a :: st) h Q ↔ (mm_s h a).1 = 10 ∧ mm_wp d 110 4 ls (.int (mm_i h a 0) :: st) h Q := wp_getI rfl rfl (by decide) (by decide)
theorem s110_4 : mm_wp d 110 4 ls (.int x :: st) h Q ↔ Q (.inl (some (.int x))) h := wp_iret rfl rfl
/-! 111: LoadRoomModel.piece(IIII)I -/
theorem s111_0 : mm_wp d 111 0 [l0, .int x, l2, l3, l4, l5] st h Q ↔ mm_wp d 111 1 [l0, .int x, l2, l3, l4, l5] (.int x :: st) h Q := wp_iload_n rfl rfl
theorem s111_1 : mm_wp d 111 1 ls st h Q ↔ mm_wp d 111 2 ls (.int (1 : Int32) :: st) h Q := wp_iconst rfl rfl
theorem s111_2 : mm_wp d 111 2 ls st h Q ↔ mm_wp d 111 5 ls (.int (200 : Int32) :: st) h Q := wp_sipush rfl rfl
theorem s111_5 : mm_wp (d + 1) 111 5 ls [.int x3, .int x2, .int x] h Q ↔ mm_wp d 112 0 [.int x, .int x2, .int x3] [] h (mm_bk (d + 1) 111 5 ls [] Q) := wp_static rfl rfl ⟨by decide, rfl⟩ ⟨Nat.le_of_ble_eq_true rfl, Nat.le_of_ble_eq_true rfl⟩ rfl rfl rfl rfl
theorem s111_8 : mm_wp d 111 8 ls (.int x :: st) h Q ↔ if x = 0 then mm_wp d 111 49 ls st h Q else mm_wp d 111 11 ls st h Q := wp_ifeq rfl rfl
theorem s111_11 : mm_wp d 111 11 [l0, l1, .int x, l3, l4, l5] st h Q ↔ mm_wp d 111 12 [l0, l1, .int x, l3, l4, l5] (.int x :: st) h Q := wp_iload_n rfl rfl
theorem s111_12 : mm_wp d 111 12 ls st h Q ↔ mm_wp d 111 13 ls (.int (1 : Int32) :: st) h Q := wp_iconst rfl rfl
theorem s111_13 : mm_wp d 111 13 ls st h Q ↔ mm_wp d 111 16 ls (.int (200 : Int32) :: st) h Q := wp_sipush rfl rfl
theorem s111_16 : mm_wp (d + 1) 111 16 ls [.int x3, .int x2, .int x] h Q ↔ mm_wp d 112 0 [.int x, .int x2, .int x3] [] h (mm_bk (d + 1) 111 16 ls [] Q) := wp_static rfl rfl ⟨by decide, rfl⟩ ⟨Nat.le_of_ble_eq_true rfl, Nat.le_of_ble_eq_true rfl⟩ rfl rfl rfl rfl
theorem s111_19 : mm_wp d 111 19 ls (.int x :: st) h Q ↔ if x = 0 then mm_wp d 111 49 ls st h Q else mm_wp d 111 22 ls st h Q := wp_ifeq rfl rfl
theorem s111_22 : mm_wp d 111 22 [l0, l1, l2, .int x, l4, l5] st h Q ↔ mm_wp d 111 23 [l0, l1, l2, .int x, l4, l5] (.int x :: st) h Q := wp_iload_n rfl rfl
theorem s111_23 : mm_wp d 111 23 ls st h Q ↔ mm_wp d 111 24 ls (.int (1 : Int32) :: st) h Q := wp_iconst rfl rfl
theorem s111_24 : mm_wp d 111 24 ls st h Q ↔ mm_wp d 111 27 ls (.int (200 : Int32) :: st) h Q := wp_sipush rfl rfl
theorem s111_27 : mm_wp (d + 1) 111 27 ls [.int x3, .int x2, .int x] h Q ↔ mm_wp d 112 0 [.int x, .int x2, .int x3] [] h (mm_bk (d + 1) 111 27 ls [] Q) := wp_static rfl rfl ⟨by decide, rfl⟩ ⟨Nat.le_of_ble_eq_true rfl, Nat.le_of_ble_eq_true rfl⟩ rfl rfl rfl rfl
theorem s111_30 : mm_wp d 111 30 ls (.int x :: st) h Q ↔ if x = 0 then mm_wp d 111 49 ls st h Q else mm_wp d 111 33 ls st h Q := wp_ifeq rfl rfl
theorem s111_33 : mm_wp d 111 33 [l0, l1, l2, l3, .int x, l5] st h Q ↔ mm_wp d 111 35 [l0, l1, l2, l3, .int x, l5] (.int x :: st) h Q := wp_iload rfl rfl
theorem s111_35 : mm_wp d 111 35 ls st h Q ↔ mm_wp d 111 36 ls (.int (1 : Int32) :: st) h Q := wp_iconst rfl rfl
theorem s111_36 : mm_wp d 111 36 ls st h Q ↔ mm_wp d 111 39 ls (.int (10000 : Int32) :: st) h Q := wp_sipush rfl rfl
theorem s111_39 : mm_wp (d + 1) 111 39 ls [.int x3, .int x2, .int x] h Q ↔ mm_wp d 112 0 [.int x, .int x2, .int x3] [] h (mm_bk (d + 1) 111 39 ls [] Q) := wp_static rfl rfl ⟨by decide, rfl⟩ ⟨Nat.le_of_ble_eq_true rfl, Nat.le_of_ble_eq_true rfl⟩ rfl rfl rfl rfl
theorem s111_42 : mm_wp d 111 42 ls (.int x :: st) h Q ↔ if x = 0 then mm_wp d 111 49 ls st h Q else mm_wp d 111 45 ls st h Q := wp_ifeq rfl rfl
theorem s111_45 : mm_wp d 111 45 ls st h Q ↔ mm_wp d 111 46 ls (.int (1 : Int32) :: st) h Q := wp_iconst rfl rfl
theorem s111_46 : mm_wp d 111 46 ls st h Q ↔ mm_wp d 111 50 ls st h Q := wp_goto rfl rfl
theorem s111_49 : mm_wp d 111 49 ls st h Q ↔ mm_wp d 111 50 ls (.int (0 : Int32) :: st) h Q := wp_iconst rfl rfl
theorem s111_50 : mm_wp d 111 50 [l0, l1, l2, l3, l4, l5] (.int x :: st) h Q ↔ mm_wp d 111 52 [l0, l1, l2, l3, l4, .int x] st h Q := wp_istore rfl rfl
theorem s111_52 : mm_wp d 111 52 [.ref a, l1, l2, l3, l4, l5] st h Q ↔ mm_wp d 111 53 [.ref a, l1, l2, l3, l4, l5] (.ref a :: st) h Q := wp_aloadR_n rfl rfl
theorem s111_53 : mm_wp d 111 53 [l0, l1, l2, l3, l4, .int x] st h Q ↔ mm_wp d 111 55 [l0, l1, l2, l3, l4, .int x] (.int x :: st) h Q := wp_iload rfl rfl
theorem s111_55 : mm_wp d 111 55 ls (.int x :: st) h Q ↔ if x = 0 then mm_wp d 111 58 ls st h Q else mm_wp d 111 62 ls st h Q := wp_ifne rfl rfl
theorem s111_58 : mm_wp d 111 58 ls st h Q ↔ mm_wp d 111 59 ls (.int (1 : Int32) :: st) h Q := wp_iconst rfl rfl
theorem s111_59 : mm_wp d 111 59 ls st h Q ↔ mm_wp d 111 76 ls st h Q := wp_goto rfl rfl
theorem s111_62 : mm_wp d 111 62 [.ref a, l1, l2, l3, l4, l5] st h Q ↔ mm_wp d 111 63 [.ref a, l1, l2, l3, l4, l5] (.ref a :: st) h Q := wp_aloadR_n rfl rfl
theorem s111_63 : mm_wp d 111 63 ls (.ref a :: st) h Q ↔ (mm_s h a).1 = 10 ∧ mm_wp d 111 66 ls (.int (mm_i h a 2) :: st) h Q := wp_getI rfl rfl (by decide) (by decide)
theorem s111_66 : mm_wp d 111 66 ls st h Q ↔ mm_wp d 111 68 ls (.int (8 : Int32) :: st) h Q := wp_bipush rfl rfl
theorem s111_68 : mm_wp d 111 68 ls (.int x2 :: .int x :: st) h Q ↔ if x = x2 then mm_wp d 111 71 ls st h Q else mm_wp d 111 75 ls st h Q := wp_icmpne rfl rfl
theorem s111_71 : mm_wp d 111 71 ls st h Q ↔ mm_wp d 111 72 ls (.int (2 : Int32) :: st) h Q := wp_iconst rfl rfl
theorem s111_72 : mm_wp d 111 72 ls st h Q ↔ mm_wp d 111 76 ls st h Q := wp_goto rfl rfl
theorem s111_75 : mm_wp d 111 75 ls st h Q ↔ mm_wp d 111 76 ls (.int (0 : Int32) :: st) h Q := wp_iconst rfl rfl
theorem s111_76 : mm_wp d 111 76 ls (.int x :: .ref a :: st) h Q ↔ (mm_s h a).1 = 10 ∧ mm_wp d 111 79 ls st (mm_pi h a 0 x) Q := wp_putI rfl rfl
theorem s111_79 : mm_wp d 111 79 [.ref a, l1, l2, l3, l4, l5] st h Q ↔ mm_wp d 111 80 [.ref a, l1, l2, l3, l4, l5] (.ref a :: st) h Q := wp_aloadR_n rfl rfl
theorem s111_80 : mm_wp d 111 80 ls (.ref a :: st) h Q ↔ (mm_s h a).1 = 10 ∧ mm_wp d 111 83 ls (.int (mm_i h a 0) :: st) h Q := wp_getI rfl rfl (by decide) (by decide)
theorem s111_83 : mm_wp d 111 83 ls (.int x :: st) h Q ↔ if x ≤ 0 then mm_wp d 111 88 ls st h Q else mm_wp d 111 86 ls st h Q := wp_ifle rfl rfl
theorem s111_86 : mm_wp d 111 86 ls st h Q ↔ mm_wp d 111 87 ls (.int (0 : Int32) :: st) h Q := wp_iconst rfl rfl
theorem s111_87 : mm_wp d 111 87 ls (.int x :: st) h Q ↔ Q (.inl (some (.int x))) h := wp_iret rfl rfl
theorem s111_88 : mm_wp d 111 88 [.ref a, l1, l2, l3, l4, l5] st h Q ↔ mm_wp d 111 89 [.ref a, l1, l2, l3, l4, l5] (.ref a :: st) h Q := wp_aloadR_n rfl rfl
theorem s111_89 : mm_wp d 111 89 ls (.ref a :: st) h Q ↔ (mm_s h a).1 = 10 ∧ mm_wp d 111 92 ls (mm_o (mm_r h a 3) :: st) h Q := wp_getR rfl rfl
theorem s111_92 : mm_wp d 111 92 ls st h Q ↔ mm_wp d 111 93 ls (.int (3 : Int32) :: st) h Q := wp_iconst rfl rfl
theorem s111_93 : mm_wp d 111 93 [.ref a, l1, l2, l3, l4, l5] st h Q ↔ mm_wp d 111 94 [.ref a, l1, l2, l3, l4, l5] (.ref a :: st) h Q := wp_aloadR_n rfl rfl
theorem s111_94 : mm_wp d 111 94 ls (.ref a :: st) h Q ↔ (mm_s h a).1 = 10 ∧ mm_wp d 111 97 ls (.int (mm_i h a 2) :: st) h Q := wp_getI rfl rfl (by decide) (by decide)
theorem s111_97 : mm_wp d 111 97 ls (.int x2 :: .int x :: st) h Q ↔ mm_wp d 111 98 ls (.int (x * x2) :: st) h Q := wp_imul rfl
theorem s111_98 : mm_wp d 111 98 [l0, .int x, l2, l3, l4, l5] st h Q ↔ mm_wp d 111 99 [l0, .int x, l2, l3, l4, l5] (.int x :: st) h Q := wp_iload_n rfl rfl
theorem s111_99 : mm_wp d 111 99 ls (.int x2 :: .int x :: .ref a :: st) h Q ↔ ((mm_s h a).1 = 20 ∧ ¬ a = 0 ∧ mm_in x (mm_s h a).2 = true) ∧ mm_wp d 111 100 ls st (mm_pi h a x.toNatClampNeg x2) Q := wp_iastore rfl
theorem s111_100 : mm_wp d 111 100 [.ref a, l1, l2, l3, l4, l5] st h Q ↔ mm_wp d 111 101 [.ref a, l1, l2, l3, l4, l5] (.ref a :: st) h Q := wp_aloadR_n rfl rfl
theorem s111_101 : mm_wp d 111 101 ls (.ref a :: st) h Q ↔ (mm_s h a).1 = 10 ∧ mm_wp d 111 104 ls (mm_o (mm_r h a 3) :: st) h Q := wp_getR rfl rfl
theorem s111_104 : mm_wp d 111 104 ls st h Q ↔ mm_wp d 111 105 ls (.int (3 : Int32) :: st) h Q := wp_iconst rfl rfl
theorem s111_105 : mm_wp d 111 105 [.ref a, l1, l2, l3, l4, l5] st h Q ↔ mm_wp d 111 106 [.ref a, l1, l2, l3, l4, l5] (.ref a :: st) h Q := wp_aloadR_n rfl rfl
theorem s111_106 : mm_wp d 111 106 ls (.ref a :: st) h Q ↔ (mm_s h a).1 = 10 ∧ mm_wp d 111 109 ls (.int (mm_i h a 2) :: st) h Q := wp_getI rfl rfl (by decide) (by decide)
theorem s111_109 : mm_wp d 111 109 ls (.int x2 :: .int x :: st) h Q ↔ mm_wp d 111 110 ls (.int (x * x2) :: st) h Q := wp_imul rfl
theorem s111_110 : mm_wp d 111 110 ls st h Q ↔ mm_wp d 111 111 ls (.int (1 : Int32) :: st) h Q := wp_iconst rfl rfl
theorem s111_111 : mm_wp d 111 111 ls (.int x2 :: .int x :: st) h Q ↔ mm_wp d 111 112 ls (.int (x + x2) :: st) h Q := wp_iadd rfl
theorem s111_112 : mm_wp d 111 112 [l0, l1, .int x, l3, l4, l5] st h Q ↔ mm_wp d 111 113 [l0, l1, .int x, l3, l4, l5] (.int x :: st) h Q := wp_iload_n rfl rfl
theorem s111_113 : mm_wp d 111 113 ls (.int x2 :: .int x :: .ref a :: st) h Q ↔ ((mm_s h a).1 = 20 ∧ ¬ a = 0 ∧ mm_in x (mm_s h a).2 = true) ∧ mm_wp d 111 114 ls st (mm_pi h a x.toNatClampNeg x2) Q := wp_iastore rfl
theorem s111_114 : mm_wp d 111 114 [.ref a, l1, l2, l3, l4, l5] st h Q ↔ mm_wp d 111 115 [.ref a, l1, l2, l3, l4, l5] (.ref a :: st) h Q := wp_aloadR_n rfl rfl
theorem s111_115 : mm_wp d 111 115 ls (.ref a :: st) h Q ↔ (mm_s h a).1 = 10 ∧ mm_wp d 111 118 ls (mm_o (mm_r h a 3) :: st) h Q := wp_getR rfl rfl
theorem s111_118 : mm_wp d 111 118 ls st h Q ↔ mm_wp d 111 119 ls (.int (3 : Int32) :: st) h Q := wp_iconst rfl rfl
theorem s111_119 : mm_wp d 111 119 [.ref a, l1, l2, l3, l4, l5] st h Q ↔ mm_wp d 111 120 [.ref a, l1, l2, l3, l4, l5] (.ref a :: st) h Q := wp_aloadR_n rfl rfl
theorem s111_120 : mm_wp d 111 120 ls (.ref a :: st) h Q ↔ (mm_s h a).1 = 10 ∧ mm_wp d 111 123 ls (.int (mm_i h a 2) :: st) h Q := wp_getI rfl rfl (by decide) (by decide)
theorem s111_123 : mm_wp d 111 123 ls (.int x2 :: .int x :: st) h Q ↔ mm_wp d 111 124 ls (.int (x * x2) :: st) h Q := wp_imul rfl
theorem s111_124 : mm_wp d 111 124 ls st h Q ↔ mm_wp d 111 125 ls (.int (2 : Int32) :: st) h Q := wp_iconst rfl rfl
theorem s111_125 : mm_wp d 111 125 ls (.int x2 :: .int x :: st) h Q ↔ mm_wp d 111 126 ls (.int (x + x2) :: st) h Q := wp_iadd rfl
theorem s111_126 : mm_wp d 111 126 [l0, l1, l2, .int x, l4, l5] st h Q ↔ mm_wp d 111 127 [l0, l1, l2, .int x, l4, l5] (.int x :: st) h Q := wp_iload_n rfl rfl
theorem s111_127 : mm_wp d 111 127 ls (.int x2 :: .int x :: .ref a :: st) h Q ↔ ((mm_s h a).1 = 20 ∧ ¬ a = 0 ∧ mm_in x (mm_s h a).2 = true) ∧ mm_wp d 111 128 ls st (mm_pi h a x.toNatClampNeg x2) Q := wp_iastore rfl
theorem s111_128 : mm_wp d 111 128 [.ref a, l1, l2, l3, l4, l5] st h Q ↔ mm_wp d 111 129 [.ref a, l1, l2, l3, l4, l5] (.ref a :: st) h Q := wp_aloadR_n rfl rfl
theorem s111_129 : mm_wp d 111 129 ls (.ref a :: st) h Q ↔ (mm_s h a).1 = 10 ∧ mm_wp d 111 132 ls (mm_o (mm_r h a 4) :: st) h Q := wp_getR rfl rfl
theorem s111_132 : mm_wp d 111 132 [.ref a, l1, l2, l3, l4, l5] st h Q ↔ mm_wp d 111 133 [.ref a, l1, l2, l3, l4, l5] (.ref a :: st) h Q := wp_aloadR_n rfl rfl
theorem s111_133 : mm_wp d 111 133 ls (.ref a :: st) h Q ↔ (mm_s h a).1 = 10 ∧ mm_wp d 111 136 ls (.int (mm_i h a 2) :: st) h Q := wp_getI rfl rfl (by decide) (by decide)
theorem s111_136 : mm_wp d 111 136 [l0, l1, l2, l3, .int x, l5] st h Q ↔ mm_wp d 111 138 [l0, l1, l2, l3, .int x, l5] (.int x :: st) h Q := wp_iload rfl rfl
theorem s111_138 : mm_wp d 111 138 ls (.int x2 :: .int x :: .ref a :: st) h Q ↔ ((mm_s h a).1 = 20 ∧ ¬ a = 0 ∧ mm_in x (mm_s h a).2 = true) ∧ mm_wp d 111 139 ls st (mm_pi h a x.toNatClampNeg x2) Q := wp_iastore rfl
theorem s111_139 : mm_wp d 111 139 [.ref a, l1, l2, l3, l4, l5] st h Q ↔ mm_wp d 111 140 [.ref a, l1, l2, l3, l4, l5] (.ref a :: st) h Q := wp_aloadR_n rfl rfl
theorem s111_140 : mm_wp d 111 140 ls (.ref a :: st) h Q ↔ (mm_s h a).1 = 10 ∧ mm_wp d 111 143 ls (mm_o (mm_r h a 5) :: st) h Q := wp_getR rfl rfl
theorem s111_143 : mm_wp d 111 143 [.ref a, l1, l2, l3, l4, l5] st h Q ↔ mm_wp d 111 144 [.ref a, l1, l2, l3, l4, l5] (.ref a :: st) h Q := wp_aloadR_n rfl rfl
theorem s111_144 : mm_wp d 111 144 ls (.ref a :: st) h Q ↔ (mm_s h a).1 = 10 ∧ mm_wp d 111 147 ls (.int (mm_i h a 2) :: st) h Q := wp_getI rfl rfl (by decide) (by decide)
theorem s111_147 : mm_wp d 111 147 ls st h Q ↔ mm_wp d 111 148 ls (.int (0 : Int32) :: st) h Q := wp_iconst rfl rfl
theorem s111_148 : mm_wp d 111 148 ls (.int x2 :: .int x :: .ref a :: st) h Q ↔ ((mm_s h a).1 = 20 ∧ ¬ a = 0 ∧ mm_in x (mm_s h a).2 = true) ∧ mm_wp d 111 149 ls st (mm_pi h a x.toNatClampNeg x2) Q := wp_iastore rfl
theorem s111_149 : mm_wp d 111 149 [.ref a, l1, l2, l3, l4, l5] st h Q ↔ mm_wp d 111 150 [.ref a, l1, l2, l3, l4, l5] (.ref a :: st) h Q := wp_aloadR_n rfl rfl
theorem s111_150 : mm_wp d 111 150 ls (.ref a :: st) h Q ↔ (mm_s h a).1 = 10 ∧ mm_wp d 111 153 ls (mm_o (mm_r h a 6) :: st) h Q := wp_getR rfl rfl
theorem s111_153 : mm_wp d 111 153 [.ref a, l1, l2, l3, l4, l5] st h Q ↔ mm_wp d 111 154 [.ref a, l1, l2, l3, l4, l5] (.ref a :: st) h Q := wp_aloadR_n rfl rfl
theorem s111_154 : mm_wp d 111 154 ls (.ref a :: st) h Q ↔ (mm_s h a).1 = 10 ∧ mm_wp d 111 157 ls (.int (mm_i h a 2) :: st) h Q := wp_getI rfl rfl (by decide) (by decide)
theorem s111_157 : mm_wp d 111 157 ls st h Q ↔ mm_wp d 111 158 ls (.int (0 : Int32) :: st) h Q := wp_iconst rfl rfl
theorem s111_158 : mm_wp d 111 158 ls (.int x2 :: .int x :: .ref a :: st) h Q ↔ ((mm_s h a).1 = 20 ∧ ¬ a = 0 ∧ mm_in x (mm_s h a).2 = true) ∧ mm_wp d 111 159 ls st (mm_pi h a x.toNatClampNeg x2) Q := wp_iastore rfl
theorem s111_159 : mm_wp d 111 159 [.ref a, l1, l2, l3, l4, l5] st h Q ↔ mm_wp d 111 160 [.ref a, l1, l2, l3, l4, l5] (.ref a :: st) h Q := wp_aloadR_n rfl rfl
theorem s111_160 : mm_wp d 111 160 ls (.ref a :: st) h Q ↔ (mm_s h a).1 = 10 ∧ mm_wp d 111 163 ls (mm_o (mm_r h a 7) :: st) h Q := wp_getR rfl rfl
theorem s111_163 : mm_wp d 111 163 [.ref a, l1, l2, l3, l4, l5] st h Q ↔ mm_wp d 111 164 [.ref a, l1, l2, l3, l4, l5] (.ref a :: st) h Q := wp_aloadR_n rfl rfl
theorem s111_164 : mm_wp d 111 164 ls (.ref a :: st) h Q ↔ (mm_s h a).1 = 10 ∧ mm_wp d 111 167 ls (.int (mm_i h a 2) :: st) h Q := wp_getI rfl rfl (by decide) (by decide)
theorem s111_167 : mm_wp d 111 167 ls st h Q ↔ mm_wp d 111 169 ls (.int (100000 : Int32) :: st) h Q := wp_ldcI rfl rfl
theorem s111_169 : mm_wp d 111 169 ls (.int x2 :: .int x :: .ref a :: st) h Q ↔ ((mm_s h a).1 = 20 ∧ ¬ a = 0 ∧ mm_in x (mm_s h a).2 = true) ∧ mm_wp d 111 170 ls st (mm_pi h a x.toNatClampNeg x2) Q := wp_iastore rfl
theorem s111_170 : mm_wp d 111 170 [.ref a, l1, l2, l3, l4, l5] st h Q ↔ mm_wp d 111 171 [.ref a, l1, l2, l3, l4, l5] (.ref a :: st) h Q := wp_aloadR_n rfl rfl
theorem s111_171 : mm_wp d 111 171 ls (.ref a :: st) h Q ↔ mm_wp d 111 172 ls (.ref a :: .ref a :: st) h Q := wp_dupR rfl
theorem s111_172 : mm_wp d 111 172 ls (.ref a :: st) h Q ↔ (mm_s h a).1 = 10 ∧ mm_wp d 111 175 ls (.int (mm_i h a 2) :: st) h Q := wp_getI rfl rfl (by decide) (by decide)
theorem s111_175 : mm_wp d 111 175 ls st h Q ↔ mm_wp d 111 176 ls (.int (1 : Int32) :: st) h Q := wp_iconst rfl rfl
theorem s111_176 : mm_wp d 111 176 ls (.int x2 :: .int x :: st) h Q ↔ mm_wp d 111 177 ls (.int (x + x2) :: st) h Q := wp_iadd rfl
theorem s111_177 : mm_wp d 111 177 ls (.int x :: .ref a :: st) h Q ↔ (mm_s h a).1 = 10 ∧ mm_wp d 111 180 ls st (mm_pi h a 2 x) Q := wp_putI rfl rfl
theorem s111_180 : mm_wp d 111 180 [.ref a, l1, l2, l3, l4, l5] st h Q ↔ mm_wp d 111 181 [.ref a, l1, l2, l3, l4, l5] (.ref a :: st) h Q := wp_aloadR_n rfl rfl
theorem s111_181 : mm_wp (d + 1) 111 181 ls [.ref a] h Q ↔ (mm_s h a).1 = 10 ∧ mm_wp d 113 0 [.ref a] [] h (mm_bk (d + 1) 111 181 ls [] Q) := wp_virtual rfl rfl ⟨by decide, rfl⟩ ⟨Nat.le_of_ble_eq_true rfl, Nat.le_of_ble_eq_true rfl⟩ rfl rfl rfl rfl rfl rfl
theorem s111_184 : mm_wp d 111 184 [.ref a, l1, l2, l3, l4, l5] st h Q ↔ mm_wp d 111 185 [.ref a, l1, l2, l3, l4, l5] (.ref a :: st) h Q := wp_aloadR_n rfl rfl
theorem s111_185 : mm_wp d 111 185 ls (.ref a :: st) h Q ↔ (mm_s h a).1 = 10 ∧ mm_wp d 111 188 ls (.int (mm_i h a 2) :: st) h Q := wp_getI rfl rfl (by decide) (by decide)
theorem s111_188 : mm_wp d 111 188 ls st h Q ↔ mm_wp d 111 189 ls (.int (1 : Int32) :: st) h Q := wp_iconst rfl rfl
theorem s111_189 : mm_wp d 111 189 ls (.int x2 :: .int x :: st) h Q ↔ mm_wp d 111 190 ls (.int (x - x2) :: st) h Q := wp_isub rfl
theorem s111_190 : mm_wp d 111 190 ls (.int x :: st) h Q ↔ Q (.inl (some (.int x))) h := wp_iret rfl rfl
end
