/-! rows of the program, by rows.py -/
section
variable {d : Nat} {ls st : List Value} {h : mm_H} {Q : mm_Q} {o : Option Nat} {a b c : Nat} {x y x1 x2 x3 x4 x5 x6 : Int32} {w w2 w3 w4 : Int64} {q : UInt32} {l0 l1 l2 l3 l4 l5 l6 l7 l8 l9 l10 l11 l12 l13 l14 l15 l16 t0 t1 t2 t3 t4 t5 : Value}
/-! 127: LoadRoomModel.open()V -/
theorem s127_0 : mm_wp d 127 0 ls st h Q ↔ mm_wp d 127 1 ls (.int (0 : Int32) :: st) h Q := wp_iconst rfl rfl
theorem s127_1 : mm_wp d 127 1 [l0, l1, l2, l3, l4, l5, l6, l7] (.int x :: st) h Q ↔ mm_wp d 127 2 [l0, .int x, l2, l3, l4, l5, l6, l7] st h Q := wp_istore_n rfl rfl
theorem s127_2 : mm_wp d 127 2 [l0, .int x, l2, l3, l4, l5, l6, l7] st h Q ↔ mm_wp d 127 3 [l0, .int x, l2, l3, l4, l5, l6, l7] (.int x :: st) h Q := wp_iload_n rfl rfl
theorem s127_3 : mm_wp d 127 3 ls st h Q ↔ mm_wp d 127 4 ls (.int (3 : Int32) :: st) h Q := wp_iconst rfl rfl
theorem s127_4 : mm_wp d 127 4 ls (.int x2 :: .int x :: st) h Q ↔ if x2 ≤ x then mm_wp d 127 186 ls st h Q else mm_wp d 127 7 ls st h Q := wp_icmpge rfl rfl
theorem s127_7 : mm_wp d 127 7 ls st h Q ↔ mm_wp d 127 9 ls (.int (27 : Int32) :: st) h Q := wp_bipush rfl rfl
theorem s127_9 : mm_wp d 127 9 [.ref a, l1, l2, l3, l4, l5, l6, l7] st h Q ↔ mm_wp d 127 10 [.ref a, l1, l2, l3, l4, l5, l6, l7] (.ref a :: st) h Q := wp_aloadR_n rfl rfl
theorem s127_10 : mm_wp d 127 10 ls (.ref a :: st) h Q ↔ (mm_s h a).1 = 10 ∧ mm_wp d 127 13 ls (.int (mm_i h a 8) :: st) h Q := wp_getI rfl rfl (by decide) (by decide)
theorem s127_13 : mm_wp d 127 13 ls (.int x2 :: .int x :: st) h Q ↔ mm_wp d 127 14 ls (.int (x * x2) :: st) h Q := wp_imul rfl
theorem s127_14 : mm_wp d 127 14 ls st h Q ↔ mm_wp d 127 16 ls (.int (9 : Int32) :: st) h Q := wp_bipush rfl rfl
theorem s127_16 : mm_wp d 127 16 [l0, .int x, l2, l3, l4, l5, l6, l7] st h Q ↔ mm_wp d 127 17 [l0, .int x, l2, l3, l4, l5, l6, l7] (.int x :: st) h Q := wp_iload_n rfl rfl
theorem s127_17 : mm_wp d 127 17 ls (.int x2 :: .int x :: st) h Q ↔ mm_wp d 127 18 ls (.int (x * x2) :: st) h Q := wp_imul rfl
theorem s127_18 : mm_wp d 127 18 ls (.int x2 :: .int x :: st) h Q ↔ mm_wp d 127 19 ls (.int (x + x2) :: st) h Q := wp_iadd rfl
theorem s127_19 : mm_wp d 127 19 [l0, l1, l2, l3, l4, l5, l6, l7] (.int x :: st) h Q ↔ mm_wp d 127 20 [l0, l1, .int x, l3, l4, l5, l6, l7] st h Q := wp_istore_n rfl rfl
theorem s127_20 : mm_wp d 127 20 [.ref a, l1, l2, l3, l4, l5, l6, l7] st h Q ↔ mm_wp d 127 21 [.ref a, l1, l2, l3, l4, l5, l6, l7] (.ref a :: st) h Q := wp_aloadR_n rfl rfl
theorem s127_21 : mm_wp d 127 21 ls (.ref a :: st) h Q ↔ (mm_s h a).1 = 10 ∧ mm_wp d 127 24 ls (mm_o (mm_r h a 18) :: st) h Q := wp_getR rfl rfl
theorem s127_24 : mm_wp d 127 24 [l0, l1, .int x, l3, l4, l5, l6, l7] st h Q ↔ mm_wp d 127 25 [l0, l1, .int x, l3, l4, l5, l6, l7] (.int x :: st) h Q := wp_iload_n rfl rfl
theorem s127_25 : mm_wp d 127 25 ls st h Q ↔ mm_wp d 127 26 ls (.int (0 : Int32) :: st) h Q := wp_iconst rfl rfl
theorem s127_26 : mm_wp d 127 26 ls (.int x2 :: .int x :: .ref a :: st) h Q ↔ ((mm_s h a).1 = 20 ∧ ¬ a = 0 ∧ mm_in x (mm_s h a).2 = true) ∧ mm_wp d 127 27 ls st (mm_pi h a x.toNatClampNeg x2) Q := wp_iastore rfl
theorem s127_27 : mm_wp d 127 27 ls st h Q ↔ mm_wp d 127 28 ls (.int (1 : Int32) :: st) h Q := wp_iconst rfl rfl
theorem s127_28 : mm_wp d 127 28 [l0, l1, l2, l3, l4, l5, l6, l7] (.int x :: st) h Q ↔ mm_wp d 127 29 [l0, l1, l2, .int x, l4, l5, l6, l7] st h Q := wp_istore_n rfl rfl
theorem s127_29 : mm_wp d 127 29 ls st h Q ↔ mm_wp d 127 30 ls (.int (0 : Int32) :: st) h Q := wp_iconst rfl rfl
theorem s127_30 : mm_wp d 127 30 [l0, l1, l2, l3, l4, l5, l6, l7] (.int x :: st) h Q ↔ mm_wp d 127 32 [l0, l1, l2, l3, .int x, l5, l6, l7] st h Q := wp_istore rfl rfl
theorem s127_32 : mm_wp d 127 32 [l0, l1, l2, l3, .int x, l5, l6, l7] st h Q ↔ mm_wp d 127 34 [l0, l1, l2, l3, .int x, l5, l6, l7] (.int x :: st) h Q := wp_iload rfl rfl
theorem s127_34 : mm_wp d 127 34 [.ref a, l1, l2, l3, l4, l5, l6, l7] st h Q ↔ mm_wp d 127 35 [.ref a, l1, l2, l3, l4, l5, l6, l7] (.ref a :: st) h Q := wp_aloadR_n rfl rfl
theorem s127_35 : mm_wp d 127 35 ls (.ref a :: st) h Q ↔ (mm_s h a).1 = 10 ∧ mm_wp d 127 38 ls (.int (mm_i h a 8) :: st) h Q := wp_getI rfl rfl (by decide) (by decide)
theorem s127_38 : mm_wp d 127 38 ls (.int x2 :: .int x :: st) h Q ↔ if x2 ≤ x then mm_wp d 127 166 ls st h Q else mm_wp d 127 41 ls st h Q := wp_icmpge rfl rfl
theorem s127_41 : mm_wp d 127 41 [.ref a, l1, l2, l3, l4, l5, l6, l7] st h Q ↔ mm_wp d 127 42 [.ref a, l1, l2, l3, l4, l5, l6, l7] (.ref a :: st) h Q := wp_aloadR_n rfl rfl
theorem s127_42 : mm_wp d 127 42 ls (.ref a :: st) h Q ↔ (mm_s h a).1 = 10 ∧ mm_wp d 127 45 ls (mm_o (mm_r h a 12) :: st) h Q := wp_getR rfl rfl
theorem s127_45 : mm_wp d 127 45 ls st h Q ↔ mm_wp d 127 46 ls (.int (3 : Int32) :: st) h Q := wp_iconst rfl rfl
theorem s127_46 : mm_wp d 127 46 [l0, l1, l2, l3, .int x, l5, l6, l7] st h Q ↔ mm_wp d 127 48 [l0, l1, l2, l3, .int x, l5, l6, l7] (.int x :: st) h Q := wp_iload rfl rfl
theorem s127_48 : mm_wp d 127 48 ls (.int x2 :: .int x :: st) h Q ↔ mm_wp d 127 49 ls (.int (x * x2) :: st) h Q := wp_imul rfl
theorem s127_49 : mm_wp d 127 49 [l0, .int x, l2, l3, l4, l5, l6, l7] st h Q ↔ mm_wp d 127 50 [l0, .int x, l2, l3, l4, l5, l6, l7] (.int x :: st) h Q := wp_iload_n rfl rfl
theorem s127_50 : mm_wp d 127 50 ls (.int x2 :: .int x :: st) h Q ↔ mm_wp d 127 51 ls (.int (x + x2) :: st) h Q := wp_iadd rfl
theorem s127_51 : mm_wp d 127 51 ls (.int x :: .ref a :: st) h Q ↔ ((mm_s h a).1 = 20 ∧ mm_in x (mm_s h a).2 = true) ∧ mm_wp d 127 52 ls (.int (mm_i h a x.toNatClampNeg) :: st) h Q := wp_iaload rfl
theorem s127_52 : mm_wp d 127 52 [.ref a, l1, l2, l3, l4, l5, l6, l7] st h Q ↔ mm_wp d 127 53 [.ref a, l1, l2, l3, l4, l5, l6, l7] (.ref a :: st) h Q := wp_aloadR_n rfl rfl
theorem s127_53 : mm_wp d 127 53 ls (.ref a :: st) h Q ↔ (mm_s h a).1 = 10 ∧ mm_wp d 127 56 ls (mm_o (mm_r h a 11) :: st) h Q := wp_getR rfl rfl
theorem s127_56 : mm_wp d 127 56 ls st h Q ↔ mm_wp d 127 57 ls (.int (3 : Int32) :: st) h Q := wp_iconst rfl rfl
theorem s127_57 : mm_wp d 127 57 [l0, l1, l2, l3, .int x, l5, l6, l7] st h Q ↔ mm_wp d 127 59 [l0, l1, l2, l3, .int x, l5, l6, l7] (.int x :: st) h Q := wp_iload rfl rfl
theorem s127_59 : mm_wp d 127 59 ls (.int x2 :: .int x :: st) h Q ↔ mm_wp d 127 60 ls (.int (x * x2) :: st) h Q := wp_imul rfl
theorem s127_60 : mm_wp d 127 60 [l0, .int x, l2, l3, l4, l5, l6, l7] st h Q ↔ mm_wp d 127 61 [l0, .int x, l2, l3, l4, l5, l6, l7] (.int x :: st) h Q := wp_iload_n rfl rfl
theorem s127_61 : mm_wp d 127 61 ls (.int x2 :: .int x :: st) h Q ↔ mm_wp d 127 62 ls (.int (x + x2) :: st) h Q := wp_iadd rfl
theorem s127_62 : mm_wp d 127 62 ls (.int x :: .ref a :: st) h Q ↔ ((mm_s h a).1 = 20 ∧ mm_in x (mm_s h a).2 = true) ∧ mm_wp d 127 63 ls (.int (mm_i h a x.toNatClampNeg) :: st) h Q := wp_iaload rfl
theorem s127_63 : mm_wp d 127 63 ls (.int x2 :: .int x :: st) h Q ↔ mm_wp d 127 64 ls (.int (x + x2) :: st) h Q := wp_iadd rfl
theorem s127_64 : mm_wp d 127 64 [l0, l1, l2, l3, l4, l5, l6, l7] (.int x :: st) h Q ↔ mm_wp d 127 66 [l0, l1, l2, l3, l4, .int x, l6, l7] st h Q := wp_istore rfl rfl
theorem s127_66 : mm_wp d 127 66 [l0, l1, l2, .int x, l4, l5, l6, l7] st h Q ↔ mm_wp d 127 67 [l0, l1, l2, .int x, l4, l5, l6, l7] (.int x :: st) h Q := wp_iload_n rfl rfl
theorem s127_67 : mm_wp d 127 67 [l0, l1, l2, l3, l4, l5, l6, l7] (.int x :: st) h Q ↔ mm_wp d 127 69 [l0, l1, l2, l3, l4, l5, .int x, l7] st h Q := wp_istore rfl rfl
theorem s127_69 : mm_wp d 127 69 [.ref a, l1, l2, l3, l4, l5, l6, l7] st h Q ↔ mm_wp d 127 70 [.ref a, l1, l2, l3, l4, l5, l6, l7] (.ref a :: st) h Q := wp_aloadR_n rfl rfl
theorem s127_70 : mm_wp d 127 70 ls (.ref a :: st) h Q ↔ (mm_s h a).1 = 10 ∧ mm_wp d 127 73 ls (mm_o (mm_r h a 18) :: st) h Q := wp_getR rfl rfl
theorem s127_73 : mm_wp d 127 73 [l0, l1, .int x, l3, l4, l5, l6, l7] st h Q ↔ mm_wp d 127 74 [l0, l1, .int x, l3, l4, l5, l6, l7] (.int x :: st) h Q := wp_iload_n rfl rfl
theorem s127_74 : mm_wp d 127 74 [l0, l1, l2, l3, l4, l5, .int x, l7] st h Q ↔ mm_wp d 127 76 [l0, l1, l2, l3, l4, l5, .int x, l7] (.int x :: st) h Q := wp_iload rfl rfl
theorem s127_76 : mm_wp d 127 76 ls (.int x2 :: .int x :: st) h Q ↔ mm_wp d 127 77 ls (.int (x + x2) :: st) h Q := wp_iadd rfl
theorem s127_77 : mm_wp d 127 77 ls st h Q ↔ mm_wp d 127 78 ls (.int (1 : Int32) :: st) h Q := wp_iconst rfl rfl
theorem s127_78 : mm_wp d 127 78 ls (.int x2 :: .int x :: st) h Q ↔ mm_wp d 127 79 ls (.int (x - x2) :: st) h Q := wp_isub rfl
theorem s127_79 : mm_wp d 127 79 ls (.int x :: .ref a :: st) h Q ↔ ((mm_s h a).1 = 20 ∧ mm_in x (mm_s h a).2 = true) ∧ mm_wp d 127 80 ls (.int (mm_i h a x.toNatClampNeg) :: st) h Q := wp_iaload rfl
theorem s127_80 : mm_wp d 127 80 [l0, l1, l2, l3, l4, .int x, l6, l7] st h Q ↔ mm_wp d 127 82 [l0, l1, l2, l3, l4, .int x, l6, l7] (.int x :: st) h Q := wp_iload rfl rfl
theorem s127_82 : mm_wp d 127 82 ls (.int x2 :: .int x :: st) h Q ↔ if x ≤ x2 then mm_wp d 127 91 ls st h Q else mm_wp d 127 85 ls st h Q := wp_icmple rfl rfl
theorem s127_85 : mm_wp d 127 85 [l0, l1, l2, l3, l4, l5, .int x, l7] st h Q ↔ mm_wp d 127 88 [l0, l1, l2, l3, l4, l5, .int (x + (-1 : Int32)), l7] st h Q := wp_iinc rfl rfl rfl rfl
theorem s127_88 : mm_wp d 127 88 ls st h Q ↔ mm_wp d 127 69 ls st h Q := wp_goto rfl rfl
theorem s127_91 : mm_wp d 127 91 [.ref a, l1, l2, l3, l4, l5, l6, l7] st h Q ↔ mm_wp d 127 92 [.ref a, l1, l2, l3, l4, l5, l6, l7] (.ref a :: st) h Q := wp_aloadR_n rfl rfl
theorem s127_92 : mm_wp d 127 92 ls (.ref a :: st) h Q ↔ (mm_s h a).1 = 10 ∧ mm_wp d 127 95 ls (mm_o (mm_r h a 18) :: st) h Q := wp_getR rfl rfl
theorem s127_95 : mm_wp d 127 95 [l0, l1, .int x, l3, l4, l5, l6, l7] st h Q ↔ mm_wp d 127 96 [l0, l1, .int x, l3, l4, l5, l6, l7] (.int x :: st) h Q := wp_iload_n rfl rfl
theorem s127_96 : mm_wp d 127 96 [l0, l1, l2, l3, l4, l5, .int x, l7] st h Q ↔ mm_wp d 127 98 [l0, l1, l2, l3, l4, l5, .int x, l7] (.int x :: st) h Q := wp_iload rfl rfl
theorem s127_98 : mm_wp d 127 98 ls (.int x2 :: .int x :: st) h Q ↔ mm_wp d 127 99 ls (.int (x + x2) :: st) h Q := wp_iadd rfl
theorem s127_99 : mm_wp d 127 99 ls st h Q ↔ mm_wp d 127 100 ls (.int (1 : Int32) :: st) h Q := wp_iconst rfl rfl
theorem s127_100 : mm_wp d 127 100 ls (.int x2 :: .int x :: st) h Q ↔ mm_wp d 127 101 ls (.int (x - x2) :: st) h Q := wp_isub rfl
theorem s127_101 : mm_wp d 127 101 ls (.int x :: .ref a :: st) h Q ↔ ((mm_s h a).1 = 20 ∧ mm_in x (mm_s h a).2 = true) ∧ mm_wp d 127 102 ls (.int (mm_i h a x.toNatClampNeg) :: st) h Q := wp_iaload rfl
theorem s127_102 : mm_wp d 127 102 [l0, l1, l2, l3, l4, .int x, l6, l7] st h Q ↔ mm_wp d 127 104 [l0, l1, l2, l3, l4, .int x, l6, l7] (.int x :: st) h Q := wp_iload rfl rfl
theorem s127_104 : mm_wp d 127 104 ls (.int x2 :: .int x :: st) h Q ↔ if x = x2 then mm_wp d 127 107 ls st h Q else mm_wp d 127 110 ls st h Q := wp_icmpne rfl rfl
theorem s127_107 : mm_wp d 127 107 ls st h Q ↔ mm_wp d 127 160 ls st h Q := wp_goto rfl rfl
theorem s127_110 : mm_wp d 127 110 [l0, l1, l2, .int x, l4, l5, l6, l7] st h Q ↔ mm_wp d 127 111 [l0, l1, l2, .int x, l4, l5, l6, l7] (.int x :: st) h Q := wp_iload_n rfl rfl
theorem s127_111 : mm_wp d 127 111 [l0, l1, l2, l3, l4, l5, l6, l7] (.int x :: st) h Q ↔ mm_wp d 127 113 [l0, l1, l2, l3, l4, l5, l6, .int x] st h Q := wp_istore rfl rfl
theorem s127_113 : mm_wp d 127 113 [l0, l1, l2, l3, l4, l5, l6, .int x] st h Q ↔ mm_wp d 127 115 [l0, l1, l2, l3, l4, l5, l6, .int x] (.int x :: st) h Q := wp_iload rfl rfl
theorem s127_115 : mm_wp d 127 115 [l0, l1, l2, l3, l4, l5, .int x, l7] st h Q ↔ mm_wp d 127 117 [l0, l1, l2, l3, l4, l5, .int x, l7] (.int x :: st) h Q := wp_iload rfl rfl
theorem s127_117 : mm_wp d 127 117 ls (.int x2 :: .int x :: st) h Q ↔ if x ≤ x2 then mm_wp d 127 146 ls st h Q else mm_wp d 127 120 ls st h Q := wp_icmple rfl rfl
theorem s127_120 : mm_wp d 127 120 [.ref a, l1, l2, l3, l4, l5, l6, l7] st h Q ↔ mm_wp d 127 121 [.ref a, l1, l2, l3, l4, l5, l6, l7] (.ref a :: st) h Q := wp_aloadR_n rfl rfl
theorem s127_121 : mm_wp d 127 121 ls (.ref a :: st) h Q ↔ (mm_s h a).1 = 10 ∧ mm_wp d 127 124 ls (mm_o (mm_r h a 18) :: st) h Q := wp_getR rfl rfl
theorem s127_124 : mm_wp d 127 124 [l0, l1, .int x, l3, l4, l5, l6, l7] st h Q ↔ mm_wp d 127 125 [l0, l1, .int x, l3, l4, l5, l6, l7] (.int x :: st) h Q := wp_iload_n rfl rfl
theorem s127_125 : mm_wp d 127 125 [l0, l1, l2, l3, l4, l5, l6, .int x] st h Q ↔ mm_wp d 127 127 [l0, l1, l2, l3, l4, l5, l6, .int x] (.int x :: st) h Q := wp_iload rfl rfl
theorem s127_127 : mm_wp d 127 127 ls (.int x2 :: .int x :: st) h Q ↔ mm_wp d 127 128 ls (.int (x + x2) :: st) h Q := wp_iadd rfl
theorem s127_128 : mm_wp d 127 128 [.ref a, l1, l2, l3, l4, l5, l6, l7] st h Q ↔ mm_wp d 127 129 [.ref a, l1, l2, l3, l4, l5, l6, l7] (.ref a :: st) h Q := wp_aloadR_n rfl rfl
theorem s127_129 : mm_wp d 127 129 ls (.ref a :: st) h Q ↔ (mm_s h a).1 = 10 ∧ mm_wp d 127 132 ls (mm_o (mm_r h a 18) :: st) h Q := wp_getR rfl rfl
theorem s127_132 : mm_wp d 127 132 [l0, l1, .int x, l3, l4, l5, l6, l7] st h Q ↔ mm_wp d 127 133 [l0, l1, .int x, l3, l4, l5, l6, l7] (.int x :: st) h Q := wp_iload_n rfl rfl
theorem s127_133 : mm_wp d 127 133 [l0, l1, l2, l3, l4, l5, l6, .int x] st h Q ↔ mm_wp d 127 135 [l0, l1, l2, l3, l4, l5, l6, .int x] (.int x :: st) h Q := wp_iload rfl rfl
theorem s127_135 : mm_wp d 127 135 ls (.int x2 :: .int x :: st) h Q ↔ mm_wp d 127 136 ls (.int (x + x2) :: st) h Q := wp_iadd rfl
theorem s127_136 : mm_wp d 127 136 ls st h Q ↔ mm_wp d 127 137 ls (.int (1 : Int32) :: st) h Q := wp_iconst rfl rfl
theorem s127_137 : mm_wp d 127 137 ls (.int x2 :: .int x :: st) h Q ↔ mm_wp d 127 138 ls (.int (x - x2) :: st) h Q := wp_isub rfl
theorem s127_138 : mm_wp d 127 138 ls (.int x :: .ref a :: st) h Q ↔ ((mm_s h a).1 = 20 ∧ mm_in x (mm_s h a).2 = true) ∧ mm_wp d 127 139 ls (.int (mm_i h a x.toNatClampNeg) :: st) h Q := wp_iaload rfl
theorem s127_139 : mm_wp d 127 139 ls (.int x2 :: .int x :: .ref a :: st) h Q ↔ ((mm_s h a).1 = 20 ∧ ¬ a = 0 ∧ mm_in x (mm_s h a).2 = true) ∧ mm_wp d 127 140 ls st (mm_pi h a x.toNatClampNeg x2) Q := wp_iastore rfl
theorem s127_140 : mm_wp d 127 140 [l0, l1, l2, l3, l4, l5, l6, .int x] st h Q ↔ mm_wp d 127 143 [l0, l1, l2, l3, l4, l5, l6, .int (x + (-1 : Int32))] st h Q := wp_iinc rfl rfl rfl rfl
theorem s127_143 : mm_wp d 127 143 ls st h Q ↔ mm_wp d 127 113 ls st h Q := wp_goto rfl rfl
theorem s127_146 : mm_wp d 127 146 [.ref a, l1, l2, l3, l4, l5, l6, l7] st h Q ↔ mm_wp d 127 147 [.ref a, l1, l2, l3, l4, l5, l6, l7] (.ref a :: st) h Q := wp_aloadR_n rfl rfl
theorem s127_147 : mm_wp d 127 147 ls (.ref a :: st) h Q ↔ (mm_s h a).1 = 10 ∧ mm_wp d 127 150 ls (mm_o (mm_r h a 18) :: st) h Q := wp_getR rfl rfl
theorem s127_150 : mm_wp d 127 150 [l0, l1, .int x, l3, l4, l5, l6, l7] st h Q ↔ mm_wp d 127 151 [l0, l1, .int x, l3, l4, l5, l6, l7] (.int x :: st) h Q := wp_iload_n rfl rfl
theorem s127_151 : mm_wp d 127 151 [l0, l1, l2, l3, l4, l5, .int x, l7] st h Q ↔ mm_wp d 127 153 [l0, l1, l2, l3, l4, l5, .int x, l7] (.int x :: st) h Q := wp_iload rfl rfl
theorem s127_153 : mm_wp d 127 153 ls (.int x2 :: .int x :: st) h Q ↔ mm_wp d 127 154 ls (.int (x + x2) :: st) h Q := wp_iadd rfl
theorem s127_154 : mm_wp d 127 154 [l0, l1, l2, l3, l4, .int x, l6, l7] st h Q ↔ mm_wp d 127 156 [l0, l1, l2, l3, l4, .int x, l6, l7] (.int x :: st) h Q := wp_iload rfl rfl
theorem s127_156 : mm_wp d 127 156 ls (.int x2 :: .int x :: .ref a :: st) h Q ↔ ((mm_s h a).1 = 20 ∧ ¬ a = 0 ∧ mm_in x (mm_s h a).2 = true) ∧ mm_wp d 127 157 ls st (mm_pi h a x.toNatClampNeg x2) Q := wp_iastore rfl
theorem s127_157 : mm_wp d 127 157 [l0, l1, l2, .int x, l4, l5, l6, l7] st h Q ↔ mm_wp d 127 160 [l0, l1, l2, .int (x + (1 : Int32)), l4, l5, l6, l7] st h Q := wp_iinc rfl rfl rfl rfl
theorem s127_160 : mm_wp d 127 160 [l0, l1, l2, l3, .int x, l5, l6, l7] st h Q ↔ mm_wp d 127 163 [l0, l1, l2, l3, .int (x + (1 : Int32)), l5, l6, l7] st h Q := wp_iinc rfl rfl rfl rfl
theorem s127_163 : mm_wp d 127 163 ls st h Q ↔ mm_wp d 127 32 ls st h Q := wp_goto rfl rfl
theorem s127_166 : mm_wp d 127 166 [.ref a, l1, l2, l3, l4, l5, l6, l7] st h Q ↔ mm_wp d 127 167 [.ref a, l1, l2, l3, l4, l5, l6, l7] (.ref a :: st) h Q := wp_aloadR_n rfl rfl
theorem s127_167 : mm_wp d 127 167 ls (.ref a :: st) h Q ↔ (mm_s h a).1 = 10 ∧ mm_wp d 127 170 ls (mm_o (mm_r h a 19) :: st) h Q := wp_getR rfl rfl
theorem s127_170 : mm_wp d 127 170 ls st h Q ↔ mm_wp d 127 171 ls (.int (3 : Int32) :: st) h Q := wp_iconst rfl rfl
theorem s127_171 : mm_wp d 127 171 [.ref a, l1, l2, l3, l4, l5, l6, l7] st h Q ↔ mm_wp d 127 172 [.ref a, l1, l2, l3, l4, l5, l6, l7] (.ref a :: st) h Q := wp_aloadR_n rfl rfl
theorem s127_172 : mm_wp d 127 172 ls (.ref a :: st) h Q ↔ (mm_s h a).1 = 10 ∧ mm_wp d 127 175 ls (.int (mm_i h a 8) :: st) h Q := wp_getI rfl rfl (by decide) (by decide)
theorem s127_175 : mm_wp d 127 175 ls (.int x2 :: .int x :: st) h Q ↔ mm_wp d 127 176 ls (.int (x * x2) :: st) h Q := wp_imul rfl
theorem s127_176 : mm_wp d 127 176 [l0, .int x, l2, l3, l4, l5, l6, l7] st h Q ↔ mm_wp d 127 177 [l0, .int x, l2, l3, l4, l5, l6, l7] (.int x :: st) h Q := wp_iload_n rfl rfl
theorem s127_177 : mm_wp d 127 177 ls (.int x2 :: .int x :: st) h Q ↔ mm_wp d 127 178 ls (.int (x + x2) :: st) h Q := wp_iadd rfl
theorem s127_178 : mm_wp d 127 178 [l0, l1, l2, .int x, l4, l5, l6, l7] st h Q ↔ mm_wp d 127 179 [l0, l1, l2, .int x, l4, l5, l6, l7] (.int x :: st) h Q := wp_iload_n rfl rfl
theorem s127_179 : mm_wp d 127 179 ls (.int x2 :: .int x :: .ref a :: st) h Q ↔ ((mm_s h a).1 = 20 ∧ ¬ a = 0 ∧ mm_in x (mm_s h a).2 = true) ∧ mm_wp d 127 180 ls st (mm_pi h a x.toNatClampNeg x2) Q := wp_iastore rfl
theorem s127_180 : mm_wp d 127 180 [l0, .int x, l2, l3, l4, l5, l6, l7] st h Q ↔ mm_wp d 127 183 [l0, .int (x + (1 : Int32)), l2, l3, l4, l5, l6, l7] st h Q := wp_iinc rfl rfl rfl rfl
theorem s127_183 : mm_wp d 127 183 ls st h Q ↔ mm_wp d 127 2 ls st h Q := wp_goto rfl rfl
theorem s127_186 : mm_wp d 127 186 [.ref a, l1, l2, l3, l4, l5, l6, l7] st h Q ↔ mm_wp d 127 187 [.ref a, l1, l2, l3, l4, l5, l6, l7] (.ref a :: st) h Q := wp_aloadR_n rfl rfl
theorem s127_187 : mm_wp d 127 187 ls (.ref a :: st) h Q ↔ (mm_s h a).1 = 10 ∧ mm_wp d 127 190 ls (mm_o (mm_r h a 15) :: st) h Q := wp_getR rfl rfl
theorem s127_190 : mm_wp d 127 190 [.ref a, l1, l2, l3, l4, l5, l6, l7] st h Q ↔ mm_wp d 127 191 [.ref a, l1, l2, l3, l4, l5, l6, l7] (.ref a :: st) h Q := wp_aloadR_n rfl rfl
theorem s127_191 : mm_wp d 127 191 ls (.ref a :: st) h Q ↔ (mm_s h a).1 = 10 ∧ mm_wp d 127 194 ls (.int (mm_i h a 8) :: st) h Q := wp_getI rfl rfl (by decide) (by decide)
theorem s127_194 : mm_wp d 127 194 ls st h Q ↔ mm_wp d 127 195 ls (.int (0 : Int32) :: st) h Q := wp_iconst rfl rfl
theorem s127_195 : mm_wp d 127 195 ls (.int x2 :: .int x :: .ref a :: st) h Q ↔ ((mm_s h a).1 = 20 ∧ ¬ a = 0 ∧ mm_in x (mm_s h a).2 = true) ∧ mm_wp d 127 196 ls st (mm_pi h a x.toNatClampNeg x2) Q := wp_iastore rfl
theorem s127_196 : mm_wp d 127 196 [.ref a, l1, l2, l3, l4, l5, l6, l7] st h Q ↔ mm_wp d 127 197 [.ref a, l1, l2, l3, l4, l5, l6, l7] (.ref a :: st) h Q := wp_aloadR_n rfl rfl
theorem s127_197 : mm_wp d 127 197 ls (.ref a :: st) h Q ↔ (mm_s h a).1 = 10 ∧ mm_wp d 127 200 ls (mm_o (mm_r h a 16) :: st) h Q := wp_getR rfl rfl
theorem s127_200 : mm_wp d 127 200 [.ref a, l1, l2, l3, l4, l5, l6, l7] st h Q ↔ mm_wp d 127 201 [.ref a, l1, l2, l3, l4, l5, l6, l7] (.ref a :: st) h Q := wp_aloadR_n rfl rfl
theorem s127_201 : mm_wp d 127 201 ls (.ref a :: st) h Q ↔ (mm_s h a).1 = 10 ∧ mm_wp d 127 204 ls (.int (mm_i h a 8) :: st) h Q := wp_getI rfl rfl (by decide) (by decide)
theorem s127_204 : mm_wp d 127 204 ls st h Q ↔ mm_wp d 127 205 ls (.int (0 : Int32) :: st) h Q := wp_iconst rfl rfl
theorem s127_205 : mm_wp d 127 205 ls (.int x2 :: .int x :: .ref a :: st) h Q ↔ ((mm_s h a).1 = 20 ∧ ¬ a = 0 ∧ mm_in x (mm_s h a).2 = true) ∧ mm_wp d 127 206 ls st (mm_pi h a x.toNatClampNeg x2) Q := wp_iastore rfl
theorem s127_206 : mm_wp d 127 206 [.ref a, l1, l2, l3, l4, l5, l6, l7] st h Q ↔ mm_wp d 127 207 [.ref a, l1, l2, l3, l4, l5, l6, l7] (.ref a :: st) h Q := wp_aloadR_n rfl rfl
theorem s127_207 : mm_wp d 127 207 ls (.ref a :: st) h Q ↔ (mm_s h a).1 = 10 ∧ mm_wp d 127 210 ls (mm_o (mm_r h a 17) :: st) h Q := wp_getR rfl rfl
theorem s127_210 : mm_wp d 127 210 [.ref a, l1, l2, l3, l4, l5, l6, l7] st h Q ↔ mm_wp d 127 211 [.ref a, l1, l2, l3, l4, l5, l6, l7] (.ref a :: st) h Q := wp_aloadR_n rfl rfl
theorem s127_211 : mm_wp d 127 211 ls (.ref a :: st) h Q ↔ (mm_s h a).1 = 10 ∧ mm_wp d 127 214 ls (.int (mm_i h a 8) :: st) h Q := wp_getI rfl rfl (by decide) (by decide)
theorem s127_214 : mm_wp d 127 214 ls st h Q ↔ mm_wp d 127 215 ls (.int (0 : Int32) :: st) h Q := wp_iconst rfl rfl
theorem s127_215 : mm_wp d 127 215 ls (.int x2 :: .int x :: .ref a :: st) h Q ↔ ((mm_s h a).1 = 20 ∧ ¬ a = 0 ∧ mm_in x (mm_s h a).2 = true) ∧ mm_wp d 127 216 ls st (mm_pi h a x.toNatClampNeg x2) Q := wp_iastore rfl
theorem s127_216 : mm_wp d 127 216 ls st h Q ↔ Q (.inl none) h := wp_vret rfl rfl
/-! 128: LoadRoomModel.findNext()Z -/
theorem s128_0 : mm_wp d 128 0 ls st h Q ↔ mm_wp d 128 1 ls (.int (3 : Int32) :: st) h Q := wp_iconst rfl rfl
theorem s128_1 : mm_wp d 128 1 [.ref a, l1, l2, l3, l4, l5, l6] st h Q ↔ mm_wp d 128 2 [.ref a, l1, l2, l3, l4, l5, l6] (.ref a :: st) h Q := wp_aloadR_n rfl rfl
theorem s128_2 : mm_wp d 128 2 ls (.ref a :: st) h Q ↔ (mm_s h a).1 = 10 ∧ mm_wp d 128 5 ls (.int (mm_i h a 8) :: st) h Q := wp_getI rfl rfl (by decide) (by decide)
theorem s128_5 : mm_wp d 128 5 ls (.int x2 :: .int x :: st) h Q ↔ mm_wp d 128 6 ls (.int (x * x2) :: st) h Q := wp_imul rfl
theorem s128_6 : mm_wp d 128 6 [l0, l1, l2, l3, l4, l5, l6] (.int x :: st) h Q ↔ mm_wp d 128 7 [l0, .int x, l2, l3, l4, l5, l6] st h Q := wp_istore_n rfl rfl
theorem s128_7 : mm_wp d 128 7 [.ref a, l1, l2, l3, l4, l5, l6] st h Q ↔ mm_wp d 128 8 [.ref a, l1, l2, l3, l4, l5, l6] (.ref a :: st) h Q := wp_aloadR_n rfl rfl
theorem s128_8 : mm_wp d 128 8 ls (.ref a :: st) h Q ↔ (mm_s h a).1 = 10 ∧ mm_wp d 128 11 ls (mm_o (mm_r h a 19) :: st) h Q := wp_getR rfl rfl
theorem s128_11 : mm_wp d 128 11 [l0, .int x, l2, l3, l4, l5, l6] st h Q ↔ mm_wp d 128 12 [l0, .int x, l2, l3, l4, l5, l6] (.int x :: st) h Q := wp_iload_n rfl rfl
theorem s128_12 : mm_wp d 128 12 ls (.int x :: .ref a :: st) h Q ↔ ((mm_s h a).1 = 20 ∧ mm_in x (mm_s h a).2 = true) ∧ mm_wp d 128 13 ls (.int (mm_i h a x.toNatClampNeg) :: st) h Q := wp_iaload rfl
theorem s128_13 : mm_wp d 128 13 [.ref a, l1, l2, l3, l4, l5, l6] st h Q ↔ mm_wp d 128 14 [.ref a, l1, l2, l3, l4, l5, l6] (.ref a :: st) h Q := wp_aloadR_n rfl rfl
theorem s128_14 : mm_wp d 128 14 ls (.ref a :: st) h Q ↔ (mm_s h a).1 = 10 ∧ mm_wp d 128 17 ls (mm_o (mm_r h a 19) :: st) h Q := wp_getR rfl rfl
theorem s128_17 : mm_wp d 128 17 [l0, .int x, l2, l3, l4, l5, l6] st h Q ↔ mm_wp d 128 18 [l0, .int x, l2, l3, l4, l5, l6] (.int x :: st) h Q := wp_iload_n rfl rfl
theorem s128_18 : mm_wp d 128 18 ls st h Q ↔ mm_wp d 128 19 ls (.int (1 : Int32) :: st) h Q := wp_iconst rfl rfl
theorem s128_19 : mm_wp d 128 19 ls (.int x2 :: .int x :: st) h Q ↔ mm_wp d 128 20 ls (.int (x + x2) :: st) h Q := wp_iadd rfl
theorem s128_20 : mm_wp d 128 20 ls (.int x :: .ref a :: st) h Q ↔ ((mm_s h a).1 = 20 ∧ mm_in x (mm_s h a).2 = true) ∧ mm_wp d 128 21 ls (.int (mm_i h a x.toNatClampNeg) :: st) h Q := wp_iaload rfl
theorem s128_21 : mm_wp d 128 21 ls (.int x2 :: .int x :: st) h Q ↔ mm_wp d 128 22 ls (.int (x * x2) :: st) h Q := wp_imul rfl
theorem s128_22 : mm_wp d 128 22 [.ref a, l1, l2, l3, l4, l5, l6] st h Q ↔ mm_wp d 128 23 [.ref a, l1, l2, l3, l4, l5, l6] (.ref a :: st) h Q := wp_aloadR_n rfl rfl
theorem s128_23 : mm_wp d 128 23 ls (.ref a :: st) h Q ↔ (mm_s h a).1 = 10 ∧ mm_wp d 128 26 ls (mm_o (mm_r h a 19) :: st) h Q := wp_getR rfl rfl
theorem s128_26 : mm_wp d 128 26 [l0, .int x, l2, l3, l4, l5, l6] st h Q ↔ mm_wp d 128 27 [l0, .int x, l2, l3, l4, l5, l6] (.int x :: st) h Q := wp_iload_n rfl rfl
theorem s128_27 : mm_wp d 128 27 ls st h Q ↔ mm_wp d 128 28 ls (.int (2 : Int32) :: st) h Q := wp_iconst rfl rfl
theorem s128_28 : mm_wp d 128 28 ls (.int x2 :: .int x :: st) h Q ↔ mm_wp d 128 29 ls (.int (x + x2) :: st) h Q := wp_iadd rfl
theorem s128_29 : mm_wp d 128 29 ls (.int x :: .ref a :: st) h Q ↔ ((mm_s h a).1 = 20 ∧ mm_in x (mm_s h a).2 = true) ∧ mm_wp d 128 30 ls (.int (mm_i h a x.toNatClampNeg) :: st) h Q := wp_iaload rfl
theorem s128_30 : mm_wp d 128 30 ls (.int x2 :: .int x :: st) h Q ↔ mm_wp d 128 31 ls (.int (x * x2) :: st) h Q := wp_imul rfl
theorem s128_31 : mm_wp d 128 31 [l0, l1, l2, l3, l4, l5, l6] (.int x :: st) h Q ↔ mm_wp d 128 32 [l0, l1, .int x, l3, l4, l5, l6] st h Q := wp_istore_n rfl rfl
theorem s128_32 : mm_wp d 128 32 ls st h Q ↔ mm_wp d 128 33 ls (.int (-1 : Int32) :: st) h Q := wp_iconst rfl rfl
theorem s128_33 : mm_wp d 128 33 [l0, l1, l2, l3, l4, l5, l6] (.int x :: st) h Q ↔ mm_wp d 128 34 [l0, l1, l2, .int x, l4, l5, l6] st h Q := wp_istore_n rfl rfl
theorem s128_34 : mm_wp d 128 34 ls st h Q ↔ mm_wp d 128 35 ls (.int (0 : Int32) :: st) h Q := wp_iconst rfl rfl
theorem s128_35 : mm_wp d 128 35 [l0, l1, l2, l3, l4, l5, l6] (.int x :: st) h Q ↔ mm_wp d 128 37 [l0, l1, l2, l3, .int x, l5, l6] st h Q := wp_istore rfl rfl
theorem s128_37 : mm_wp d 128 37 [.ref a, l1, l2, l3, l4, l5, l6] st h Q ↔ mm_wp d 128 38 [.ref a, l1, l2, l3, l4, l5, l6] (.ref a :: st) h Q := wp_aloadR_n rfl rfl
theorem s128_38 : mm_wp d 128 38 ls (.ref a :: st) h Q ↔ (mm_s h a).1 = 10 ∧ mm_wp d 128 41 ls (mm_o (mm_r h a 15) :: st) h Q := wp_getR rfl rfl
theorem s128_41 : mm_wp d 128 41 [.ref a, l1, l2, l3, l4, l5, l6] st h Q ↔ mm_wp d 128 42 [.ref a, l1, l2, l3, l4, l5, l6] (.ref a :: st) h Q := wp_aloadR_n rfl rfl
theorem s128_42 : mm_wp d 128 42 ls (.ref a :: st) h Q ↔ (mm_s h a).1 = 10 ∧ mm_wp d 128 45 ls (.int (mm_i h a 8) :: st) h Q := wp_getI rfl rfl (by decide) (by decide)
theorem s128_45 : mm_wp d 128 45 ls (.int x :: .ref a :: st) h Q ↔ ((mm_s h a).1 = 20 ∧ mm_in x (mm_s h a).2 = true) ∧ mm_wp d 128 46 ls (.int (mm_i h a x.toNatClampNeg) :: st) h Q := wp_iaload rfl
theorem s128_46 : mm_wp d 128 46 [.ref a, l1, l2, l3, l4, l5, l6] st h Q ↔ mm_wp d 128 47 [.ref a, l1, l2, l3, l4, l5, l6] (.ref a :: st) h Q := wp_aloadR_n rfl rfl
theorem s128_47 : mm_wp d 128 47 ls (.ref a :: st) h Q ↔ (mm_s h a).1 = 10 ∧ mm_wp d 128 50 ls (.int (mm_i h a 2) :: st) h Q := wp_getI rfl rfl (by decide) (by decide)
theorem s128_50 : mm_wp d 128 50 ls (.int x2 :: .int x :: st) h Q ↔ if x2 ≤ x then mm_wp d 128 290 ls st h Q else mm_wp d 128 53 ls st h Q := wp_icmpge rfl rfl
theorem s128_53 : mm_wp d 128 53 [.ref a, l1, l2, l3, l4, l5, l6] st h Q ↔ mm_wp d 128 54 [.ref a, l1, l2, l3, l4, l5, l6] (.ref a :: st) h Q := wp_aloadR_n rfl rfl
theorem s128_54 : mm_wp d 128 54 ls (.ref a :: st) h Q ↔ (mm_s h a).1 = 10 ∧ mm_wp d 128 57 ls (mm_o (mm_r h a 15) :: st) h Q := wp_getR rfl rfl
theorem s128_57 : mm_wp d 128 57 [.ref a, l1, l2, l3, l4, l5, l6] st h Q ↔ mm_wp d 128 58 [.ref a, l1, l2, l3, l4, l5, l6] (.ref a :: st) h Q := wp_aloadR_n rfl rfl
theorem s128_58 : mm_wp d 128 58 ls (.ref a :: st) h Q ↔ (mm_s h a).1 = 10 ∧ mm_wp d 128 61 ls (.int (mm_i h a 8) :: st) h Q := wp_getI rfl rfl (by decide) (by decide)
theorem s128_61 : mm_wp d 128 61 ls (.int x :: .ref a :: st) h Q ↔ ((mm_s h a).1 = 20 ∧ mm_in x (mm_s h a).2 = true) ∧ mm_wp d 128 62 ls (.int (mm_i h a x.toNatClampNeg) :: st) h Q := wp_iaload rfl
theorem s128_62 : mm_wp d 128 62 [l0, l1, l2, l3, l4, l5, l6] (.int x :: st) h Q ↔ mm_wp d 128 64 [l0, l1, l2, l3, l4, .int x, l6] st h Q := wp_istore rfl rfl
theorem s128_64 : mm_wp d 128 64 [l0, l1, l2, .int x, l4, l5, l6] st h Q ↔ mm_wp d 128 65 [l0, l1, l2, .int x, l4, l5, l6] (.int x :: st) h Q := wp_iload_n rfl rfl
theorem s128_65 : mm_wp d 128 65 ls st h Q ↔ mm_wp d 128 67 ls (.int (6 : Int32) :: st) h Q := wp_bipush rfl rfl
theorem s128_67 : mm_wp d 128 67 [l0, l1, l2, l3, l4, .int x, l6] st h Q ↔ mm_wp d 128 69 [l0, l1, l2, l3, l4, .int x, l6] (.int x :: st) h Q := wp_iload rfl rfl
theorem s128_69 : mm_wp d 128 69 ls (.int x2 :: .int x :: st) h Q ↔ mm_wp d 128 70 ls (.int (x * x2) :: st) h Q := wp_imul rfl
theorem s128_70 : mm_wp d 128 70 [.ref a, l1, l2, l3, l4, l5, l6] st h Q ↔ mm_wp d 128 71 [.ref a, l1, l2, l3, l4, l5, l6] (.ref a :: st) h Q := wp_aloadR_n rfl rfl
theorem s128_71 : mm_wp d 128 71 ls (.ref a :: st) h Q ↔ (mm_s h a).1 = 10 ∧ mm_wp d 128 74 ls (mm_o (mm_r h a 16) :: st) h Q := wp_getR rfl rfl
theorem s128_74 : mm_wp d 128 74 [.ref a, l1, l2, l3, l4, l5, l6] st h Q ↔ mm_wp d 128 75 [.ref a, l1, l2, l3, l4, l5, l6] (.ref a :: st) h Q := wp_aloadR_n rfl rfl
theorem s128_75 : mm_wp d 128 75 ls (.ref a :: st) h Q ↔ (mm_s h a).1 = 10 ∧ mm_wp d 128 78 ls (.int (mm_i h a 8) :: st) h Q := wp_getI rfl rfl (by decide) (by decide)
theorem s128_78 : mm_wp d 128 78 ls (.int x :: .ref a :: st) h Q ↔ ((mm_s h a).1 = 20 ∧ mm_in x (mm_s h a).2 = true) ∧ mm_wp d 128 79 ls (.int (mm_i h a x.toNatClampNeg) :: st) h Q := wp_iaload rfl
theorem s128_79 : mm_wp d 128 79 ls (.int x2 :: .int x :: st) h Q ↔ mm_wp d 128 80 ls (.int (x + x2) :: st) h Q := wp_iadd rfl
theorem s128_80 : mm_wp d 128 80 ls (.int x2 :: .int x :: st) h Q ↔ if x = x2 then mm_wp d 128 130 ls st h Q else mm_wp d 128 83 ls st h Q := wp_icmpeq rfl rfl
theorem s128_83 : mm_wp d 128 83 [.ref a, l1, l2, l3, l4, l5, l6] st h Q ↔ mm_wp d 128 84 [.ref a, l1, l2, l3, l4, l5, l6] (.ref a :: st) h Q := wp_aloadR_n rfl rfl
theorem s128_84 : mm_wp d 128 84 ls (.ref a :: st) h Q ↔ (mm_s h a).1 = 10 ∧ mm_wp d 128 87 ls (mm_o (mm_r h a 16) :: st) h Q := wp_getR rfl rfl
theorem s128_87 : mm_wp d 128 87 [.ref a, l1, l2, l3, l4, l5, l6] st h Q ↔ mm_wp d 128 88 [.ref a, l1, l2, l3, l4, l5, l6] (.ref a :: st) h Q := wp_aloadR_n rfl rfl
theorem s128_88 : mm_wp d 128 88 ls (.ref a :: st) h Q ↔ (mm_s h a).1 = 10 ∧ mm_wp d 128 91 ls (.int (mm_i h a 8) :: st) h Q := wp_getI rfl rfl (by decide) (by decide)
theorem s128_91 : mm_wp d 128 91 ls (.int x :: .ref a :: st) h Q ↔ ((mm_s h a).1 = 20 ∧ mm_in x (mm_s h a).2 = true) ∧ mm_wp d 128 92 ls (.int (mm_i h a x.toNatClampNeg) :: st) h Q := wp_iaload rfl
theorem s128_92 : mm_wp d 128 92 ls st h Q ↔ mm_wp d 128 94 ls (.int (6 : Int32) :: st) h Q := wp_bipush rfl rfl
theorem s128_94 : mm_wp d 128 94 ls (.int x2 :: .int x :: st) h Q ↔ if x2 ≤ x then mm_wp d 128 130 ls st h Q else mm_wp d 128 97 ls st h Q := wp_icmpge rfl rfl
theorem s128_97 : mm_wp d 128 97 ls st h Q ↔ mm_wp d 128 99 ls (.int (6 : Int32) :: st) h Q := wp_bipush rfl rfl
theorem s128_99 : mm_wp d 128 99 [l0, l1, l2, l3, l4, .int x, l6] st h Q ↔ mm_wp d 128 101 [l0, l1, l2, l3, l4, .int x, l6] (.int x :: st) h Q := wp_iload rfl rfl
theorem s128_101 : mm_wp d 128 101 ls (.int x2 :: .int x :: st) h Q ↔ mm_wp d 128 102 ls (.int (x * x2) :: st) h Q := wp_imul rfl
theorem s128_102 : mm_wp d 128 102 [.ref a, l1, l2, l3, l4, l5, l6] st h Q ↔ mm_wp d 128 103 [.ref a, l1, l2, l3, l4, l5, l6] (.ref a :: st) h Q := wp_aloadR_n rfl rfl
theorem s128_103 : mm_wp d 128 103 ls (.ref a :: st) h Q ↔ (mm_s h a).1 = 10 ∧ mm_wp d 128 106 ls (mm_o (mm_r h a 16) :: st) h Q := wp_getR rfl rfl
theorem s128_106 : mm_wp d 128 106 [.ref a, l1, l2, l3, l4, l5, l6] st h Q ↔ mm_wp d 128 107 [.ref a, l1, l2, l3, l4, l5, l6] (.ref a :: st) h Q := wp_aloadR_n rfl rfl
theorem s128_107 : mm_wp d 128 107 ls (.ref a :: st) h Q ↔ (mm_s h a).1 = 10 ∧ mm_wp d 128 110 ls (.int (mm_i h a 8) :: st) h Q := wp_getI rfl rfl (by decide) (by decide)
theorem s128_110 : mm_wp d 128 110 ls (.int x :: .ref a :: st) h Q ↔ ((mm_s h a).1 = 20 ∧ mm_in x (mm_s h a).2 = true) ∧ mm_wp d 128 111 ls (.int (mm_i h a x.toNatClampNeg) :: st) h Q := wp_iaload rfl
theorem s128_111 : mm_wp d 128 111 ls (.int x2 :: .int x :: st) h Q ↔ mm_wp d 128 112 ls (.int (x + x2) :: st) h Q := wp_iadd rfl
theorem s128_112 : mm_wp d 128 112 [l0, l1, l2, l3, l4, l5, l6] (.int x :: st) h Q ↔ mm_wp d 128 113 [l0, l1, l2, .int x, l4, l5, l6] st h Q := wp_istore_n rfl rfl
theorem s128_113 : mm_wp d 128 113 [.ref a, l1, l2, l3, l4, l5, l6] st h Q ↔ mm_wp d 128 114 [.ref a, l1, l2, l3, l4, l5, l6] (.ref a :: st) h Q := wp_aloadR_n rfl rfl
theorem s128_114 : mm_wp d 128 114 [l0, l1, l2, l3, l4, .int x, l6] st h Q ↔ mm_wp d 128 116 [l0, l1, l2, l3, l4, .int x, l6] (.int x :: st) h Q := wp_iload rfl rfl
theorem s128_116 : mm_wp d 128 116 [.ref a, l1, l2, l3, l4, l5, l6] st h Q ↔ mm_wp d 128 117 [.ref a, l1, l2, l3, l4, l5, l6] (.ref a :: st) h Q := wp_aloadR_n rfl rfl
theorem s128_117 : mm_wp d 128 117 ls (.ref a :: st) h Q ↔ (mm_s h a).1 = 10 ∧ mm_wp d 128 120 ls (mm_o (mm_r h a 16) :: st) h Q := wp_getR rfl rfl
theorem s128_120 : mm_wp d 128 120 [.ref a, l1, l2, l3, l4, l5, l6] st h Q ↔ mm_wp d 128 121 [.ref a, l1, l2, l3, l4, l5, l6] (.ref a :: st) h Q := wp_aloadR_n rfl rfl
theorem s128_121 : mm_wp d 128 121 ls (.ref a :: st) h Q ↔ (mm_s h a).1 = 10 ∧ mm_wp d 128 124 ls (.int (mm_i h a 8) :: st) h Q := wp_getI rfl rfl (by decide) (by decide)
theorem s128_124 : mm_wp d 128 124 ls (.int x :: .ref a :: st) h Q ↔ ((mm_s h a).1 = 20 ∧ mm_in x (mm_s h a).2 = true) ∧ mm_wp d 128 125 ls (.int (mm_i h a x.toNatClampNeg) :: st) h Q := wp_iaload rfl
theorem s128_125 : mm_wp (d + 1) 128 125 ls [.int x3, .int x2, .ref a] h Q ↔ (mm_s h a).1 = 10 ∧ mm_wp d 120 0 [.ref a, .int x2, .int x3, mm_j, mm_j] [] h (mm_bk (d + 1) 128 125 ls [] Q) := wp_virtual rfl rfl ⟨by decide, rfl⟩ ⟨Nat.le_of_ble_eq_true rfl, Nat.le_of_ble_eq_true rfl⟩ rfl rfl rfl rfl rfl rfl
theorem s128_128 : mm_wp d 128 128 [l0, l1, l2, l3, l4, l5, l6] (.int x :: st) h Q ↔ mm_wp d 128 130 [l0, l1, l2, l3, .int x, l5, l6] st h Q := wp_istore rfl rfl
theorem s128_130 : mm_wp d 128 130 [.ref a, l1, l2, l3, l4, l5, l6] st h Q ↔ mm_wp d 128 131 [.ref a, l1, l2, l3, l4, l5, l6] (.ref a :: st) h Q := wp_aloadR_n rfl rfl
theorem s128_131 : mm_wp d 128 131 ls (.ref a :: st) h Q ↔ (mm_s h a).1 = 10 ∧ mm_wp d 128 134 ls (mm_o (mm_r h a 14) :: st) h Q := wp_getR rfl rfl
theorem s128_134 : mm_wp d 128 134 [l0, l1, l2, l3, l4, .int x, l6] st h Q ↔ mm_wp d 128 136 [l0, l1, l2, l3, l4, .int x, l6] (.int x :: st) h Q := wp_iload rfl rfl
theorem s128_136 : mm_wp d 128 136 ls (.int x :: .ref a :: st) h Q ↔ ((mm_s h a).1 = 22 ∧ mm_in x (mm_s h a).2 = true) ∧ mm_wp d 128 137 ls (.int (mm_i h a x.toNatClampNeg) :: st) h Q := wp_baload rfl
theorem s128_137 : mm_wp d 128 137 ls (.int x :: st) h Q ↔ if x = 0 then mm_wp d 128 140 ls st h Q else mm_wp d 128 154 ls st h Q := wp_ifne rfl rfl
theorem s128_140 : mm_wp d 128 140 [.ref a, l1, l2, l3, l4, l5, l6] st h Q ↔ mm_wp d 128 141 [.ref a, l1, l2, l3, l4, l5, l6] (.ref a :: st) h Q := wp_aloadR_n rfl rfl
theorem s128_141 : mm_wp d 128 141 ls (.ref a :: st) h Q ↔ (mm_s h a).1 = 10 ∧ mm_wp d 128 144 ls (mm_o (mm_r h a 16) :: st) h Q := wp_getR rfl rfl
theorem s128_144 : mm_wp d 128 144 [.ref a, l1, l2, l3, l4, l5, l6] st h Q ↔ mm_wp d 128 145 [.ref a, l1, l2, l3, l4, l5, l6] (.ref a :: st) h Q := wp_aloadR_n rfl rfl
theorem s128_145 : mm_wp d 128 145 ls (.ref a :: st) h Q ↔ (mm_s h a).1 = 10 ∧ mm_wp d 128 148 ls (.int (mm_i h a 8) :: st) h Q := wp_getI rfl rfl (by decide) (by decide)
theorem s128_148 : mm_wp d 128 148 ls (.int x :: .ref a :: st) h Q ↔ ((mm_s h a).1 = 20 ∧ mm_in x (mm_s h a).2 = true) ∧ mm_wp d 128 149 ls (.int (mm_i h a x.toNatClampNeg) :: st) h Q := wp_iaload rfl
theorem s128_149 : mm_wp d 128 149 ls st h Q ↔ mm_wp d 128 151 ls (.int (6 : Int32) :: st) h Q := wp_bipush rfl rfl
theorem s128_151 : mm_wp d 128 151 ls (.int x2 :: .int x :: st) h Q ↔ if x = x2 then mm_wp d 128 154 ls st h Q else mm_wp d 128 190 ls st h Q := wp_icmpne rfl rfl
theorem s128_154 : mm_wp d 128 154 [.ref a, l1, l2, l3, l4, l5, l6] st h Q ↔ mm_wp d 128 155 [.ref a, l1, l2, l3, l4, l5, l6] (.ref a :: st) h Q := wp_aloadR_n rfl rfl
theorem s128_155 : mm_wp d 128 155 ls (.ref a :: st) h Q ↔ (mm_s h a).1 = 10 ∧ mm_wp d 128 158 ls (mm_o (mm_r h a 15) :: st) h Q := wp_getR rfl rfl
theorem s128_158 : mm_wp d 128 158 [.ref a, l1, l2, l3, l4, l5, l6] st h Q ↔ mm_wp d 128 159 [.ref a, l1, l2, l3, l4, l5, l6] (.ref a :: st) h Q := wp_aloadR_n rfl rfl
theorem s128_159 : mm_wp d 128 159 ls (.ref a :: st) h Q ↔ (mm_s h a).1 = 10 ∧ mm_wp d 128 162 ls (.int (mm_i h a 8) :: st) h Q := wp_getI rfl rfl (by decide) (by decide)
theorem s128_162 : mm_wp d 128 162 ls (.int x :: .ref a :: st) h Q ↔ mm_wp d 128 163 ls (.int x :: .ref a :: .int x :: .ref a :: st) h Q := wp_dup2 rfl
theorem s128_163 : mm_wp d 128 163 ls (.int x :: .ref a :: st) h Q ↔ ((mm_s h a).1 = 20 ∧ mm_in x (mm_s h a).2 = true) ∧ mm_wp d 128 164 ls (.int (mm_i h a x.toNatClampNeg) :: st) h Q := wp_iaload rfl
theorem s128_164 : mm_wp d 128 164 ls st h Q ↔ mm_wp d 128 165 ls (.int (1 : Int32) :: st) h Q := wp_iconst rfl rfl
theorem s128_165 : mm_wp d 128 165 ls (.int x2 :: .int x :: st) h Q ↔ mm_wp d 128 166 ls (.int (x + x2) :: st) h Q := wp_iadd rfl
theorem s128_166 : mm_wp d 128 166 ls (.int x2 :: .int x :: .ref a :: st) h Q ↔ ((mm_s h a).1 = 20 ∧ ¬ a = 0 ∧ mm_in x (mm_s h a).2 = true) ∧ mm_wp d 128 167 ls st (mm_pi h a x.toNatClampNeg x2) Q := wp_iastore rfl
theorem s128_167 : mm_wp d 128 167 [.ref a, l1, l2, l3, l4, l5, l6] st h Q ↔ mm_wp d 128 168 [.ref a, l1, l2, l3, l4, l5, l6] (.ref a :: st) h Q := wp_aloadR_n rfl rfl
theorem s128_168 : mm_wp d 128 168 ls (.ref a :: st) h Q ↔ (mm_s h a).1 = 10 ∧ mm_wp d 128 171 ls (mm_o (mm_r h a 16) :: st) h Q := wp_getR rfl rfl
theorem s128_171 : mm_wp d 128 171 [.ref a, l1, l2, l3, l4, l5, l6] st h Q ↔ mm_wp d 128 172 [.ref a, l1, l2, l3, l4, l5, l6] (.ref a :: st) h Q := wp_aloadR_n rfl rfl
theorem s128_172 : mm_wp d 128 172 ls (.ref a :: st) h Q ↔ (mm_s h a).1 = 10 ∧ mm_wp d 128 175 ls (.int (mm_i h a 8) :: st) h Q := wp_getI rfl rfl (by decide) (by decide)
theorem s128_175 : mm_wp d 128 175 ls st h Q ↔ mm_wp d 128 176 ls (.int (0 : Int32) :: st) h Q := wp_iconst rfl rfl
theorem s128_176 : mm_wp d 128 176 ls (.int x2 :: .int x :: .ref a :: st) h Q ↔ ((mm_s h a).1 = 20 ∧ ¬ a = 0 ∧ mm_in x (mm_s h a).2 = true) ∧ mm_wp d 128 177 ls st (mm_pi h a x.toNatClampNeg x2) Q := wp_iastore rfl
theorem s128_177 : mm_wp d 128 177 [.ref a, l1, l2, l3, l4, l5, l6] st h Q ↔ mm_wp d 128 178 [.ref a, l1, l2, l3, l4, l5, l6] (.ref a :: st) h Q := wp_aloadR_n rfl rfl
theorem s128_178 : mm_wp d 128 178 ls (.ref a :: st) h Q ↔ (mm_s h a).1 = 10 ∧ mm_wp d 128 181 ls (mm_o (mm_r h a 17) :: st) h Q := wp_getR rfl rfl
theorem s128_181 : mm_wp d 128 181 [.ref a, l1, l2, l3, l4, l5, l6] st h Q ↔ mm_wp d 128 182 [.ref a, l1, l2, l3, l4, l5, l6] (.ref a :: st) h Q := wp_aloadR_n rfl rfl
theorem s128_182 : mm_wp d 128 182 ls (.ref a :: st) h Q ↔ (mm_s h a).1 = 10 ∧ mm_wp d 128 185 ls (.int (mm_i h a 8) :: st) h Q := wp_getI rfl rfl (by decide) (by decide)
theorem s128_185 : mm_wp d 128 185 ls st h Q ↔ mm_wp d 128 186 ls (.int (0 : Int32) :: st) h Q := wp_iconst rfl rfl
theorem s128_186 : mm_wp d 128 186 ls (.int x2 :: .int x :: .ref a :: st) h Q ↔ ((mm_s h a).1 = 20 ∧ ¬ a = 0 ∧ mm_in x (mm_s h a).2 = true) ∧ mm_wp d 128 187 ls st (mm_pi h a x.toNatClampNeg x2) Q := wp_iastore rfl
theorem s128_187 : mm_wp d 128 187 ls st h Q ↔ mm_wp d 128 287 ls st h Q := wp_goto rfl rfl
theorem s128_190 : mm_wp d 128 190 [.ref a, l1, l2, l3, l4, l5, l6] st h Q ↔ mm_wp d 128 191 [.ref a, l1, l2, l3, l4, l5, l6] (.ref a :: st) h Q := wp_aloadR_n rfl rfl
theorem s128_191 : mm_wp d 128 191 ls (.ref a :: st) h Q ↔ (mm_s h a).1 = 10 ∧ mm_wp d 128 194 ls (mm_o (mm_r h a 17) :: st) h Q := wp_getR rfl rfl
theorem s128_194 : mm_wp d 128 194 [.ref a, l1, l2, l3, l4, l5, l6] st h Q ↔ mm_wp d 128 195 [.ref a, l1, l2, l3, l4, l5, l6] (.ref a :: st) h Q := wp_aloadR_n rfl rfl
theorem s128_195 : mm_wp d 128 195 ls (.ref a :: st) h Q ↔ (mm_s h a).1 = 10 ∧ mm_wp d 128 198 ls (.int (mm_i h a 8) :: st) h Q := wp_getI rfl rfl (by decide) (by decide)
theorem s128_198 : mm_wp d 128 198 ls (.int x :: .ref a :: st) h Q ↔ ((mm_s h a).1 = 20 ∧ mm_in x (mm_s h a).2 = true) ∧ mm_wp d 128 199 ls (.int (mm_i h a x.toNatClampNeg) :: st) h Q := wp_iaload rfl
theorem s128_199 : mm_wp d 128 199 [l0, l1, .int x, l3, l4, l5, l6] st h Q ↔ mm_wp d 128 200 [l0, l1, .int x, l3, l4, l5, l6] (.int x :: st) h Q := wp_iload_n rfl rfl
theorem s128_200 : mm_wp d 128 200 ls (.int x2 :: .int x :: st) h Q ↔ if x = x2 then mm_wp d 128 208 ls st h Q else mm_wp d 128 203 ls st h Q := wp_icmpeq rfl rfl
theorem s128_203 : mm_wp d 128 203 [l0, l1, l2, l3, .int x, l5, l6] st h Q ↔ mm_wp d 128 205 [l0, l1, l2, l3, .int x, l5, l6] (.int x :: st) h Q := wp_iload rfl rfl
theorem s128_205 : mm_wp d 128 205 ls (.int x :: st) h Q ↔ if x = 0 then mm_wp d 128 208 ls st h Q else mm_wp d 128 234 ls st h Q := wp_ifne rfl rfl
theorem s128_208 : mm_wp d 128 208 [.ref a, l1, l2, l3, l4, l5, l6] st h Q ↔ mm_wp d 128 209 [.ref a, l1, l2, l3, l4, l5, l6] (.ref a :: st) h Q := wp_aloadR_n rfl rfl
theorem s128_209 : mm_wp d 128 209 ls (.ref a :: st) h Q ↔ (mm_s h a).1 = 10 ∧ mm_wp d 128 212 ls (mm_o (mm_r h a 16) :: st) h Q := wp_getR rfl rfl
theorem s128_212 : mm_wp d 128 212 [.ref a, l1, l2, l3, l4, l5, l6] st h Q ↔ mm_wp d 128 213 [.ref a, l1, l2, l3, l4, l5, l6] (.ref a :: st) h Q := wp_aloadR_n rfl rfl
theorem s128_213 : mm_wp d 128 213 ls (.ref a :: st) h Q ↔ (mm_s h a).1 = 10 ∧ mm_wp d 128 216 ls (.int (mm_i h a 8) :: st) h Q := wp_getI rfl rfl (by decide) (by decide)
theorem s128_216 : mm_wp d 128 216 ls (.int x :: .ref a :: st) h Q ↔ mm_wp d 128 217 ls (.int x :: .ref a :: .int x :: .ref a :: st) h Q := wp_dup2 rfl
theorem s128_217 : mm_wp d 128 217 ls (.int x :: .ref a :: st) h Q ↔ ((mm_s h a).1 = 20 ∧ mm_in x (mm_s h a).2 = true) ∧ mm_wp d 128 218 ls (.int (mm_i h a x.toNatClampNeg) :: st) h Q := wp_iaload rfl
theorem s128_218 : mm_wp d 128 218 ls st h Q ↔ mm_wp d 128 219 ls (.int (1 : Int32) :: st) h Q := wp_iconst rfl rfl
theorem s128_219 : mm_wp d 128 219 ls (.int x2 :: .int x :: st) h Q ↔ mm_wp d 128 220 ls (.int (x + x2) :: st) h Q := wp_iadd rfl
theorem s128_220 : mm_wp d 128 220 ls (.int x2 :: .int x :: .ref a :: st) h Q ↔ ((mm_s h a).1 = 20 ∧ ¬ a = 0 ∧ mm_in x (mm_s h a).2 = true) ∧ mm_wp d 128 221 ls st (mm_pi h a x.toNatClampNeg x2) Q := wp_iastore rfl
theorem s128_221 : mm_wp d 128 221 [.ref a, l1, l2, l3, l4, l5, l6] st h Q ↔ mm_wp d 128 222 [.ref a, l1, l2, l3, l4, l5, l6] (.ref a :: st) h Q := wp_aloadR_n rfl rfl
theorem s128_222 : mm_wp d 128 222 ls (.ref a :: st) h Q ↔ (mm_s h a).1 = 10 ∧ mm_wp d 128 225 ls (mm_o (mm_r h a 17) :: st) h Q := wp_getR rfl rfl
theorem s128_225 : mm_wp d 128 225 [.ref a, l1, l2, l3, l4, l5, l6] st h Q ↔ mm_wp d 128 226 [.ref a, l1, l2, l3, l4, l5, l6] (.ref a :: st) h Q := wp_aloadR_n rfl rfl
theorem s128_226 : mm_wp d 128 226 ls (.ref a :: st) h Q ↔ (mm_s h a).1 = 10 ∧ mm_wp d 128 229 ls (.int (mm_i h a 8) :: st) h Q := wp_getI rfl rfl (by decide) (by decide)
theorem s128_229 : mm_wp d 128 229 ls st h Q ↔ mm_wp d 128 230 ls (.int (0 : Int32) :: st) h Q := wp_iconst rfl rfl
theorem s128_230 : mm_wp d 128 230 ls (.int x2 :: .int x :: .ref a :: st) h Q ↔ ((mm_s h a).1 = 20 ∧ ¬ a = 0 ∧ mm_in x (mm_s h a).2 = true) ∧ mm_wp d 128 231 ls st (mm_pi h a x.toNatClampNeg x2) Q := wp_iastore rfl
theorem s128_231 : mm_wp d 128 231 ls st h Q ↔ mm_wp d 128 287 ls st h Q := wp_goto rfl rfl
theorem s128_234 : mm_wp d 128 234 [.ref a, l1, l2, l3, l4, l5, l6] st h Q ↔ mm_wp d 128 235 [.ref a, l1, l2, l3, l4, l5, l6] (.ref a :: st) h Q := wp_aloadR_n rfl rfl
theorem s128_235 : mm_wp d 128 235 ls (.ref a :: st) h Q ↔ (mm_s h a).1 = 10 ∧ mm_wp d 128 238 ls (mm_o (mm_r h a 17) :: st) h Q := wp_getR rfl rfl
theorem s128_238 : mm_wp d 128 238 [.ref a, l1, l2, l3, l4, l5, l6] st h Q ↔ mm_wp d 128 239 [.ref a, l1, l2, l3, l4, l5, l6] (.ref a :: st) h Q := wp_aloadR_n rfl rfl
theorem s128_239 : mm_wp d 128 239 ls (.ref a :: st) h Q ↔ (mm_s h a).1 = 10 ∧ mm_wp d 128 242 ls (.int (mm_i h a 8) :: st) h Q := wp_getI rfl rfl (by decide) (by decide)
theorem s128_242 : mm_wp d 128 242 ls (.int x :: .ref a :: st) h Q ↔ ((mm_s h a).1 = 20 ∧ mm_in x (mm_s h a).2 = true) ∧ mm_wp d 128 243 ls (.int (mm_i h a x.toNatClampNeg) :: st) h Q := wp_iaload rfl
theorem s128_243 : mm_wp d 128 243 [l0, l1, l2, l3, l4, l5, l6] (.int x :: st) h Q ↔ mm_wp d 128 245 [l0, l1, l2, l3, l4, l5, .int x] st h Q := wp_istore rfl rfl
theorem s128_245 : mm_wp d 128 245 [.ref a, l1, l2, l3, l4, l5, l6] st h Q ↔ mm_wp d 128 246 [.ref a, l1, l2, l3, l4, l5, l6] (.ref a :: st) h Q := wp_aloadR_n rfl rfl
theorem s128_246 : mm_wp d 128 246 ls (.ref a :: st) h Q ↔ (mm_s h a).1 = 10 ∧ mm_wp d 128 249 ls (mm_o (mm_r h a 17) :: st) h Q := wp_getR rfl rfl
theorem s128_249 : mm_wp d 128 249 [.ref a, l1, l2, l3, l4, l5, l6] st h Q ↔ mm_wp d 128 250 [.ref a, l1, l2, l3, l4, l5, l6] (.ref a :: st) h Q := wp_aloadR_n rfl rfl
theorem s128_250 : mm_wp d 128 250 ls (.ref a :: st) h Q ↔ (mm_s h a).1 = 10 ∧ mm_wp d 128 253 ls (.int (mm_i h a 8) :: st) h Q := wp_getI rfl rfl (by decide) (by decide)
theorem s128_253 : mm_wp d 128 253 ls (.int x :: .ref a :: st) h Q ↔ mm_wp d 128 254 ls (.int x :: .ref a :: .int x :: .ref a :: st) h Q := wp_dup2 rfl
theorem s128_254 : mm_wp d 128 254 ls (.int x :: .ref a :: st) h Q ↔ ((mm_s h a).1 = 20 ∧ mm_in x (mm_s h a).2 = true) ∧ mm_wp d 128 255 ls (.int (mm_i h a x.toNatClampNeg) :: st) h Q := wp_iaload rfl
theorem s128_255 : mm_wp d 128 255 ls st h Q ↔ mm_wp d 128 256 ls (.int (1 : Int32) :: st) h Q := wp_iconst rfl rfl
theorem s128_256 : mm_wp d 128 256 ls (.int x2 :: .int x :: st) h Q ↔ mm_wp d 128 257 ls (.int (x + x2) :: st) h Q := wp_iadd rfl
theorem s128_257 : mm_wp d 128 257 ls (.int x2 :: .int x :: .ref a :: st) h Q ↔ ((mm_s h a).1 = 20 ∧ ¬ a = 0 ∧ mm_in x (mm_s h a).2 = true) ∧ mm_wp d 128 258 ls st (mm_pi h a x.toNatClampNeg x2) Q := wp_iastore rfl
theorem s128_258 : mm_wp d 128 258 [.ref a, l1, l2, l3, l4, l5, l6] st h Q ↔ mm_wp d 128 259 [.ref a, l1, l2, l3, l4, l5, l6] (.ref a :: st) h Q := wp_aloadR_n rfl rfl
theorem s128_259 : mm_wp d 128 259 [l0, l1, l2, l3, l4, .int x, l6] st h Q ↔ mm_wp d 128 261 [l0, l1, l2, l3, l4, .int x, l6] (.int x :: st) h Q := wp_iload rfl rfl
theorem s128_261 : mm_wp d 128 261 [.ref a, l1, l2, l3, l4, l5, l6] st h Q ↔ mm_wp d 128 262 [.ref a, l1, l2, l3, l4, l5, l6] (.ref a :: st) h Q := wp_aloadR_n rfl rfl
theorem s128_262 : mm_wp d 128 262 [l0, l1, l2, l3, l4, l5, .int x] st h Q ↔ mm_wp d 128 264 [l0, l1, l2, l3, l4, l5, .int x] (.int x :: st) h Q := wp_iload rfl rfl
theorem s128_264 : mm_wp (d + 1) 128 264 ls [.int x2, .ref a, t1, t0] h Q ↔ (mm_s h a).1 = 10 ∧ mm_wp d 129 0 [.ref a, .int x2] [] h (mm_bk (d + 1) 128 264 ls [t1, t0] Q) := wp_virtual rfl rfl ⟨by decide, rfl⟩ ⟨Nat.le_of_ble_eq_true rfl, Nat.le_of_ble_eq_true rfl⟩ rfl rfl rfl rfl rfl rfl
theorem s128_267 : mm_wp d 128 267 [.ref a, l1, l2, l3, l4, l5, l6] st h Q ↔ mm_wp d 128 268 [.ref a, l1, l2, l3, l4, l5, l6] (.ref a :: st) h Q := wp_aloadR_n rfl rfl
theorem s128_268 : mm_wp d 128 268 [l0, l1, l2, l3, l4, l5, .int x] st h Q ↔ mm_wp d 128 270 [l0, l1, l2, l3, l4, l5, .int x] (.int x :: st) h Q := wp_iload rfl rfl
theorem s128_270 : mm_wp (d + 1) 128 270 ls [.int x2, .ref a, t2, t1, t0] h Q ↔ (mm_s h a).1 = 10 ∧ mm_wp d 130 0 [.ref a, .int x2] [] h (mm_bk (d + 1) 128 270 ls [t2, t1, t0] Q) := wp_virtual rfl rfl ⟨by decide, rfl⟩ ⟨Nat.le_of_ble_eq_true rfl, Nat.le_of_ble_eq_true rfl⟩ rfl rfl rfl rfl rfl rfl
theorem s128_273 : mm_wp d 128 273 [.ref a, l1, l2, l3, l4, l5, l6] st h Q ↔ mm_wp d 128 274 [.ref a, l1, l2, l3, l4, l5, l6] (.ref a :: st) h Q := wp_aloadR_n rfl rfl
theorem s128_274 : mm_wp d 128 274 [l0, l1, l2, l3, l4, l5, .int x] st h Q ↔ mm_wp d 128 276 [l0, l1, l2, l3, l4, l5, .int x] (.int x :: st) h Q := wp_iload rfl rfl
theorem s128_276 : mm_wp (d + 1) 128 276 ls [.int x2, .ref a, t3, t2, t1, t0] h Q ↔ (mm_s h a).1 = 10 ∧ mm_wp d 131 0 [.ref a, .int x2] [] h (mm_bk (d + 1) 128 276 ls [t3, t2, t1, t0] Q) := wp_virtual rfl rfl ⟨by decide, rfl⟩ ⟨Nat.le_of_ble_eq_true rfl, Nat.le_of_ble_eq_true rfl⟩ rfl rfl rfl rfl rfl rfl
theorem s128_279 : mm_wp (d + 1) 128 279 ls [.int x5, .int x4, .int x3, .int x2, .ref a] h Q ↔ (mm_s h a).1 = 10 ∧ mm_wp d 132 0 [.ref a, .int x2, .int x3, .int x4, .int x5, mm_j, mm_j, mm_j, mm_j, mm_j, mm_j, mm_j, mm_j, mm_j, mm_j] [] h (mm_bk (d + 1) 128 279 ls [] Q) := wp_virtual rfl rfl ⟨by decide, rfl⟩ ⟨Nat.le_of_ble_eq_true rfl, Nat.le_of_ble_eq_true rfl⟩ rfl rfl rfl rfl rfl rfl
theorem s128_282 : mm_wp d 128 282 ls (.int x :: st) h Q ↔ if x = 0 then mm_wp d 128 287 ls st h Q else mm_wp d 128 285 ls st h Q := wp_ifeq rfl rfl
theorem s128_285 : mm_wp d 128 285 ls st h Q ↔ mm_wp d 128 286 ls (.int (1 : Int32) :: st) h Q := wp_iconst rfl rfl
theorem s128_286 : mm_wp d 128 286 ls (.int x :: st) h Q ↔ (x = 0 ∨ x = 1) ∧ Q (.inl (some (.int x))) h := wp_zret rfl rfl
theorem s128_287 : mm_wp d 128 287 ls st h Q ↔ mm_wp d 128 37 ls st h Q := wp_goto rfl rfl
theorem s128_290 : mm_wp d 128 290 ls st h Q ↔ mm_wp d 128 291 ls (.int (0 : Int32) :: st) h Q := wp_iconst rfl rfl
theorem s128_291 : mm_wp d 128 291 ls (.int x :: st) h Q ↔ (x = 0 ∨ x = 1) ∧ Q (.inl (some (.int x))) h := wp_zret rfl rfl
/-! 129: LoadRoomModel.cornerX(I)I -/
theorem s129_0 : mm_wp d 129 0 [.ref a, l1] st h Q ↔ mm_wp d 129 1 [.ref a, l1] (.ref a :: st) h Q := wp_aloadR_n rfl rfl
theorem s129_1 : mm_wp d 129 1 ls (.ref a :: st) h Q ↔ (mm_s h a).1 = 10 ∧ mm_wp d 129 4 ls (mm_o (mm_r h a 18) :: st) h Q := wp_getR rfl rfl
theorem s129_4 : mm_wp d 129 4 ls st h Q ↔ mm_wp d 129 6 ls (.int (27 : Int32) :: st) h Q := wp_bipush rfl rfl
theorem s129_6 : mm_wp d 129 6 [.ref a, l1] st h Q ↔ mm_wp d 129 7 [.ref a, l1] (.ref a :: st) h Q := wp_aloadR_n rfl rfl
theorem s129_7 : mm_wp d 129 7 ls (.ref a :: st) h Q ↔ (mm_s h a).1 = 10 ∧ mm_wp d 129 10 ls (.int (mm_i h a 8) :: st) h Q := wp_getI rfl rfl (by decide) (by decide)
theorem s129_10 : mm_wp d 129 10 ls (.int x2 :: .int x :: st) h Q ↔ mm_wp d 129 11 ls (.int (x * x2) :: st) h Q := wp_imul rfl
theorem s129_11 : mm_wp d 129 11 [l0, .int x] st h Q ↔ mm_wp d 129 12 [l0, .int x] (.int x :: st) h Q := wp_iload_n rfl rfl
theorem s129_12 : mm_wp d 129 12 [.ref a, l1] st h Q ↔ mm_wp d 129 13 [.ref a, l1] (.ref a :: st) h Q := wp_aloadR_n rfl rfl
theorem s129_13 : mm_wp d 129 13 ls (.ref a :: st) h Q ↔ (mm_s h a).1 = 10 ∧ mm_wp d 129 16 ls (mm_o (mm_r h a 19) :: st) h Q := wp_getR rfl rfl
theorem s129_16 : mm_wp d 129 16 ls st h Q ↔ mm_wp d 129 17 ls (.int (3 : Int32) :: st) h Q := wp_iconst rfl rfl
theorem s129_17 : mm_wp d 129 17 [.ref a, l1] st h Q ↔ mm_wp d 129 18 [.ref a, l1] (.ref a :: st) h Q := wp_aloadR_n rfl rfl
theorem s129_18 : mm_wp d 129 18 ls (.ref a :: st) h Q ↔ (mm_s h a).1 = 10 ∧ mm_wp d 129 21 ls (.int (mm_i h a 8) :: st) h Q := wp_getI rfl rfl (by decide) (by decide)
theorem s129_21 : mm_wp d 129 21 ls (.int x2 :: .int x :: st) h Q ↔ mm_wp d 129 22 ls (.int (x * x2) :: st) h Q := wp_imul rfl
theorem s129_22 : mm_wp d 129 22 ls (.int x :: .ref a :: st) h Q ↔ ((mm_s h a).1 = 20 ∧ mm_in x (mm_s h a).2 = true) ∧ mm_wp d 129 23 ls (.int (mm_i h a x.toNatClampNeg) :: st) h Q := wp_iaload rfl
theorem s129_23 : mm_wp d 129 23 ls (.int x2 :: .int x :: st) h Q ↔ ¬ x2 = 0 ∧ mm_wp d 129 24 ls (.int (x - x / x2 * x2) :: st) h Q := wp_irem rfl
theorem s129_24 : mm_wp d 129 24 ls (.int x2 :: .int x :: st) h Q ↔ mm_wp d 129 25 ls (.int (x + x2) :: st) h Q := wp_iadd rfl
theorem s129_25 : mm_wp d 129 25 ls (.int x :: .ref a :: st) h Q ↔ ((mm_s h a).1 = 20 ∧ mm_in x (mm_s h a).2 = true) ∧ mm_wp d 129 26 ls (.int (mm_i h a x.toNatClampNeg) :: st) h Q := wp_iaload rfl
theorem s129_26 : mm_wp d 129 26 ls (.int x :: st) h Q ↔ Q (.inl (some (.int x))) h := wp_iret rfl rfl
/-! 130: LoadRoomModel.cornerY(I)I -/
theorem s130_0 : mm_wp d 130 0 [.ref a, l1] st h Q ↔ mm_wp d 130 1 [.ref a, l1] (.ref a :: st) h Q := wp_aloadR_n rfl rfl
theorem s130_1 : mm_wp d 130 1 ls (.ref a :: st) h Q ↔ (mm_s h a).1 = 10 ∧ mm_wp d 130 4 ls (mm_o (mm_r h a 18) :: st) h Q := wp_getR rfl rfl
theorem s130_4 : mm_wp d 130 4 ls st h Q ↔ mm_wp d 130 6 ls (.int (27 : Int32) :: st) h Q := wp_bipush rfl rfl
theorem s130_6 : mm_wp d 130 6 [.ref a, l1] st h Q ↔ mm_wp d 130 7 [.ref a, l1] (.ref a :: st) h Q := wp_aloadR_n rfl rfl
theorem s130_7 : mm_wp d 130 7 ls (.ref a :: st) h Q ↔ (mm_s h a).1 = 10 ∧ mm_wp d 130 10 ls (.int (mm_i h a 8) :: st) h Q := wp_getI rfl rfl (by decide) (by decide)
theorem s130_10 : mm_wp d 130 10 ls (.int x2 :: .int x :: st) h Q ↔ mm_wp d 130 11 ls (.int (x * x2) :: st) h Q := wp_imul rfl
theorem s130_11 : mm_wp d 130 11 ls st h Q ↔ mm_wp d 130 13 ls (.int (9 : Int32) :: st) h Q := wp_bipush rfl rfl
theorem s130_13 : mm_wp d 130 13 ls (.int x2 :: .int x :: st) h Q ↔ mm_wp d 130 14 ls (.int (x + x2) :: st) h Q := wp_iadd rfl
theorem s130_14 : mm_wp d 130 14 [l0, .int x] st h Q ↔ mm_wp d 130 15 [l0, .int x] (.int x :: st) h Q := wp_iload_n rfl rfl
theorem s130_15 : mm_wp d 130 15 [.ref a, l1] st h Q ↔ mm_wp d 130 16 [.ref a, l1] (.ref a :: st) h Q := wp_aloadR_n rfl rfl
theorem s130_16 : mm_wp d 130 16 ls (.ref a :: st) h Q ↔ (mm_s h a).1 = 10 ∧ mm_wp d 130 19 ls (mm_o (mm_r h a 19) :: st) h Q := wp_getR rfl rfl
theorem s130_19 : mm_wp d 130 19 ls st h Q ↔ mm_wp d 130 20 ls (.int (3 : Int32) :: st) h Q := wp_iconst rfl rfl
theorem s130_20 : mm_wp d 130 20 [.ref a, l1] st h Q ↔ mm_wp d 130 21 [.ref a, l1] (.ref a :: st) h Q := wp_aloadR_n rfl rfl
theorem s130_21 : mm_wp d 130 21 ls (.ref a :: st) h Q ↔ (mm_s h a).1 = 10 ∧ mm_wp d 130 24 ls (.int (mm_i h a 8) :: st) h Q := wp_getI rfl rfl (by decide) (by decide)
theorem s130_24 : mm_wp d 130 24 ls (.int x2 :: .int x :: st) h Q ↔ mm_wp d 130 25 ls (.int (x * x2) :: st) h Q := wp_imul rfl
theorem s130_25 : mm_wp d 130 25 ls (.int x :: .ref a :: st) h Q ↔ ((mm_s h a).1 = 20 ∧ mm_in x (mm_s h a).2 = true) ∧ mm_wp d 130 26 ls (.int (mm_i h a x.toNatClampNeg) :: st) h Q := wp_iaload rfl
theorem s130_26 : mm_wp d 130 26 ls (.int x2 :: .int x :: st) h Q ↔ ¬ x2 = 0 ∧ mm_wp d 130 27 ls (.int (x / x2) :: st) h Q := wp_idiv rfl
theorem s130_27 : mm_wp d 130 27 [.ref a, l1] st h Q ↔ mm_wp d 130 28 [.ref a, l1] (.ref a :: st) h Q := wp_aloadR_n rfl rfl
theorem s130_28 : mm_wp d 130 28 ls (.ref a :: st) h Q ↔ (mm_s h a).1 = 10 ∧ mm_wp d 130 31 ls (mm_o (mm_r h a 19) :: st) h Q := wp_getR rfl rfl
theorem s130_31 : mm_wp d 130 31 ls st h Q ↔ mm_wp d 130 32 ls (.int (3 : Int32) :: st) h Q := wp_iconst rfl rfl
theorem s130_32 : mm_wp d 130 32 [.ref a, l1] st h Q ↔ mm_wp d 130 33 [.ref a, l1] (.ref a :: st) h Q := wp_aloadR_n rfl rfl
theorem s130_33 : mm_wp d 130 33 ls (.ref a :: st) h Q ↔ (mm_s h a).1 = 10 ∧ mm_wp d 130 36 ls (.int (mm_i h a 8) :: st) h Q := wp_getI rfl rfl (by decide) (by decide)
theorem s130_36 : mm_wp d 130 36 ls (.int x2 :: .int x :: st) h Q ↔ mm_wp d 130 37 ls (.int (x * x2) :: st) h Q := wp_imul rfl
theorem s130_37 : mm_wp d 130 37 ls st h Q ↔ mm_wp d 130 38 ls (.int (2 : Int32) :: st) h Q := wp_iconst rfl rfl
theorem s130_38 : mm_wp d 130 38 ls (.int x2 :: .int x :: st) h Q ↔ mm_wp d 130 39 ls (.int (x + x2) :: st) h Q := wp_iadd rfl
theorem s130_39 : mm_wp d 130 39 ls (.int x :: .ref a :: st) h Q ↔ ((mm_s h a).1 = 20 ∧ mm_in x (mm_s h a).2 = true) ∧ mm_wp d 130 40 ls (.int (mm_i h a x.toNatClampNeg) :: st) h Q := wp_iaload rfl
theorem s130_40 : mm_wp d 130 40 ls (.int x2 :: .int x :: st) h Q ↔ ¬ x2 = 0 ∧ mm_wp d 130 41 ls (.int (x / x2) :: st) h Q := wp_idiv rfl
theorem s130_41 : mm_wp d 130 41 ls (.int x2 :: .int x :: st) h Q ↔ mm_wp d 130 42 ls (.int (x + x2) :: st) h Q := wp_iadd rfl
theorem s130_42 : mm_wp d 130 42 ls (.int x :: .ref a :: st) h Q ↔ ((mm_s h a).1 = 20 ∧ mm_in x (mm_s h a).2 = true) ∧ mm_wp d 130 43 ls (.int (mm_i h a x.toNatClampNeg) :: st) h Q := wp_iaload rfl
theorem s130_43 : mm_wp d 130 43 ls (.int x :: st) h Q ↔ Q (.inl (some (.int x))) h := wp_iret rfl rfl
/-! 131: LoadRoomModel.cornerZ(I)I -/
theorem s131_0 : mm_wp d 131 0 [.ref a, l1] st h Q ↔ mm_wp d 131 1 [.ref a, l1] (.ref a :: st) h Q := wp_aloadR_n rfl rfl
theorem s131_1 : mm_wp d 131 1 ls (.ref a :: st) h Q ↔ (mm_s h a).1 = 10 ∧ mm_wp d 131 4 ls (mm_o (mm_r h a 18) :: st) h Q := wp_getR rfl rfl
theorem s131_4 : mm_wp d 131 4 ls st h Q ↔ mm_wp d 131 6 ls (.int (27 : Int32) :: st) h Q := wp_bipush rfl rfl
theorem s131_6 : mm_wp d 131 6 [.ref a, l1] st h Q ↔ mm_wp d 131 7 [.ref a, l1] (.ref a :: st) h Q := wp_aloadR_n rfl rfl
theorem s131_7 : mm_wp d 131 7 ls (.ref a :: st) h Q ↔ (mm_s h a).1 = 10 ∧ mm_wp d 131 10 ls (.int (mm_i h a 8) :: st) h Q := wp_getI rfl rfl (by decide) (by decide)
theorem s131_10 : mm_wp d 131 10 ls (.int x2 :: .int x :: st) h Q ↔ mm_wp d 131 11 ls (.int (x * x2) :: st) h Q := wp_imul rfl
theorem s131_11 : mm_wp d 131 11 ls st h Q ↔ mm_wp d 131 13 ls (.int (18 : Int32) :: st) h Q := wp_bipush rfl rfl
theorem s131_13 : mm_wp d 131 13 ls (.int x2 :: .int x :: st) h Q ↔ mm_wp d 131 14 ls (.int (x + x2) :: st) h Q := wp_iadd rfl
theorem s131_14 : mm_wp d 131 14 [l0, .int x] st h Q ↔ mm_wp d 131 15 [l0, .int x] (.int x :: st) h Q := wp_iload_n rfl rfl
theorem s131_15 : mm_wp d 131 15 [.ref a, l1] st h Q ↔ mm_wp d 131 16 [.ref a, l1] (.ref a :: st) h Q := wp_aloadR_n rfl rfl
theorem s131_16 : mm_wp d 131 16 ls (.ref a :: st) h Q ↔ (mm_s h a).1 = 10 ∧ mm_wp d 131 19 ls (mm_o (mm_r h a 19) :: st) h Q := wp_getR rfl rfl
theorem s131_19 : mm_wp d 131 19 ls st h Q ↔ mm_wp d 131 20 ls (.int (3 : Int32) :: st) h Q := wp_iconst rfl rfl
theorem s131_20 : mm_wp d 131 20 [.ref a, l1] st h Q ↔ mm_wp d 131 21 [.ref a, l1] (.ref a :: st) h Q := wp_aloadR_n rfl rfl
theorem s131_21 : mm_wp d 131 21 ls (.ref a :: st) h Q ↔ (mm_s h a).1 = 10 ∧ mm_wp d 131 24 ls (.int (mm_i h a 8) :: st) h Q := wp_getI rfl rfl (by decide) (by decide)
theorem s131_24 : mm_wp d 131 24 ls (.int x2 :: .int x :: st) h Q ↔ mm_wp d 131 25 ls (.int (x * x2) :: st) h Q := wp_imul rfl
theorem s131_25 : mm_wp d 131 25 ls (.int x :: .ref a :: st) h Q ↔ ((mm_s h a).1 = 20 ∧ mm_in x (mm_s h a).2 = true) ∧ mm_wp d 131 26 ls (.int (mm_i h a x.toNatClampNeg) :: st) h Q := wp_iaload rfl
theorem s131_26 : mm_wp d 131 26 ls (.int x2 :: .int x :: st) h Q ↔ ¬ x2 = 0 ∧ mm_wp d 131 27 ls (.int (x / x2) :: st) h Q := wp_idiv rfl
theorem s131_27 : mm_wp d 131 27 [.ref a, l1] st h Q ↔ mm_wp d 131 28 [.ref a, l1] (.ref a :: st) h Q := wp_aloadR_n rfl rfl
theorem s131_28 : mm_wp d 131 28 ls (.ref a :: st) h Q ↔ (mm_s h a).1 = 10 ∧ mm_wp d 131 31 ls (mm_o (mm_r h a 19) :: st) h Q := wp_getR rfl rfl
theorem s131_31 : mm_wp d 131 31 ls st h Q ↔ mm_wp d 131 32 ls (.int (3 : Int32) :: st) h Q := wp_iconst rfl rfl
theorem s131_32 : mm_wp d 131 32 [.ref a, l1] st h Q ↔ mm_wp d 131 33 [.ref a, l1] (.ref a :: st) h Q := wp_aloadR_n rfl rfl
theorem s131_33 : mm_wp d 131 33 ls (.ref a :: st) h Q ↔ (mm_s h a).1 = 10 ∧ mm_wp d 131 36 ls (.int (mm_i h a 8) :: st) h Q := wp_getI rfl rfl (by decide) (by decide)
theorem s131_36 : mm_wp d 131 36 ls (.int x2 :: .int x :: st) h Q ↔ mm_wp d 131 37 ls (.int (x * x2) :: st) h Q := wp_imul rfl
theorem s131_37 : mm_wp d 131 37 ls st h Q ↔ mm_wp d 131 38 ls (.int (2 : Int32) :: st) h Q := wp_iconst rfl rfl
theorem s131_38 : mm_wp d 131 38 ls (.int x2 :: .int x :: st) h Q ↔ mm_wp d 131 39 ls (.int (x + x2) :: st) h Q := wp_iadd rfl
theorem s131_39 : mm_wp d 131 39 ls (.int x :: .ref a :: st) h Q ↔ ((mm_s h a).1 = 20 ∧ mm_in x (mm_s h a).2 = true) ∧ mm_wp d 131 40 ls (.int (mm_i h a x.toNatClampNeg) :: st) h Q := wp_iaload rfl
theorem s131_40 : mm_wp d 131 40 ls (.int x2 :: .int x :: st) h Q ↔ ¬ x2 = 0 ∧ mm_wp d 131 41 ls (.int (x - x / x2 * x2) :: st) h Q := wp_irem rfl
theorem s131_41 : mm_wp d 131 41 ls (.int x2 :: .int x :: st) h Q ↔ mm_wp d 131 42 ls (.int (x + x2) :: st) h Q := wp_iadd rfl
theorem s131_42 : mm_wp d 131 42 ls (.int x :: .ref a :: st) h Q ↔ ((mm_s h a).1 = 20 ∧ mm_in x (mm_s h a).2 = true) ∧ mm_wp d 131 43 ls (.int (mm_i h a x.toNatClampNeg) :: st) h Q := wp_iaload rfl
theorem s131_43 : mm_wp d 131 43 ls (.int x :: st) h Q ↔ Q (.inl (some (.int x))) h := wp_iret rfl rfl
/-! 132: LoadRoomModel.mayCome(IIII)Z -/
theorem s132_0 : mm_wp d 132 0 [l0, l1, .int x, l3, l4, l5, l6, l7, l8, l9, l10, l11, l12, l13, l14] st h Q ↔ mm_wp d 132 1 [l0, l1, .int x, l3, l4, l5, l6, l7, l8, l9, l10, l11, l12, l13, l14] (.int x :: st) h Q := wp_iload_n rfl rfl
theorem s132_1 : mm_wp d 132 1 [.ref a, l1, l2, l3, l4, l5, l6, l7, l8, l9, l10, l11, l12, l13, l14] st h Q ↔ mm_wp d 132 2 [.ref a, l1, l2, l3, l4, l5, l6, l7, l8, l9, l10, l11, l12, l13, l14] (.ref a :: st) h Q := wp_aloadR_n rfl rfl
theorem s132_2 : mm_wp d 132 2 ls (.ref a :: st) h Q ↔ (mm_s h a).1 = 10 ∧ mm_wp d 132 5 ls (mm_o (mm_r h a 33) :: st) h Q := wp_getR rfl rfl
theorem s132_5 : mm_wp d 132 5 ls st h Q ↔ mm_wp d 132 6 ls (.int (0 : Int32) :: st) h Q := wp_iconst rfl rfl
theorem s132_6 : mm_wp d 132 6 ls (.int x :: .ref a :: st) h Q ↔ ((mm_s h a).1 = 20 ∧ mm_in x (mm_s h a).2 = true) ∧ mm_wp d 132 7 ls (.int (mm_i h a x.toNatClampNeg) :: st) h Q := wp_iaload rfl
theorem s132_7 : mm_wp d 132 7 ls (.int x2 :: .int x :: st) h Q ↔ mm_wp d 132 8 ls (.int (x + x2) :: st) h Q := wp_iadd rfl
theorem s132_8 : mm_wp d 132 8 [.ref a, l1, l2, l3, l4, l5, l6, l7, l8, l9, l10, l11, l12, l13, l14] st h Q ↔ mm_wp d 132 9 [.ref a, l1, l2, l3, l4, l5, l6, l7, l8, l9, l10, l11, l12, l13, l14] (.ref a :: st) h Q := wp_aloadR_n rfl rfl
theorem s132_9 : mm_wp d 132 9 ls (.ref a :: st) h Q ↔ (mm_s h a).1 = 10 ∧ mm_wp d 132 12 ls (mm_o (mm_r h a 1) :: st) h Q := wp_getR rfl rfl
theorem s132_12 : mm_wp d 132 12 ls st h Q ↔ mm_wp d 132 13 ls (.int (0 : Int32) :: st) h Q := wp_iconst rfl rfl
theorem s132_13 : mm_wp d 132 13 ls (.int x :: .ref a :: st) h Q ↔ ((mm_s h a).1 = 20 ∧ mm_in x (mm_s h a).2 = true) ∧ mm_wp d 132 14 ls (.int (mm_i h a x.toNatClampNeg) :: st) h Q := wp_iaload rfl
theorem s132_14 : mm_wp d 132 14 ls (.int x2 :: .int x :: st) h Q ↔ if x2 < x then mm_wp d 132 63 ls st h Q else mm_wp d 132 17 ls st h Q := wp_icmpgt rfl rfl
theorem s132_17 : mm_wp d 132 17 [l0, l1, l2, .int x, l4, l5, l6, l7, l8, l9, l10, l11, l12, l13, l14] st h Q ↔ mm_wp d 132 18 [l0, l1, l2, .int x, l4, l5, l6, l7, l8, l9, l10, l11, l12, l13, l14] (.int x :: st) h Q := wp_iload_n rfl rfl
theorem s132_18 : mm_wp d 132 18 [.ref a, l1, l2, l3, l4, l5, l6, l7, l8, l9, l10, l11, l12, l13, l14] st h Q ↔ mm_wp d 132 19 [.ref a, l1, l2, l3, l4, l5, l6, l7, l8, l9, l10, l11, l12, l13, l14] (.ref a :: st) h Q := wp_aloadR_n rfl rfl
theorem s132_19 : mm_wp d 132 19 ls (.ref a :: st) h Q ↔ (mm_s h a).1 = 10 ∧ mm_wp d 132 22 ls (mm_o (mm_r h a 33) :: st) h Q := wp_getR rfl rfl
theorem s132_22 : mm_wp d 132 22 ls st h Q ↔ mm_wp d 132 23 ls (.int (1 : Int32) :: st) h Q := wp_iconst rfl rfl
theorem s132_23 : mm_wp d 132 23 ls (.int x :: .ref a :: st) h Q ↔ ((mm_s h a).1 = 20 ∧ mm_in x (mm_s h a).2 = true) ∧ mm_wp d 132 24 ls (.int (mm_i h a x.toNatClampNeg) :: st) h Q := wp_iaload rfl
theorem s132_24 : mm_wp d 132 24 ls (.int x2 :: .int x :: st) h Q ↔ mm_wp d 132 25 ls (.int (x + x2) :: st) h Q := wp_iadd rfl
theorem s132_25 : mm_wp d 132 25 [.ref a, l1, l2, l3, l4, l5, l6, l7, l8, l9, l10, l11, l12, l13, l14] st h Q ↔ mm_wp d 132 26 [.ref a, l1, l2, l3, l4, l5, l6, l7, l8, l9, l10, l11, l12, l13, l14] (.ref a :: st) h Q := wp_aloadR_n rfl rfl
theorem s132_26 : mm_wp d 132 26 ls (.ref a :: st) h Q ↔ (mm_s h a).1 = 10 ∧ mm_wp d 132 29 ls (mm_o (mm_r h a 1) :: st) h Q := wp_getR rfl rfl
theorem s132_29 : mm_wp d 132 29 ls st h Q ↔ mm_wp d 132 30 ls (.int (1 : Int32) :: st) h Q := wp_iconst rfl rfl
theorem s132_30 : mm_wp d 132 30 ls (.int x :: .ref a :: st) h Q ↔ ((mm_s h a).1 = 20 ∧ mm_in x (mm_s h a).2 = true) ∧ mm_wp d 132 31 ls (.int (mm_i h a x.toNatClampNeg) :: st) h Q := wp_iaload rfl
theorem s132_31 : mm_wp d 132 31 ls (.int x2 :: .int x :: st) h Q ↔ if x2 < x then mm_wp d 132 63 ls st h Q else mm_wp d 132 34 ls st h Q := wp_icmpgt rfl rfl
theorem s132_34 : mm_wp d 132 34 [l0, l1, l2, l3, .int x, l5, l6, l7, l8, l9, l10, l11, l12, l13, l14] st h Q ↔ mm_wp d 132 36 [l0, l1, l2, l3, .int x, l5, l6, l7, l8, l9, l10, l11, l12, l13, l14] (.int x :: st) h Q := wp_iload rfl rfl
theorem s132_36 : mm_wp d 132 36 [.ref a, l1, l2, l3, l4, l5, l6, l7, l8, l9, l10, l11, l12, l13, l14] st h Q ↔ mm_wp d 132 37 [.ref a, l1, l2, l3, l4, l5, l6, l7, l8, l9, l10, l11, l12, l13, l14] (.ref a :: st) h Q := wp_aloadR_n rfl rfl
theorem s132_37 : mm_wp d 132 37 ls (.ref a :: st) h Q ↔ (mm_s h a).1 = 10 ∧ mm_wp d 132 40 ls (mm_o (mm_r h a 33) :: st) h Q := wp_getR rfl rfl
theorem s132_40 : mm_wp d 132 40 ls st h Q ↔ mm_wp d 132 41 ls (.int (2 : Int32) :: st) h Q := wp_iconst rfl rfl
theorem s132_41 : mm_wp d 132 41 ls (.int x :: .ref a :: st) h Q ↔ ((mm_s h a).1 = 20 ∧ mm_in x (mm_s h a).2 = true) ∧ mm_wp d 132 42 ls (.int (mm_i h a x.toNatClampNeg) :: st) h Q := wp_iaload rfl
theorem s132_42 : mm_wp d 132 42 ls (.int x2 :: .int x :: st) h Q ↔ mm_wp d 132 43 ls (.int (x + x2) :: st) h Q := wp_iadd rfl
theorem s132_43 : mm_wp d 132 43 [.ref a, l1, l2, l3, l4, l5, l6, l7, l8, l9, l10, l11, l12, l13, l14] st h Q ↔ mm_wp d 132 44 [.ref a, l1, l2, l3, l4, l5, l6, l7, l8, l9, l10, l11, l12, l13, l14] (.ref a :: st) h Q := wp_aloadR_n rfl rfl
theorem s132_44 : mm_wp d 132 44 ls (.ref a :: st) h Q ↔ (mm_s h a).1 = 10 ∧ mm_wp d 132 47 ls (mm_o (mm_r h a 1) :: st) h Q := wp_getR rfl rfl
theorem s132_47 : mm_wp d 132 47 ls st h Q ↔ mm_wp d 132 48 ls (.int (2 : Int32) :: st) h Q := wp_iconst rfl rfl
theorem s132_48 : mm_wp d 132 48 ls (.int x :: .ref a :: st) h Q ↔ ((mm_s h a).1 = 20 ∧ mm_in x (mm_s h a).2 = true) ∧ mm_wp d 132 49 ls (.int (mm_i h a x.toNatClampNeg) :: st) h Q := wp_iaload rfl
theorem s132_49 : mm_wp d 132 49 ls (.int x2 :: .int x :: st) h Q ↔ if x2 < x then mm_wp d 132 63 ls st h Q else mm_wp d 132 52 ls st h Q := wp_icmpgt rfl rfl
theorem s132_52 : mm_wp d 132 52 [.ref a, l1, l2, l3, l4, l5, l6, l7, l8, l9, l10, l11, l12, l13, l14] st h Q ↔ mm_wp d 132 53 [.ref a, l1, l2, l3, l4, l5, l6, l7, l8, l9, l10, l11, l12, l13, l14] (.ref a :: st) h Q := wp_aloadR_n rfl rfl
theorem s132_53 : mm_wp d 132 53 [l0, l1, .int x, l3, l4, l5, l6, l7, l8, l9, l10, l11, l12, l13, l14] st h Q ↔ mm_wp d 132 54 [l0, l1, .int x, l3, l4, l5, l6, l7, l8, l9, l10, l11, l12, l13, l14] (.int x :: st) h Q := wp_iload_n rfl rfl
theorem s132_54 : mm_wp d 132 54 [l0, l1, l2, .int x, l4, l5, l6, l7, l8, l9, l10, l11, l12, l13, l14] st h Q ↔ mm_wp d 132 55 [l0, l1, l2, .int x, l4, l5, l6, l7, l8, l9, l10, l11, l12, l13, l14] (.int x :: st) h Q := wp_iload_n rfl rfl
theorem s132_55 : mm_wp d 132 55 [l0, l1, l2, l3, .int x, l5, l6, l7, l8, l9, l10, l11, l12, l13, l14] st h Q ↔ mm_wp d 132 57 [l0, l1, l2, l3, .int x, l5, l6, l7, l8, l9, l10, l11, l12, l13, l14] (.int x :: st) h Q := wp_iload rfl rfl
theorem s132_57 : mm_wp (d + 1) 132 57 ls [.int x4, .int x3, .int x2, .ref a] h Q ↔ (mm_s h a).1 = 10 ∧ mm_wp d 133 0 [.ref a, .int x2, .int x3, .int x4, mm_j] [] h (mm_bk (d + 1) 132 57 ls [] Q) := wp_virtual rfl rfl ⟨by decide, rfl⟩ ⟨Nat.le_of_ble_eq_true rfl, Nat.le_of_ble_eq_true rfl⟩ rfl rfl rfl rfl rfl rfl
theorem s132_60 : mm_wp d 132 60 ls (.int x :: st) h Q ↔ if x = 0 then mm_wp d 132 63 ls st h Q else mm_wp d 132 65 ls st h Q := wp_ifne rfl rfl
theorem s132_63 : mm_wp d 132 63 ls st h Q ↔ mm_wp d 132 64 ls (.int (0 : Int32) :: st) h Q := wp_iconst rfl rfl
theorem s132_64 : mm_wp d 132 64 ls (.int x :: st) h Q ↔ (x = 0 ∨ x = 1) ∧ Q (.inl (some (.int x))) h := wp_zret rfl rfl
theorem s132_65 : mm_wp d 132 65 ls st h Q ↔ mm_wp d 132 66 ls (.int (0 : Int32) :: st) h Q := wp_iconst rfl rfl
theorem s132_66 : mm_wp d 132 66 [l0, l1, l2, l3, l4, l5, l6, l7, l8, l9, l10, l11, l12, l13, l14] (.int x :: st) h Q ↔ mm_wp d 132 68 [l0, l1, l2, l3, l4, .int x, l6, l7, l8, l9, l10, l11, l12, l13, l14] st h Q := wp_istore rfl rfl
theorem s132_68 : mm_wp d 132 68 ls st h Q ↔ mm_wp d 132 69 ls (.int (0 : Int32) :: st) h Q := wp_iconst rfl rfl
theorem s132_69 : mm_wp d 132 69 [l0, l1, l2, l3, l4, l5, l6, l7, l8, l9, l10, l11, l12, l13, l14] (.int x :: st) h Q ↔ mm_wp d 132 71 [l0, l1, l2, l3, l4, l5, .int x, l7, l8, l9, l10, l11, l12, l13, l14] st h Q := wp_istore rfl rfl
theorem s132_71 : mm_wp d 132 71 [l0, l1, l2, l3, l4, l5, .int x, l7, l8, l9, l10, l11, l12, l13, l14] st h Q ↔ mm_wp d 132 73 [l0, l1, l2, l3, l4, l5, .int x, l7, l8, l9, l10, l11, l12, l13, l14] (.int x :: st) h Q := wp_iload rfl rfl
theorem s132_73 : mm_wp d 132 73 [.ref a, l1, l2, l3, l4, l5, l6, l7, l8, l9, l10, l11, l12, l13, l14] st h Q ↔ mm_wp d 132 74 [.ref a, l1, l2, l3, l4, l5, l6, l7, l8, l9, l10, l11, l12, l13, l14] (.ref a :: st) h Q := wp_aloadR_n rfl rfl
theorem s132_74 : mm_wp d 132 74 ls (.ref a :: st) h Q ↔ (mm_s h a).1 = 10 ∧ mm_wp d 132 77 ls (.int (mm_i h a 8) :: st) h Q := wp_getI rfl rfl (by decide) (by decide)
theorem s132_77 : mm_wp d 132 77 ls (.int x2 :: .int x :: st) h Q ↔ if x2 ≤ x then mm_wp d 132 379 ls st h Q else mm_wp d 132 80 ls st h Q := wp_icmpge rfl rfl
theorem s132_80 : mm_wp d 132 80 [.ref a, l1, l2, l3, l4, l5, l6, l7, l8, l9, l10, l11, l12, l13, l14] st h Q ↔ mm_wp d 132 81 [.ref a, l1, l2, l3, l4, l5, l6, l7, l8, l9, l10, l11, l12, l13, l14] (.ref a :: st) h Q := wp_aloadR_n rfl rfl
theorem s132_81 : mm_wp d 132 81 ls (.ref a :: st) h Q ↔ (mm_s h a).1 = 10 ∧ mm_wp d 132 84 ls (mm_o (mm_r h a 9) :: st) h Q := wp_getR rfl rfl
theorem s132_84 : mm_wp d 132 84 [l0, l1, l2, l3, l4, l5, .int x, l7, l8, l9, l10, l11, l12, l13, l14] st h Q ↔ mm_wp d 132 86 [l0, l1, l2, l3, l4, l5, .int x, l7, l8, l9, l10, l11, l12, l13, l14] (.int x :: st) h Q := wp_iload rfl rfl
theorem s132_86 : mm_wp d 132 86 ls (.int x :: .ref a :: st) h Q ↔ ((mm_s h a).1 = 20 ∧ mm_in x (mm_s h a).2 = true) ∧ mm_wp d 132 87 ls (.int (mm_i h a x.toNatClampNeg) :: st) h Q := wp_iaload rfl
theorem s132_87 : mm_wp d 132 87 [l0, l1, l2, l3, l4, l5, l6, l7, l8, l9, l10, l11, l12, l13, l14] (.int x :: st) h Q ↔ mm_wp d 132 89 [l0, l1, l2, l3, l4, l5, l6, .int x, l8, l9, l10, l11, l12, l13, l14] st h Q := wp_istore rfl rfl
theorem s132_89 : mm_wp d 132 89 [.ref a, l1, l2, l3, l4, l5, l6, l7, l8, l9, l10, l11, l12, l13, l14] st h Q ↔ mm_wp d 132 90 [.ref a, l1, l2, l3, l4, l5, l6, l7, l8, l9, l10, l11, l12, l13, l14] (.ref a :: st) h Q := wp_aloadR_n rfl rfl
theorem s132_90 : mm_wp d 132 90 [l0, l1, l2, l3, l4, l5, .int x, l7, l8, l9, l10, l11, l12, l13, l14] st h Q ↔ mm_wp d 132 92 [l0, l1, l2, l3, l4, l5, .int x, l7, l8, l9, l10, l11, l12, l13, l14] (.int x :: st) h Q := wp_iload rfl rfl
theorem s132_92 : mm_wp d 132 92 ls st h Q ↔ mm_wp d 132 93 ls (.int (0 : Int32) :: st) h Q := wp_iconst rfl rfl
theorem s132_93 : mm_wp d 132 93 [l0, l1, .int x, l3, l4, l5, l6, l7, l8, l9, l10, l11, l12, l13, l14] st h Q ↔ mm_wp d 132 94 [l0, l1, .int x, l3, l4, l5, l6, l7, l8, l9, l10, l11, l12, l13, l14] (.int x :: st) h Q := wp_iload_n rfl rfl
theorem s132_94 : mm_wp d 132 94 [.ref a, l1, l2, l3, l4, l5, l6, l7, l8, l9, l10, l11, l12, l13, l14] st h Q ↔ mm_wp d 132 95 [.ref a, l1, l2, l3, l4, l5, l6, l7, l8, l9, l10, l11, l12, l13, l14] (.ref a :: st) h Q := wp_aloadR_n rfl rfl
theorem s132_95 : mm_wp d 132 95 ls (.ref a :: st) h Q ↔ (mm_s h a).1 = 10 ∧ mm_wp d 132 98 ls (mm_o (mm_r h a 33) :: st) h Q := wp_getR rfl rfl
theorem s132_98 : mm_wp d 132 98 ls st h Q ↔ mm_wp d 132 99 ls (.int (0 : Int32) :: st) h Q := wp_iconst rfl rfl
theorem s132_99 : mm_wp d 132 99 ls (.int x :: .ref a :: st) h Q ↔ ((mm_s h a).1 = 20 ∧ mm_in x (mm_s h a).2 = true) ∧ mm_wp d 132 100 ls (.int (mm_i h a x.toNatClampNeg) :: st) h Q := wp_iaload rfl
theorem s132_100 : mm_wp (d + 1) 132 100 ls [.int x5, .int x4, .int x3, .int x2, .ref a] h Q ↔ (mm_s h a).1 = 10 ∧ mm_wp d 134 0 [.ref a, .int x2, .int x3, .int x4, .int x5, mm_j, mm_j, mm_j, mm_j] [] h (mm_bk (d + 1) 132 100 ls [] Q) := wp_virtual rfl rfl ⟨by decide, rfl⟩ ⟨Nat.le_of_ble_eq_true rfl, Nat.le_of_ble_eq_true rfl⟩ rfl rfl rfl rfl rfl rfl
theorem s132_103 : mm_wp d 132 103 [l0, l1, l2, l3, l4, l5, l6, l7, l8, l9, l10, l11, l12, l13, l14] (.int x :: st) h Q ↔ mm_wp d 132 105 [l0, l1, l2, l3, l4, l5, l6, l7, .int x, l9, l10, l11, l12, l13, l14] st h Q := wp_istore rfl rfl
theorem s132_105 : mm_wp d 132 105 [.ref a, l1, l2, l3, l4, l5, l6, l7, l8, l9, l10, l11, l12, l13, l14] st h Q ↔ mm_wp d 132 106 [.ref a, l1, l2, l3, l4, l5, l6, l7, l8, l9, l10, l11, l12, l13, l14] (.ref a :: st) h Q := wp_aloadR_n rfl rfl
theorem s132_106 : mm_wp d 132 106 [l0, l1, l2, l3, l4, l5, .int x, l7, l8, l9, l10, l11, l12, l13, l14] st h Q ↔ mm_wp d 132 108 [l0, l1, l2, l3, l4, l5, .int x, l7, l8, l9, l10, l11, l12, l13, l14] (.int x :: st) h Q := wp_iload rfl rfl
theorem s132_108 : mm_wp d 132 108 ls st h Q ↔ mm_wp d 132 109 ls (.int (1 : Int32) :: st) h Q := wp_iconst rfl rfl
theorem s132_109 : mm_wp d 132 109 [l0, l1, l2, .int x, l4, l5, l6, l7, l8, l9, l10, l11, l12, l13, l14] st h Q ↔ mm_wp d 132 110 [l0, l1, l2, .int x, l4, l5, l6, l7, l8, l9, l10, l11, l12, l13, l14] (.int x :: st) h Q := wp_iload_n rfl rfl
theorem s132_110 : mm_wp d 132 110 [.ref a, l1, l2, l3, l4, l5, l6, l7, l8, l9, l10, l11, l12, l13, l14] st h Q ↔ mm_wp d 132 111 [.ref a, l1, l2, l3, l4, l5, l6, l7, l8, l9, l10, l11, l12, l13, l14] (.ref a :: st) h Q := wp_aloadR_n rfl rfl
theorem s132_111 : mm_wp d 132 111 ls (.ref a :: st) h Q ↔ (mm_s h a).1 = 10 ∧ mm_wp d 132 114 ls (mm_o (mm_r h a 33) :: st) h Q := wp_getR rfl rfl
theorem s132_114 : mm_wp d 132 114 ls st h Q ↔ mm_wp d 132 115 ls (.int (1 : Int32) :: st) h Q := wp_iconst rfl rfl
theorem s132_115 : mm_wp d 132 115 ls (.int x :: .ref a :: st) h Q ↔ ((mm_s h a).1 = 20 ∧ mm_in x (mm_s h a).2 = true) ∧ mm_wp d 132 116 ls (.int (mm_i h a x.toNatClampNeg) :: st) h Q := wp_iaload rfl
theorem s132_116 : mm_wp (d + 1) 132 116 ls [.int x5, .int x4, .int x3, .int x2, .ref a] h Q ↔ (mm_s h a).1 = 10 ∧ mm_wp d 134 0 [.ref a, .int x2, .int x3, .int x4, .int x5, mm_j, mm_j, mm_j, mm_j] [] h (mm_bk (d + 1) 132 116 ls [] Q) := wp_virtual rfl rfl ⟨by decide, rfl⟩ ⟨Nat.le_of_ble_eq_true rfl, Nat.le_of_ble_eq_true rfl⟩ rfl rfl rfl rfl rfl rfl
theorem s132_119 : mm_wp d 132 119 [l0, l1, l2, l3, l4, l5, l6, l7, l8, l9, l10, l11, l12, l13, l14] (.int x :: st) h Q ↔ mm_wp d 132 121 [l0, l1, l2, l3, l4, l5, l6, l7, l8, .int x, l10, l11, l12, l13, l14] st h Q := wp_istore rfl rfl
theorem s132_121 : mm_wp d 132 121 [.ref a, l1, l2, l3, l4, l5, l6, l7, l8, l9, l10, l11, l12, l13, l14] st h Q ↔ mm_wp d 132 122 [.ref a, l1, l2, l3, l4, l5, l6, l7, l8, l9, l10, l11, l12, l13, l14] (.ref a :: st) h Q := wp_aloadR_n rfl rfl
theorem s132_122 : mm_wp d 132 122 [l0, l1, l2, l3, l4, l5, .int x, l7, l8, l9, l10, l11, l12, l13, l14] st h Q ↔ mm_wp d 132 124 [l0, l1, l2, l3, l4, l5, .int x, l7, l8, l9, l10, l11, l12, l13, l14] (.int x :: st) h Q := wp_iload rfl rfl
theorem s132_124 : mm_wp d 132 124 ls st h Q ↔ mm_wp d 132 125 ls (.int (2 : Int32) :: st) h Q := wp_iconst rfl rfl
theorem s132_125 : mm_wp d 132 125 [l0, l1, l2, l3, .int x, l5, l6, l7, l8, l9, l10, l11, l12, l13, l14] st h Q ↔ mm_wp d 132 127 [l0, l1, l2, l3, .int x, l5, l6, l7, l8, l9, l10, l11, l12, l13, l14] (.int x :: st) h Q := wp_iload rfl rfl
theorem s132_127 : mm_wp d 132 127 [.ref a, l1, l2, l3, l4, l5, l6, l7, l8, l9, l10, l11, l12, l13, l14] st h Q ↔ mm_wp d 132 128 [.ref a, l1, l2, l3, l4, l5, l6, l7, l8, l9, l10, l11, l12, l13, l14] (.ref a :: st) h Q := wp_aloadR_n rfl rfl
theorem s132_128 : mm_wp d 132 128 ls (.ref a :: st) h Q ↔ (mm_s h a).1 = 10 ∧ mm_wp d 132 131 ls (mm_o (mm_r h a 33) :: st) h Q := wp_getR rfl rfl
theorem s132_131 : mm_wp d 132 131 ls st h Q ↔ mm_wp d 132 132 ls (.int (2 : Int32) :: st) h Q := wp_iconst rfl rfl
theorem s132_132 : mm_wp d 132 132 ls (.int x :: .ref a :: st) h Q ↔ ((mm_s h a).1 = 20 ∧ mm_in x (mm_s h a).2 = true) ∧ mm_wp d 132 133 ls (.int (mm_i h a x.toNatClampNeg) :: st) h Q := wp_iaload rfl
theorem s132_133 : mm_wp (d + 1) 132 133 ls [.int x5, .int x4, .int x3, .int x2, .ref a] h Q ↔ (mm_s h a).1 = 10 ∧ mm_wp d 134 0 [.ref a, .int x2, .int x3, .int x4, .int x5, mm_j, mm_j, mm_j, mm_j] [] h (mm_bk (d + 1) 132 133 ls [] Q) := wp_virtual rfl rfl ⟨by decide, rfl⟩ ⟨Nat.le_of_ble_eq_true rfl, Nat.le_of_ble_eq_true rfl⟩ rfl rfl rfl rfl rfl rfl
theorem s132_136 : mm_wp d 132 136 [l0, l1, l2, l3, l4, l5, l6, l7, l8, l9, l10, l11, l12, l13, l14] (.int x :: st) h Q ↔ mm_wp d 132 138 [l0, l1, l2, l3, l4, l5, l6, l7, l8, l9, .int x, l11, l12, l13, l14] st h Q := wp_istore rfl rfl
theorem s132_138 : mm_wp d 132 138 [l0, l1, l2, l3, l4, l5, l6, l7, .int x, l9, l10, l11, l12, l13, l14] st h Q ↔ mm_wp d 132 140 [l0, l1, l2, l3, l4, l5, l6, l7, .int x, l9, l10, l11, l12, l13, l14] (.int x :: st) h Q := wp_iload rfl rfl
theorem s132_140 : mm_wp d 132 140 ls (.int x :: st) h Q ↔ if x ≤ 0 then mm_wp d 132 155 ls st h Q else mm_wp d 132 143 ls st h Q := wp_ifle rfl rfl
theorem s132_143 : mm_wp d 132 143 [l0, l1, l2, l3, l4, l5, l6, l7, l8, .int x, l10, l11, l12, l13, l14] st h Q ↔ mm_wp d 132 145 [l0, l1, l2, l3, l4, l5, l6, l7, l8, .int x, l10, l11, l12, l13, l14] (.int x :: st) h Q := wp_iload rfl rfl
theorem s132_145 : mm_wp d 132 145 ls (.int x :: st) h Q ↔ if x ≤ 0 then mm_wp d 132 155 ls st h Q else mm_wp d 132 148 ls st h Q := wp_ifle rfl rfl
theorem s132_148 : mm_wp d 132 148 [l0, l1, l2, l3, l4, l5, l6, l7, l8, l9, .int x, l11, l12, l13, l14] st h Q ↔ mm_wp d 132 150 [l0, l1, l2, l3, l4, l5, l6, l7, l8, l9, .int x, l11, l12, l13, l14] (.int x :: st) h Q := wp_iload rfl rfl
theorem s132_150 : mm_wp d 132 150 ls (.int x :: st) h Q ↔ if x ≤ 0 then mm_wp d 132 155 ls st h Q else mm_wp d 132 153 ls st h Q := wp_ifle rfl rfl
theorem s132_153 : mm_wp d 132 153 ls st h Q ↔ mm_wp d 132 154 ls (.int (0 : Int32) :: st) h Q := wp_iconst rfl rfl
theorem s132_154 : mm_wp d 132 154 ls (.int x :: st) h Q ↔ (x = 0 ∨ x = 1) ∧ Q (.inl (some (.int x))) h := wp_zret rfl rfl
theorem s132_155 : mm_wp d 132 155 [.ref a, l1, l2, l3, l4, l5, l6, l7, l8, l9, l10, l11, l12, l13, l14] st h Q ↔ mm_wp d 132 156 [.ref a, l1, l2, l3, l4, l5, l6, l7, l8, l9, l10, l11, l12, l13, l14] (.ref a :: st) h Q := wp_aloadR_n rfl rfl
theorem s132_156 : mm_wp d 132 156 ls (.ref a :: st) h Q ↔ (mm_s h a).1 = 10 ∧ mm_wp d 132 159 ls (mm_o (mm_r h a 12) :: st) h Q := wp_getR rfl rfl
theorem s132_159 : mm_wp d 132 159 ls st h Q ↔ mm_wp d 132 160 ls (.int (3 : Int32) :: st) h Q := wp_iconst rfl rfl
theorem s132_160 : mm_wp d 132 160 [l0, l1, l2, l3, l4, l5, .int x, l7, l8, l9, l10, l11, l12, l13, l14] st h Q ↔ mm_wp d 132 162 [l0, l1, l2, l3, l4, l5, .int x, l7, l8, l9, l10, l11, l12, l13, l14] (.int x :: st) h Q := wp_iload rfl rfl
theorem s132_162 : mm_wp d 132 162 ls (.int x2 :: .int x :: st) h Q ↔ mm_wp d 132 163 ls (.int (x * x2) :: st) h Q := wp_imul rfl
theorem s132_163 : mm_wp d 132 163 ls st h Q ↔ mm_wp d 132 164 ls (.int (1 : Int32) :: st) h Q := wp_iconst rfl rfl
theorem s132_164 : mm_wp d 132 164 ls (.int x2 :: .int x :: st) h Q ↔ mm_wp d 132 165 ls (.int (x + x2) :: st) h Q := wp_iadd rfl
theorem s132_165 : mm_wp d 132 165 ls (.int x :: .ref a :: st) h Q ↔ ((mm_s h a).1 = 20 ∧ mm_in x (mm_s h a).2 = true) ∧ mm_wp d 132 166 ls (.int (mm_i h a x.toNatClampNeg) :: st) h Q := wp_iaload rfl
theorem s132_166 : mm_wp d 132 166 [.ref a, l1, l2, l3, l4, l5, l6, l7, l8, l9, l10, l11, l12, l13, l14] st h Q ↔ mm_wp d 132 167 [.ref a, l1, l2, l3, l4, l5, l6, l7, l8, l9, l10, l11, l12, l13, l14] (.ref a :: st) h Q := wp_aloadR_n rfl rfl
theorem s132_167 : mm_wp d 132 167 ls (.ref a :: st) h Q ↔ (mm_s h a).1 = 10 ∧ mm_wp d 132 170 ls (mm_o (mm_r h a 11) :: st) h Q := wp_getR rfl rfl
theorem s132_170 : mm_wp d 132 170 ls st h Q ↔ mm_wp d 132 171 ls (.int (3 : Int32) :: st) h Q := wp_iconst rfl rfl
theorem s132_171 : mm_wp d 132 171 [l0, l1, l2, l3, l4, l5, .int x, l7, l8, l9, l10, l11, l12, l13, l14] st h Q ↔ mm_wp d 132 173 [l0, l1, l2, l3, l4, l5, .int x, l7, l8, l9, l10, l11, l12, l13, l14] (.int x :: st) h Q := wp_iload rfl rfl
theorem s132_173 : mm_wp d 132 173 ls (.int x2 :: .int x :: st) h Q ↔ mm_wp d 132 174 ls (.int (x * x2) :: st) h Q := wp_imul rfl
theorem s132_174 : mm_wp d 132 174 ls st h Q ↔ mm_wp d 132 175 ls (.int (1 : Int32) :: st) h Q := wp_iconst rfl rfl
theorem s132_175 : mm_wp d 132 175 ls (.int x2 :: .int x :: st) h Q ↔ mm_wp d 132 176 ls (.int (x + x2) :: st) h Q := wp_iadd rfl
theorem s132_176 : mm_wp d 132 176 ls (.int x :: .ref a :: st) h Q ↔ ((mm_s h a).1 = 20 ∧ mm_in x (mm_s h a).2 = true) ∧ mm_wp d 132 177 ls (.int (mm_i h a x.toNatClampNeg) :: st) h Q := wp_iaload rfl
theorem s132_177 : mm_wp d 132 177 ls (.int x2 :: .int x :: st) h Q ↔ mm_wp d 132 178 ls (.int (x + x2) :: st) h Q := wp_iadd rfl
theorem s132_178 : mm_wp d 132 178 [l0, l1, l2, l3, l4, l5, l6, l7, l8, l9, l10, l11, l12, l13, l14] (.int x :: st) h Q ↔ mm_wp d 132 180 [l0, l1, l2, l3, l4, l5, l6, l7, l8, l9, l10, .int x, l12, l13, l14] st h Q := wp_istore rfl rfl
theorem s132_180 : mm_wp d 132 180 [l0, l1, l2, l3, l4, .int x, l6, l7, l8, l9, l10, l11, l12, l13, l14] st h Q ↔ mm_wp d 132 182 [l0, l1, l2, l3, l4, .int x, l6, l7, l8, l9, l10, l11, l12, l13, l14] (.int x :: st) h Q := wp_iload rfl rfl
theorem s132_182 : mm_wp d 132 182 [l0, l1, l2, l3, l4, l5, l6, l7, l8, l9, l10, .int x, l12, l13, l14] st h Q ↔ mm_wp d 132 184 [l0, l1, l2, l3, l4, l5, l6, l7, l8, l9, l10, .int x, l12, l13, l14] (.int x :: st) h Q := wp_iload rfl rfl
theorem s132_184 : mm_wp d 132 184 [l0, l1, l2, .int x, l4, l5, l6, l7, l8, l9, l10, l11, l12, l13, l14] st h Q ↔ mm_wp d 132 185 [l0, l1, l2, .int x, l4, l5, l6, l7, l8, l9, l10, l11, l12, l13, l14] (.int x :: st) h Q := wp_iload_n rfl rfl
theorem s132_185 : mm_wp d 132 185 ls (.int x2 :: .int x :: st) h Q ↔ if x = x2 then mm_wp d 132 188 ls st h Q else mm_wp d 132 196 ls st h Q := wp_icmpne rfl rfl
theorem s132_188 : mm_wp d 132 188 [l0, l1, l2, l3, l4, l5, l6, l7, .int x, l9, l10, l11, l12, l13, l14] st h Q ↔ mm_wp d 132 190 [l0, l1, l2, l3, l4, l5, l6, l7, .int x, l9, l10, l11, l12, l13, l14] (.int x :: st) h Q := wp_iload rfl rfl
theorem s132_190 : mm_wp d 132 190 [l0, l1, l2, l3, l4, l5, l6, l7, l8, l9, .int x, l11, l12, l13, l14] st h Q ↔ mm_wp d 132 192 [l0, l1, l2, l3, l4, l5, l6, l7, l8, l9, .int x, l11, l12, l13, l14] (.int x :: st) h Q := wp_iload rfl rfl
theorem s132_192 : mm_wp d 132 192 ls (.int x2 :: .int x :: st) h Q ↔ mm_wp d 132 193 ls (.int (x * x2) :: st) h Q := wp_imul rfl
theorem s132_193 : mm_wp d 132 193 ls st h Q ↔ mm_wp d 132 197 ls st h Q := wp_goto rfl rfl
theorem s132_196 : mm_wp d 132 196 ls st h Q ↔ mm_wp d 132 197 ls (.int (0 : Int32) :: st) h Q := wp_iconst rfl rfl
theorem s132_197 : mm_wp d 132 197 ls (.int x2 :: .int x :: st) h Q ↔ mm_wp d 132 198 ls (.int (x + x2) :: st) h Q := wp_iadd rfl
theorem s132_198 : mm_wp d 132 198 [l0, l1, l2, l3, l4, l5, l6, l7, l8, l9, l10, l11, l12, l13, l14] (.int x :: st) h Q ↔ mm_wp d 132 200 [l0, l1, l2, l3, l4, .int x, l6, l7, l8, l9, l10, l11, l12, l13, l14] st h Q := wp_istore rfl rfl
theorem s132_200 : mm_wp d 132 200 [l0, l1, l2, .int x, l4, l5, l6, l7, l8, l9, l10, l11, l12, l13, l14] st h Q ↔ mm_wp d 132 201 [l0, l1, l2, .int x, l4, l5, l6, l7, l8, l9, l10, l11, l12, l13, l14] (.int x :: st) h Q := wp_iload_n rfl rfl
theorem s132_201 : mm_wp d 132 201 [l0, l1, l2, l3, l4, l5, l6, l7, l8, l9, l10, .int x, l12, l13, l14] st h Q ↔ mm_wp d 132 203 [l0, l1, l2, l3, l4, l5, l6, l7, l8, l9, l10, .int x, l12, l13, l14] (.int x :: st) h Q := wp_iload rfl rfl
theorem s132_203 : mm_wp d 132 203 ls (.int x2 :: .int x :: st) h Q ↔ if x < x2 then mm_wp d 132 242 ls st h Q else mm_wp d 132 206 ls st h Q := wp_icmplt rfl rfl
theorem s132_206 : mm_wp d 132 206 [l0, l1, l2, l3, l4, l5, l6, l7, .int x, l9, l10, l11, l12, l13, l14] st h Q ↔ mm_wp d 132 208 [l0, l1, l2, l3, l4, l5, l6, l7, .int x, l9, l10, l11, l12, l13, l14] (.int x :: st) h Q := wp_iload rfl rfl
theorem s132_208 : mm_wp d 132 208 ls (.int x :: st) h Q ↔ if x ≤ 0 then mm_wp d 132 242 ls st h Q else mm_wp d 132 211 ls st h Q := wp_ifle rfl rfl
theorem s132_211 : mm_wp d 132 211 [l0, l1, l2, l3, l4, l5, l6, l7, l8, l9, .int x, l11, l12, l13, l14] st h Q ↔ mm_wp d 132 213 [l0, l1, l2, l3, l4, l5, l6, l7, l8, l9, .int x, l11, l12, l13, l14] (.int x :: st) h Q := wp_iload rfl rfl
theorem s132_213 : mm_wp d 132 213 ls (.int x :: st) h Q ↔ if x ≤ 0 then mm_wp d 132 242 ls st h Q else mm_wp d 132 216 ls st h Q := wp_ifle rfl rfl
theorem s132_216 : mm_wp d 132 216 [.ref a, l1, l2, l3, l4, l5, l6, l7, l8, l9, l10, l11, l12, l13, l14] st h Q ↔ mm_wp d 132 217 [.ref a, l1, l2, l3, l4, l5, l6, l7, l8, l9, l10, l11, l12, l13, l14] (.ref a :: st) h Q := wp_aloadR_n rfl rfl
theorem s132_217 : mm_wp d 132 217 ls (.ref a :: st) h Q ↔ (mm_s h a).1 = 10 ∧ mm_wp d 132 220 ls (mm_o (mm_r h a 13) :: st) h Q := wp_getR rfl rfl
theorem s132_220 : mm_wp d 132 220 [l0, l1, l2, l3, l4, l5, .int x, l7, l8, l9, l10, l11, l12, l13, l14] st h Q ↔ mm_wp d 132 222 [l0, l1, l2, l3, l4, l5, .int x, l7, l8, l9, l10, l11, l12, l13, l14] (.int x :: st) h Q := wp_iload rfl rfl
theorem s132_222 : mm_wp d 132 222 ls (.int x :: .ref a :: st) h Q ↔ ((mm_s h a).1 = 20 ∧ mm_in x (mm_s h a).2 = true) ∧ mm_wp d 132 223 ls (.int (mm_i h a x.toNatClampNeg) :: st) h Q := wp_iaload rfl
theorem s132_223 : mm_wp d 132 223 [.ref a, l1, l2, l3, l4, l5, l6, l7, l8, l9, l10, l11, l12, l13, l14] st h Q ↔ mm_wp d 132 224 [.ref a, l1, l2, l3, l4, l5, l6, l7, l8, l9, l10, l11, l12, l13, l14] (.ref a :: st) h Q := wp_aloadR_n rfl rfl
theorem s132_224 : mm_wp d 132 224 ls (.ref a :: st) h Q ↔ (mm_s h a).1 = 10 ∧ mm_wp d 132 227 ls (mm_o (mm_r h a 4) :: st) h Q := wp_getR rfl rfl
theorem s132_227 : mm_wp d 132 227 [l0, .int x, l2, l3, l4, l5, l6, l7, l8, l9, l10, l11, l12, l13, l14] st h Q ↔ mm_wp d 132 228 [l0, .int x, l2, l3, l4, l5, l6, l7, l8, l9, l10, l11, l12, l13, l14] (.int x :: st) h Q := wp_iload_n rfl rfl
theorem s132_228 : mm_wp d 132 228 ls (.int x :: .ref a :: st) h Q ↔ ((mm_s h a).1 = 20 ∧ mm_in x (mm_s h a).2 = true) ∧ mm_wp d 132 229 ls (.int (mm_i h a x.toNatClampNeg) :: st) h Q := wp_iaload rfl
theorem s132_229 : mm_wp d 132 229 ls (.int x2 :: .int x :: st) h Q ↔ mm_wp d 132 230 ls (.int (x + x2) :: st) h Q := wp_iadd rfl
theorem s132_230 : mm_wp d 132 230 [.ref a, l1, l2, l3, l4, l5, l6, l7, l8, l9, l10, l11, l12, l13, l14] st h Q ↔ mm_wp d 132 231 [.ref a, l1, l2, l3, l4, l5, l6, l7, l8, l9, l10, l11, l12, l13, l14] (.ref a :: st) h Q := wp_aloadR_n rfl rfl
theorem s132_231 : mm_wp d 132 231 ls (.ref a :: st) h Q ↔ (mm_s h a).1 = 10 ∧ mm_wp d 132 234 ls (mm_o (mm_r h a 7) :: st) h Q := wp_getR rfl rfl
theorem s132_234 : mm_wp d 132 234 [l0, l1, l2, l3, l4, l5, l6, .int x, l8, l9, l10, l11, l12, l13, l14] st h Q ↔ mm_wp d 132 236 [l0, l1, l2, l3, l4, l5, l6, .int x, l8, l9, l10, l11, l12, l13, l14] (.int x :: st) h Q := wp_iload rfl rfl
theorem s132_236 : mm_wp d 132 236 ls (.int x :: .ref a :: st) h Q ↔ ((mm_s h a).1 = 20 ∧ mm_in x (mm_s h a).2 = true) ∧ mm_wp d 132 237 ls (.int (mm_i h a x.toNatClampNeg) :: st) h Q := wp_iaload rfl
theorem s132_237 : mm_wp d 132 237 ls (.int x2 :: .int x :: st) h Q ↔ if x ≤ x2 then mm_wp d 132 242 ls st h Q else mm_wp d 132 240 ls st h Q := wp_icmple rfl rfl
theorem s132_240 : mm_wp d 132 240 ls st h Q ↔ mm_wp d 132 241 ls (.int (0 : Int32) :: st) h Q := wp_iconst rfl rfl
theorem s132_241 : mm_wp d 132 241 ls (.int x :: st) h Q ↔ (x = 0 ∨ x = 1) ∧ Q (.inl (some (.int x))) h := wp_zret rfl rfl
theorem s132_242 : mm_wp d 132 242 [l0, l1, l2, l3, l4, l5, l6, l7, .int x, l9, l10, l11, l12, l13, l14] st h Q ↔ mm_wp d 132 244 [l0, l1, l2, l3, l4, l5, l6, l7, .int x, l9, l10, l11, l12, l13, l14] (.int x :: st) h Q := wp_iload rfl rfl
theorem s132_244 : mm_wp d 132 244 ls (.int x :: st) h Q ↔ if x ≤ 0 then mm_wp d 132 256 ls st h Q else mm_wp d 132 247 ls st h Q := wp_ifle rfl rfl
theorem s132_247 : mm_wp d 132 247 [l0, l1, l2, l3, l4, l5, l6, l7, l8, .int x, l10, l11, l12, l13, l14] st h Q ↔ mm_wp d 132 249 [l0, l1, l2, l3, l4, l5, l6, l7, l8, .int x, l10, l11, l12, l13, l14] (.int x :: st) h Q := wp_iload rfl rfl
theorem s132_249 : mm_wp d 132 249 ls (.int x :: st) h Q ↔ if x ≤ 0 then mm_wp d 132 256 ls st h Q else mm_wp d 132 252 ls st h Q := wp_ifle rfl rfl
theorem s132_252 : mm_wp d 132 252 ls st h Q ↔ mm_wp d 132 253 ls (.int (1 : Int32) :: st) h Q := wp_iconst rfl rfl
theorem s132_253 : mm_wp d 132 253 ls st h Q ↔ mm_wp d 132 257 ls st h Q := wp_goto rfl rfl
theorem s132_256 : mm_wp d 132 256 ls st h Q ↔ mm_wp d 132 257 ls (.int (0 : Int32) :: st) h Q := wp_iconst rfl rfl
theorem s132_257 : mm_wp d 132 257 [l0, l1, l2, l3, l4, l5, l6, l7, l8, l9, l10, l11, l12, l13, l14] (.int x :: st) h Q ↔ mm_wp d 132 259 [l0, l1, l2, l3, l4, l5, l6, l7, l8, l9, l10, l11, .int x, l13, l14] st h Q := wp_istore rfl rfl
theorem s132_259 : mm_wp d 132 259 [l0, l1, l2, l3, .int x, l5, l6, l7, l8, l9, l10, l11, l12, l13, l14] st h Q ↔ mm_wp d 132 261 [l0, l1, l2, l3, .int x, l5, l6, l7, l8, l9, l10, l11, l12, l13, l14] (.int x :: st) h Q := wp_iload rfl rfl
theorem s132_261 : mm_wp d 132 261 [.ref a, l1, l2, l3, l4, l5, l6, l7, l8, l9, l10, l11, l12, l13, l14] st h Q ↔ mm_wp d 132 262 [.ref a, l1, l2, l3, l4, l5, l6, l7, l8, l9, l10, l11, l12, l13, l14] (.ref a :: st) h Q := wp_aloadR_n rfl rfl
theorem s132_262 : mm_wp d 132 262 ls (.ref a :: st) h Q ↔ (mm_s h a).1 = 10 ∧ mm_wp d 132 265 ls (mm_o (mm_r h a 12) :: st) h Q := wp_getR rfl rfl
theorem s132_265 : mm_wp d 132 265 ls st h Q ↔ mm_wp d 132 266 ls (.int (3 : Int32) :: st) h Q := wp_iconst rfl rfl
theorem s132_266 : mm_wp d 132 266 [l0, l1, l2, l3, l4, l5, .int x, l7, l8, l9, l10, l11, l12, l13, l14] st h Q ↔ mm_wp d 132 268 [l0, l1, l2, l3, l4, l5, .int x, l7, l8, l9, l10, l11, l12, l13, l14] (.int x :: st) h Q := wp_iload rfl rfl
theorem s132_268 : mm_wp d 132 268 ls (.int x2 :: .int x :: st) h Q ↔ mm_wp d 132 269 ls (.int (x * x2) :: st) h Q := wp_imul rfl
theorem s132_269 : mm_wp d 132 269 ls st h Q ↔ mm_wp d 132 270 ls (.int (2 : Int32) :: st) h Q := wp_iconst rfl rfl
theorem s132_270 : mm_wp d 132 270 ls (.int x2 :: .int x :: st) h Q ↔ mm_wp d 132 271 ls (.int (x + x2) :: st) h Q := wp_iadd rfl
theorem s132_271 : mm_wp d 132 271 ls (.int x :: .ref a :: st) h Q ↔ ((mm_s h a).1 = 20 ∧ mm_in x (mm_s h a).2 = true) ∧ mm_wp d 132 272 ls (.int (mm_i h a x.toNatClampNeg) :: st) h Q := wp_iaload rfl
theorem s132_272 : mm_wp d 132 272 [.ref a, l1, l2, l3, l4, l5, l6, l7, l8, l9, l10, l11, l12, l13, l14] st h Q ↔ mm_wp d 132 273 [.ref a, l1, l2, l3, l4, l5, l6, l7, l8, l9, l10, l11, l12, l13, l14] (.ref a :: st) h Q := wp_aloadR_n rfl rfl
theorem s132_273 : mm_wp d 132 273 ls (.ref a :: st) h Q ↔ (mm_s h a).1 = 10 ∧ mm_wp d 132 276 ls (mm_o (mm_r h a 11) :: st) h Q := wp_getR rfl rfl
theorem s132_276 : mm_wp d 132 276 ls st h Q ↔ mm_wp d 132 277 ls (.int (3 : Int32) :: st) h Q := wp_iconst rfl rfl
theorem s132_277 : mm_wp d 132 277 [l0, l1, l2, l3, l4, l5, .int x, l7, l8, l9, l10, l11, l12, l13, l14] st h Q ↔ mm_wp d 132 279 [l0, l1, l2, l3, l4, l5, .int x, l7, l8, l9, l10, l11, l12, l13, l14] (.int x :: st) h Q := wp_iload rfl rfl
theorem s132_279 : mm_wp d 132 279 ls (.int x2 :: .int x :: st) h Q ↔ mm_wp d 132 280 ls (.int (x * x2) :: st) h Q := wp_imul rfl
theorem s132_280 : mm_wp d 132 280 ls st h Q ↔ mm_wp d 132 281 ls (.int (2 : Int32) :: st) h Q := wp_iconst rfl rfl
theorem s132_281 : mm_wp d 132 281 ls (.int x2 :: .int x :: st) h Q ↔ mm_wp d 132 282 ls (.int (x + x2) :: st) h Q := wp_iadd rfl
theorem s132_282 : mm_wp d 132 282 ls (.int x :: .ref a :: st) h Q ↔ ((mm_s h a).1 = 20 ∧ mm_in x (mm_s h a).2 = true) ∧ mm_wp d 132 283 ls (.int (mm_i h a x.toNatClampNeg) :: st) h Q := wp_iaload rfl
theorem s132_283 : mm_wp d 132 283 ls (.int x2 :: .int x :: st) h Q ↔ mm_wp d 132 284 ls (.int (x + x2) :: st) h Q := wp_iadd rfl
theorem s132_284 : mm_wp d 132 284 ls (.int x2 :: .int x :: st) h Q ↔ if x < x2 then mm_wp d 132 291 ls st h Q else mm_wp d 132 287 ls st h Q := wp_icmplt rfl rfl
theorem s132_287 : mm_wp d 132 287 ls st h Q ↔ mm_wp d 132 288 ls (.int (1 : Int32) :: st) h Q := wp_iconst rfl rfl
theorem s132_288 : mm_wp d 132 288 ls st h Q ↔ mm_wp d 132 292 ls st h Q := wp_goto rfl rfl
theorem s132_291 : mm_wp d 132 291 ls st h Q ↔ mm_wp d 132 292 ls (.int (0 : Int32) :: st) h Q := wp_iconst rfl rfl
theorem s132_292 : mm_wp d 132 292 [l0, l1, l2, l3, l4, l5, l6, l7, l8, l9, l10, l11, l12, l13, l14] (.int x :: st) h Q ↔ mm_wp d 132 294 [l0, l1, l2, l3, l4, l5, l6, l7, l8, l9, l10, l11, l12, .int x, l14] st h Q := wp_istore rfl rfl
theorem s132_294 : mm_wp d 132 294 [.ref a, l1, l2, l3, l4, l5, l6, l7, l8, l9, l10, l11, l12, l13, l14] st h Q ↔ mm_wp d 132 295 [.ref a, l1, l2, l3, l4, l5, l6, l7, l8, l9, l10, l11, l12, l13, l14] (.ref a :: st) h Q := wp_aloadR_n rfl rfl
theorem s132_295 : mm_wp d 132 295 ls (.ref a :: st) h Q ↔ (mm_s h a).1 = 10 ∧ mm_wp d 132 298 ls (mm_o (mm_r h a 12) :: st) h Q := wp_getR rfl rfl
theorem s132_298 : mm_wp d 132 298 ls st h Q ↔ mm_wp d 132 299 ls (.int (3 : Int32) :: st) h Q := wp_iconst rfl rfl
theorem s132_299 : mm_wp d 132 299 [l0, l1, l2, l3, l4, l5, .int x, l7, l8, l9, l10, l11, l12, l13, l14] st h Q ↔ mm_wp d 132 301 [l0, l1, l2, l3, l4, l5, .int x, l7, l8, l9, l10, l11, l12, l13, l14] (.int x :: st) h Q := wp_iload rfl rfl
theorem s132_301 : mm_wp d 132 301 ls (.int x2 :: .int x :: st) h Q ↔ mm_wp d 132 302 ls (.int (x * x2) :: st) h Q := wp_imul rfl
theorem s132_302 : mm_wp d 132 302 ls st h Q ↔ mm_wp d 132 303 ls (.int (2 : Int32) :: st) h Q := wp_iconst rfl rfl
theorem s132_303 : mm_wp d 132 303 ls (.int x2 :: .int x :: st) h Q ↔ mm_wp d 132 304 ls (.int (x + x2) :: st) h Q := wp_iadd rfl
theorem s132_304 : mm_wp d 132 304 ls (.int x :: .ref a :: st) h Q ↔ ((mm_s h a).1 = 20 ∧ mm_in x (mm_s h a).2 = true) ∧ mm_wp d 132 305 ls (.int (mm_i h a x.toNatClampNeg) :: st) h Q := wp_iaload rfl
theorem s132_305 : mm_wp d 132 305 [l0, l1, l2, l3, .int x, l5, l6, l7, l8, l9, l10, l11, l12, l13, l14] st h Q ↔ mm_wp d 132 307 [l0, l1, l2, l3, .int x, l5, l6, l7, l8, l9, l10, l11, l12, l13, l14] (.int x :: st) h Q := wp_iload rfl rfl
theorem s132_307 : mm_wp d 132 307 [.ref a, l1, l2, l3, l4, l5, l6, l7, l8, l9, l10, l11, l12, l13, l14] st h Q ↔ mm_wp d 132 308 [.ref a, l1, l2, l3, l4, l5, l6, l7, l8, l9, l10, l11, l12, l13, l14] (.ref a :: st) h Q := wp_aloadR_n rfl rfl
theorem s132_308 : mm_wp d 132 308 ls (.ref a :: st) h Q ↔ (mm_s h a).1 = 10 ∧ mm_wp d 132 311 ls (mm_o (mm_r h a 33) :: st) h Q := wp_getR rfl rfl
theorem s132_311 : mm_wp d 132 311 ls st h Q ↔ mm_wp d 132 312 ls (.int (2 : Int32) :: st) h Q := wp_iconst rfl rfl
theorem s132_312 : mm_wp d 132 312 ls (.int x :: .ref a :: st) h Q ↔ ((mm_s h a).1 = 20 ∧ mm_in x (mm_s h a).2 = true) ∧ mm_wp d 132 313 ls (.int (mm_i h a x.toNatClampNeg) :: st) h Q := wp_iaload rfl
theorem s132_313 : mm_wp d 132 313 ls (.int x2 :: .int x :: st) h Q ↔ mm_wp d 132 314 ls (.int (x + x2) :: st) h Q := wp_iadd rfl
theorem s132_314 : mm_wp d 132 314 ls (.int x2 :: .int x :: st) h Q ↔ if x < x2 then mm_wp d 132 321 ls st h Q else mm_wp d 132 317 ls st h Q := wp_icmplt rfl rfl
theorem s132_317 : mm_wp d 132 317 ls st h Q ↔ mm_wp d 132 318 ls (.int (1 : Int32) :: st) h Q := wp_iconst rfl rfl
theorem s132_318 : mm_wp d 132 318 ls st h Q ↔ mm_wp d 132 322 ls st h Q := wp_goto rfl rfl
theorem s132_321 : mm_wp d 132 321 ls st h Q ↔ mm_wp d 132 322 ls (.int (0 : Int32) :: st) h Q := wp_iconst rfl rfl
theorem s132_322 : mm_wp d 132 322 [l0, l1, l2, l3, l4, l5, l6, l7, l8, l9, l10, l11, l12, l13, l14] (.int x :: st) h Q ↔ mm_wp d 132 324 [l0, l1, l2, l3, l4, l5, l6, l7, l8, l9, l10, l11, l12, l13, .int x] st h Q := wp_istore rfl rfl
theorem s132_324 : mm_wp d 132 324 [l0, l1, l2, l3, l4, l5, l6, l7, l8, l9, l10, l11, .int x, l13, l14] st h Q ↔ mm_wp d 132 326 [l0, l1, l2, l3, l4, l5, l6, l7, l8, l9, l10, l11, .int x, l13, l14] (.int x :: st) h Q := wp_iload rfl rfl
theorem s132_326 : mm_wp d 132 326 ls (.int x :: st) h Q ↔ if x = 0 then mm_wp d 132 373 ls st h Q else mm_wp d 132 329 ls st h Q := wp_ifeq rfl rfl
theorem s132_329 : mm_wp d 132 329 [l0, l1, l2, l3, l4, l5, l6, l7, l8, l9, l10, l11, l12, .int x, l14] st h Q ↔ mm_wp d 132 331 [l0, l1, l2, l3, l4, l5, l6, l7, l8, l9, l10, l11, l12, .int x, l14] (.int x :: st) h Q := wp_iload rfl rfl
theorem s132_331 : mm_wp d 132 331 ls (.int x :: st) h Q ↔ if x = 0 then mm_wp d 132 350 ls st h Q else mm_wp d 132 334 ls st h Q := wp_ifeq rfl rfl
theorem s132_334 : mm_wp d 132 334 [.ref a, l1, l2, l3, l4, l5, l6, l7, l8, l9, l10, l11, l12, l13, l14] st h Q ↔ mm_wp d 132 335 [.ref a, l1, l2, l3, l4, l5, l6, l7, l8, l9, l10, l11, l12, l13, l14] (.ref a :: st) h Q := wp_aloadR_n rfl rfl
theorem s132_335 : mm_wp d 132 335 ls (.ref a :: st) h Q ↔ (mm_s h a).1 = 10 ∧ mm_wp d 132 338 ls (mm_o (mm_r h a 6) :: st) h Q := wp_getR rfl rfl
theorem s132_338 : mm_wp d 132 338 [l0, .int x, l2, l3, l4, l5, l6, l7, l8, l9, l10, l11, l12, l13, l14] st h Q ↔ mm_wp d 132 339 [l0, .int x, l2, l3, l4, l5, l6, l7, l8, l9, l10, l11, l12, l13, l14] (.int x :: st) h Q := wp_iload_n rfl rfl
theorem s132_339 : mm_wp d 132 339 ls (.int x :: .ref a :: st) h Q ↔ ((mm_s h a).1 = 20 ∧ mm_in x (mm_s h a).2 = true) ∧ mm_wp d 132 340 ls (.int (mm_i h a x.toNatClampNeg) :: st) h Q := wp_iaload rfl
theorem s132_340 : mm_wp d 132 340 [.ref a, l1, l2, l3, l4, l5, l6, l7, l8, l9, l10, l11, l12, l13, l14] st h Q ↔ mm_wp d 132 341 [.ref a, l1, l2, l3, l4, l5, l6, l7, l8, l9, l10, l11, l12, l13, l14] (.ref a :: st) h Q := wp_aloadR_n rfl rfl
theorem s132_341 : mm_wp d 132 341 ls (.ref a :: st) h Q ↔ (mm_s h a).1 = 10 ∧ mm_wp d 132 344 ls (mm_o (mm_r h a 6) :: st) h Q := wp_getR rfl rfl
theorem s132_344 : mm_wp d 132 344 [l0, l1, l2, l3, l4, l5, l6, .int x, l8, l9, l10, l11, l12, l13, l14] st h Q ↔ mm_wp d 132 346 [l0, l1, l2, l3, l4, l5, l6, .int x, l8, l9, l10, l11, l12, l13, l14] (.int x :: st) h Q := wp_iload rfl rfl
theorem s132_346 : mm_wp d 132 346 ls (.int x :: .ref a :: st) h Q ↔ ((mm_s h a).1 = 20 ∧ mm_in x (mm_s h a).2 = true) ∧ mm_wp d 132 347 ls (.int (mm_i h a x.toNatClampNeg) :: st) h Q := wp_iaload rfl
theorem s132_347 : mm_wp d 132 347 ls (.int x2 :: .int x :: st) h Q ↔ if x2 < x then mm_wp d 132 371 ls st h Q else mm_wp d 132 350 ls st h Q := wp_icmpgt rfl rfl
theorem s132_350 : mm_wp d 132 350 [l0, l1, l2, l3, l4, l5, l6, l7, l8, l9, l10, l11, l12, l13, .int x] st h Q ↔ mm_wp d 132 352 [l0, l1, l2, l3, l4, l5, l6, l7, l8, l9, l10, l11, l12, l13, .int x] (.int x :: st) h Q := wp_iload rfl rfl
theorem s132_352 : mm_wp d 132 352 ls (.int x :: st) h Q ↔ if x = 0 then mm_wp d 132 373 ls st h Q else mm_wp d 132 355 ls st h Q := wp_ifeq rfl rfl
theorem s132_355 : mm_wp d 132 355 [.ref a, l1, l2, l3, l4, l5, l6, l7, l8, l9, l10, l11, l12, l13, l14] st h Q ↔ mm_wp d 132 356 [.ref a, l1, l2, l3, l4, l5, l6, l7, l8, l9, l10, l11, l12, l13, l14] (.ref a :: st) h Q := wp_aloadR_n rfl rfl
theorem s132_356 : mm_wp d 132 356 ls (.ref a :: st) h Q ↔ (mm_s h a).1 = 10 ∧ mm_wp d 132 359 ls (mm_o (mm_r h a 6) :: st) h Q := wp_getR rfl rfl
theorem s132_359 : mm_wp d 132 359 [l0, l1, l2, l3, l4, l5, l6, .int x, l8, l9, l10, l11, l12, l13, l14] st h Q ↔ mm_wp d 132 361 [l0, l1, l2, l3, l4, l5, l6, .int x, l8, l9, l10, l11, l12, l13, l14] (.int x :: st) h Q := wp_iload rfl rfl
theorem s132_361 : mm_wp d 132 361 ls (.int x :: .ref a :: st) h Q ↔ ((mm_s h a).1 = 20 ∧ mm_in x (mm_s h a).2 = true) ∧ mm_wp d 132 362 ls (.int (mm_i h a x.toNatClampNeg) :: st) h Q := wp_iaload rfl
theorem s132_362 : mm_wp d 132 362 [.ref a, l1, l2, l3, l4, l5, l6, l7, l8, l9, l10, l11, l12, l13, l14] st h Q ↔ mm_wp d 132 363 [.ref a, l1, l2, l3, l4, l5, l6, l7, l8, l9, l10, l11, l12, l13, l14] (.ref a :: st) h Q := wp_aloadR_n rfl rfl
theorem s132_363 : mm_wp d 132 363 ls (.ref a :: st) h Q ↔ (mm_s h a).1 = 10 ∧ mm_wp d 132 366 ls (mm_o (mm_r h a 6) :: st) h Q := wp_getR rfl rfl
theorem s132_366 : mm_wp d 132 366 [l0, .int x, l2, l3, l4, l5, l6, l7, l8, l9, l10, l11, l12, l13, l14] st h Q ↔ mm_wp d 132 367 [l0, .int x, l2, l3, l4, l5, l6, l7, l8, l9, l10, l11, l12, l13, l14] (.int x :: st) h Q := wp_iload_n rfl rfl
theorem s132_367 : mm_wp d 132 367 ls (.int x :: .ref a :: st) h Q ↔ ((mm_s h a).1 = 20 ∧ mm_in x (mm_s h a).2 = true) ∧ mm_wp d 132 368 ls (.int (mm_i h a x.toNatClampNeg) :: st) h Q := wp_iaload rfl
theorem s132_368 : mm_wp d 132 368 ls (.int x2 :: .int x :: st) h Q ↔ if x ≤ x2 then mm_wp d 132 373 ls st h Q else mm_wp d 132 371 ls st h Q := wp_icmple rfl rfl
theorem s132_371 : mm_wp d 132 371 ls st h Q ↔ mm_wp d 132 372 ls (.int (0 : Int32) :: st) h Q := wp_iconst rfl rfl
theorem s132_372 : mm_wp d 132 372 ls (.int x :: st) h Q ↔ (x = 0 ∨ x = 1) ∧ Q (.inl (some (.int x))) h := wp_zret rfl rfl
theorem s132_373 : mm_wp d 132 373 [l0, l1, l2, l3, l4, l5, .int x, l7, l8, l9, l10, l11, l12, l13, l14] st h Q ↔ mm_wp d 132 376 [l0, l1, l2, l3, l4, l5, .int (x + (1 : Int32)), l7, l8, l9, l10, l11, l12, l13, l14] st h Q := wp_iinc rfl rfl rfl rfl
theorem s132_376 : mm_wp d 132 376 ls st h Q ↔ mm_wp d 132 71 ls st h Q := wp_goto rfl rfl
theorem s132_379 : mm_wp d 132 379 [l0, l1, l2, .int x, l4, l5, l6, l7, l8, l9, l10, l11, l12, l13, l14] st h Q ↔ mm_wp d 132 380 [l0, l1, l2, .int x, l4, l5, l6, l7, l8, l9, l10, l11, l12, l13, l14] (.int x :: st) h Q := wp_iload_n rfl rfl
theorem s132_380 : mm_wp d 132 380 ls (.int x :: st) h Q ↔ if x = 0 then mm_wp d 132 401 ls st h Q else mm_wp d 132 383 ls st h Q := wp_ifeq rfl rfl
theorem s132_383 : mm_wp d 132 383 [l0, l1, l2, l3, l4, .int x, l6, l7, l8, l9, l10, l11, l12, l13, l14] st h Q ↔ mm_wp d 132 385 [l0, l1, l2, l3, l4, .int x, l6, l7, l8, l9, l10, l11, l12, l13, l14] (.int x :: st) h Q := wp_iload rfl rfl
theorem s132_385 : mm_wp d 132 385 [.ref a, l1, l2, l3, l4, l5, l6, l7, l8, l9, l10, l11, l12, l13, l14] st h Q ↔ mm_wp d 132 386 [.ref a, l1, l2, l3, l4, l5, l6, l7, l8, l9, l10, l11, l12, l13, l14] (.ref a :: st) h Q := wp_aloadR_n rfl rfl
theorem s132_386 : mm_wp d 132 386 ls (.ref a :: st) h Q ↔ (mm_s h a).1 = 10 ∧ mm_wp d 132 389 ls (mm_o (mm_r h a 33) :: st) h Q := wp_getR rfl rfl
theorem s132_389 : mm_wp d 132 389 ls st h Q ↔ mm_wp d 132 390 ls (.int (0 : Int32) :: st) h Q := wp_iconst rfl rfl
theorem s132_390 : mm_wp d 132 390 ls (.int x :: .ref a :: st) h Q ↔ ((mm_s h a).1 = 20 ∧ mm_in x (mm_s h a).2 = true) ∧ mm_wp d 132 391 ls (.int (mm_i h a x.toNatClampNeg) :: st) h Q := wp_iaload rfl
theorem s132_391 : mm_wp d 132 391 [.ref a, l1, l2, l3, l4, l5, l6, l7, l8, l9, l10, l11, l12, l13, l14] st h Q ↔ mm_wp d 132 392 [.ref a, l1, l2, l3, l4, l5, l6, l7, l8, l9, l10, l11, l12, l13, l14] (.ref a :: st) h Q := wp_aloadR_n rfl rfl
theorem s132_392 : mm_wp d 132 392 ls (.ref a :: st) h Q ↔ (mm_s h a).1 = 10 ∧ mm_wp d 132 395 ls (mm_o (mm_r h a 33) :: st) h Q := wp_getR rfl rfl
theorem s132_395 : mm_wp d 132 395 ls st h Q ↔ mm_wp d 132 396 ls (.int (2 : Int32) :: st) h Q := wp_iconst rfl rfl
theorem s132_396 : mm_wp d 132 396 ls (.int x :: .ref a :: st) h Q ↔ ((mm_s h a).1 = 20 ∧ mm_in x (mm_s h a).2 = true) ∧ mm_wp d 132 397 ls (.int (mm_i h a x.toNatClampNeg) :: st) h Q := wp_iaload rfl
theorem s132_397 : mm_wp d 132 397 ls (.int x2 :: .int x :: st) h Q ↔ mm_wp d 132 398 ls (.int (x * x2) :: st) h Q := wp_imul rfl
theorem s132_398 : mm_wp d 132 398 ls (.int x2 :: .int x :: st) h Q ↔ if x = x2 then mm_wp d 132 401 ls st h Q else mm_wp d 132 405 ls st h Q := wp_icmpne rfl rfl
theorem s132_401 : mm_wp d 132 401 ls st h Q ↔ mm_wp d 132 402 ls (.int (1 : Int32) :: st) h Q := wp_iconst rfl rfl
theorem s132_402 : mm_wp d 132 402 ls st h Q ↔ mm_wp d 132 406 ls st h Q := wp_goto rfl rfl
theorem s132_405 : mm_wp d 132 405 ls st h Q ↔ mm_wp d 132 406 ls (.int (0 : Int32) :: st) h Q := wp_iconst rfl rfl
theorem s132_406 : mm_wp d 132 406 ls (.int x :: st) h Q ↔ (x = 0 ∨ x = 1) ∧ Q (.inl (some (.int x))) h := wp_zret rfl rfl
/-! 133: LoadRoomModel.rises(III)Z -/
theorem s133_0 : mm_wp d 133 0 [.ref a, l1, l2, l3, l4] st h Q ↔ mm_wp d 133 1 [.ref a, l1, l2, l3, l4] (.ref a :: st) h Q := wp_aloadR_n rfl rfl
theorem s133_1 : mm_wp d 133 1 ls (.ref a :: st) h Q ↔ (mm_s h a).1 = 10 ∧ mm_wp d 133 4 ls (.int (mm_i h a 8) :: st) h Q := wp_getI rfl rfl (by decide) (by decide)
theorem s133_4 : mm_wp d 133 4 ls (.int x :: st) h Q ↔ if x = 0 then mm_wp d 133 7 ls st h Q else mm_wp d 133 9 ls st h Q := wp_ifne rfl rfl
theorem s133_7 : mm_wp d 133 7 ls st h Q ↔ mm_wp d 133 8 ls (.int (1 : Int32) :: st) h Q := wp_iconst rfl rfl
theorem s133_8 : mm_wp d 133 8 ls (.int x :: st) h Q ↔ (x = 0 ∨ x = 1) ∧ Q (.inl (some (.int x))) h := wp_zret rfl rfl
theorem s133_9 : mm_wp d 133 9 ls st h Q ↔ mm_wp d 133 10 ls (.int (3 : Int32) :: st) h Q := wp_iconst rfl rfl
theorem s133_10 : mm_wp d 133 10 [.ref a, l1, l2, l3, l4] st h Q ↔ mm_wp d 133 11 [.ref a, l1, l2, l3, l4] (.ref a :: st) h Q := wp_aloadR_n rfl rfl
theorem s133_11 : mm_wp d 133 11 ls (.ref a :: st) h Q ↔ (mm_s h a).1 = 10 ∧ mm_wp d 133 14 ls (.int (mm_i h a 8) :: st) h Q := wp_getI rfl rfl (by decide) (by decide)
theorem s133_14 : mm_wp d 133 14 ls (.int x2 :: .int x :: st) h Q ↔ mm_wp d 133 15 ls (.int (x * x2) :: st) h Q := wp_imul rfl
theorem s133_15 : mm_wp d 133 15 ls st h Q ↔ mm_wp d 133 16 ls (.int (3 : Int32) :: st) h Q := wp_iconst rfl rfl
theorem s133_16 : mm_wp d 133 16 ls (.int x2 :: .int x :: st) h Q ↔ mm_wp d 133 17 ls (.int (x - x2) :: st) h Q := wp_isub rfl
theorem s133_17 : mm_wp d 133 17 [l0, l1, l2, l3, l4] (.int x :: st) h Q ↔ mm_wp d 133 19 [l0, l1, l2, l3, .int x] st h Q := wp_istore rfl rfl
theorem s133_19 : mm_wp d 133 19 [l0, l1, .int x, l3, l4] st h Q ↔ mm_wp d 133 20 [l0, l1, .int x, l3, l4] (.int x :: st) h Q := wp_iload_n rfl rfl
theorem s133_20 : mm_wp d 133 20 [.ref a, l1, l2, l3, l4] st h Q ↔ mm_wp d 133 21 [.ref a, l1, l2, l3, l4] (.ref a :: st) h Q := wp_aloadR_n rfl rfl
theorem s133_21 : mm_wp d 133 21 ls (.ref a :: st) h Q ↔ (mm_s h a).1 = 10 ∧ mm_wp d 133 24 ls (mm_o (mm_r h a 12) :: st) h Q := wp_getR rfl rfl
theorem s133_24 : mm_wp d 133 24 [l0, l1, l2, l3, .int x] st h Q ↔ mm_wp d 133 26 [l0, l1, l2, l3, .int x] (.int x :: st) h Q := wp_iload rfl rfl
theorem s133_26 : mm_wp d 133 26 ls st h Q ↔ mm_wp d 133 27 ls (.int (1 : Int32) :: st) h Q := wp_iconst rfl rfl
theorem s133_27 : mm_wp d 133 27 ls (.int x2 :: .int x :: st) h Q ↔ mm_wp d 133 28 ls (.int (x + x2) :: st) h Q := wp_iadd rfl
theorem s133_28 : mm_wp d 133 28 ls (.int x :: .ref a :: st) h Q ↔ ((mm_s h a).1 = 20 ∧ mm_in x (mm_s h a).2 = true) ∧ mm_wp d 133 29 ls (.int (mm_i h a x.toNatClampNeg) :: st) h Q := wp_iaload rfl
theorem s133_29 : mm_wp d 133 29 ls (.int x2 :: .int x :: st) h Q ↔ if x = x2 then mm_wp d 133 51 ls st h Q else mm_wp d 133 32 ls st h Q := wp_icmpeq rfl rfl
theorem s133_32 : mm_wp d 133 32 [l0, l1, .int x, l3, l4] st h Q ↔ mm_wp d 133 33 [l0, l1, .int x, l3, l4] (.int x :: st) h Q := wp_iload_n rfl rfl
theorem s133_33 : mm_wp d 133 33 [.ref a, l1, l2, l3, l4] st h Q ↔ mm_wp d 133 34 [.ref a, l1, l2, l3, l4] (.ref a :: st) h Q := wp_aloadR_n rfl rfl
theorem s133_34 : mm_wp d 133 34 ls (.ref a :: st) h Q ↔ (mm_s h a).1 = 10 ∧ mm_wp d 133 37 ls (mm_o (mm_r h a 12) :: st) h Q := wp_getR rfl rfl
theorem s133_37 : mm_wp d 133 37 [l0, l1, l2, l3, .int x] st h Q ↔ mm_wp d 133 39 [l0, l1, l2, l3, .int x] (.int x :: st) h Q := wp_iload rfl rfl
theorem s133_39 : mm_wp d 133 39 ls st h Q ↔ mm_wp d 133 40 ls (.int (1 : Int32) :: st) h Q := wp_iconst rfl rfl
theorem s133_40 : mm_wp d 133 40 ls (.int x2 :: .int x :: st) h Q ↔ mm_wp d 133 41 ls (.int (x + x2) :: st) h Q := wp_iadd rfl
theorem s133_41 : mm_wp d 133 41 ls (.int x :: .ref a :: st) h Q ↔ ((mm_s h a).1 = 20 ∧ mm_in x (mm_s h a).2 = true) ∧ mm_wp d 133 42 ls (.int (mm_i h a x.toNatClampNeg) :: st) h Q := wp_iaload rfl
theorem s133_42 : mm_wp d 133 42 ls (.int x2 :: .int x :: st) h Q ↔ if x ≤ x2 then mm_wp d 133 49 ls st h Q else mm_wp d 133 45 ls st h Q := wp_icmple rfl rfl
theorem s133_45 : mm_wp d 133 45 ls st h Q ↔ mm_wp d 133 46 ls (.int (1 : Int32) :: st) h Q := wp_iconst rfl rfl
theorem s133_46 : mm_wp d 133 46 ls st h Q ↔ mm_wp d 133 50 ls st h Q := wp_goto rfl rfl
theorem s133_49 : mm_wp d 133 49 ls st h Q ↔ mm_wp d 133 50 ls (.int (0 : Int32) :: st) h Q := wp_iconst rfl rfl
theorem s133_50 : mm_wp d 133 50 ls (.int x :: st) h Q ↔ (x = 0 ∨ x = 1) ∧ Q (.inl (some (.int x))) h := wp_zret rfl rfl
theorem s133_51 : mm_wp d 133 51 [l0, l1, l2, .int x, l4] st h Q ↔ mm_wp d 133 52 [l0, l1, l2, .int x, l4] (.int x :: st) h Q := wp_iload_n rfl rfl
theorem s133_52 : mm_wp d 133 52 [.ref a, l1, l2, l3, l4] st h Q ↔ mm_wp d 133 53 [.ref a, l1, l2, l3, l4] (.ref a :: st) h Q := wp_aloadR_n rfl rfl
theorem s133_53 : mm_wp d 133 53 ls (.ref a :: st) h Q ↔ (mm_s h a).1 = 10 ∧ mm_wp d 133 56 ls (mm_o (mm_r h a 12) :: st) h Q := wp_getR rfl rfl
theorem s133_56 : mm_wp d 133 56 [l0, l1, l2, l3, .int x] st h Q ↔ mm_wp d 133 58 [l0, l1, l2, l3, .int x] (.int x :: st) h Q := wp_iload rfl rfl
theorem s133_58 : mm_wp d 133 58 ls st h Q ↔ mm_wp d 133 59 ls (.int (2 : Int32) :: st) h Q := wp_iconst rfl rfl
theorem s133_59 : mm_wp d 133 59 ls (.int x2 :: .int x :: st) h Q ↔ mm_wp d 133 60 ls (.int (x + x2) :: st) h Q := wp_iadd rfl
theorem s133_60 : mm_wp d 133 60 ls (.int x :: .ref a :: st) h Q ↔ ((mm_s h a).1 = 20 ∧ mm_in x (mm_s h a).2 = true) ∧ mm_wp d 133 61 ls (.int (mm_i h a x.toNatClampNeg) :: st) h Q := wp_iaload rfl
theorem s133_61 : mm_wp d 133 61 ls (.int x2 :: .int x :: st) h Q ↔ if x = x2 then mm_wp d 133 85 ls st h Q else mm_wp d 133 64 ls st h Q := wp_icmpeq rfl rfl
theorem s133_64 : mm_wp d 133 64 [l0, l1, l2, .int x, l4] st h Q ↔ mm_wp d 133 65 [l0, l1, l2, .int x, l4] (.int x :: st) h Q := wp_iload_n rfl rfl
theorem s133_65 : mm_wp d 133 65 [.ref a, l1, l2, l3, l4] st h Q ↔ mm_wp d 133 66 [.ref a, l1, l2, l3, l4] (.ref a :: st) h Q := wp_aloadR_n rfl rfl
theorem s133_66 : mm_wp d 133 66 ls (.ref a :: st) h Q ↔ (mm_s h a).1 = 10 ∧ mm_wp d 133 69 ls (mm_o (mm_r h a 12) :: st) h Q := wp_getR rfl rfl
theorem s133_69 : mm_wp d 133 69 [l0, l1, l2, l3, .int x] st h Q ↔ mm_wp d 133 71 [l0, l1, l2, l3, .int x] (.int x :: st) h Q := wp_iload rfl rfl
theorem s133_71 : mm_wp d 133 71 ls st h Q ↔ mm_wp d 133 72 ls (.int (2 : Int32) :: st) h Q := wp_iconst rfl rfl
theorem s133_72 : mm_wp d 133 72 ls (.int x2 :: .int x :: st) h Q ↔ mm_wp d 133 73 ls (.int (x + x2) :: st) h Q := wp_iadd rfl
theorem s133_73 : mm_wp d 133 73 ls (.int x :: .ref a :: st) h Q ↔ ((mm_s h a).1 = 20 ∧ mm_in x (mm_s h a).2 = true) ∧ mm_wp d 133 74 ls (.int (mm_i h a x.toNatClampNeg) :: st) h Q := wp_iaload rfl
theorem s133_74 : mm_wp d 133 74 ls (.int x2 :: .int x :: st) h Q ↔ if x ≤ x2 then mm_wp d 133 81 ls st h Q else mm_wp d 133 77 ls st h Q := wp_icmple rfl rfl
theorem s133_77 : mm_wp d 133 77 ls st h Q ↔ mm_wp d 133 78 ls (.int (1 : Int32) :: st) h Q := wp_iconst rfl rfl
theorem s133_78 : mm_wp d 133 78 ls st h Q ↔ mm_wp d 133 101 ls st h Q := wp_goto rfl rfl
theorem s133_81 : mm_wp d 133 81 ls st h Q ↔ mm_wp d 133 82 ls (.int (0 : Int32) :: st) h Q := wp_iconst rfl rfl
theorem s133_82 : mm_wp d 133 82 ls st h Q ↔ mm_wp d 133 101 ls st h Q := wp_goto rfl rfl
theorem s133_85 : mm_wp d 133 85 [l0, .int x, l2, l3, l4] st h Q ↔ mm_wp d 133 86 [l0, .int x, l2, l3, l4] (.int x :: st) h Q := wp_iload_n rfl rfl
theorem s133_86 : mm_wp d 133 86 [.ref a, l1, l2, l3, l4] st h Q ↔ mm_wp d 133 87 [.ref a, l1, l2, l3, l4] (.ref a :: st) h Q := wp_aloadR_n rfl rfl
theorem s133_87 : mm_wp d 133 87 ls (.ref a :: st) h Q ↔ (mm_s h a).1 = 10 ∧ mm_wp d 133 90 ls (mm_o (mm_r h a 12) :: st) h Q := wp_getR rfl rfl
theorem s133_90 : mm_wp d 133 90 [l0, l1, l2, l3, .int x] st h Q ↔ mm_wp d 133 92 [l0, l1, l2, l3, .int x] (.int x :: st) h Q := wp_iload rfl rfl
theorem s133_92 : mm_wp d 133 92 ls (.int x :: .ref a :: st) h Q ↔ ((mm_s h a).1 = 20 ∧ mm_in x (mm_s h a).2 = true) ∧ mm_wp d 133 93 ls (.int (mm_i h a x.toNatClampNeg) :: st) h Q := wp_iaload rfl
theorem s133_93 : mm_wp d 133 93 ls (.int x2 :: .int x :: st) h Q ↔ if x ≤ x2 then mm_wp d 133 100 ls st h Q else mm_wp d 133 96 ls st h Q := wp_icmple rfl rfl
theorem s133_96 : mm_wp d 133 96 ls st h Q ↔ mm_wp d 133 97 ls (.int (1 : Int32) :: st) h Q := wp_iconst rfl rfl
theorem s133_97 : mm_wp d 133 97 ls st h Q ↔ mm_wp d 133 101 ls st h Q := wp_goto rfl rfl
theorem s133_100 : mm_wp d 133 100 ls st h Q ↔ mm_wp d 133 101 ls (.int (0 : Int32) :: st) h Q := wp_iconst rfl rfl
theorem s133_101 : mm_wp d 133 101 ls (.int x :: st) h Q ↔ (x = 0 ∨ x = 1) ∧ Q (.inl (some (.int x))) h := wp_zret rfl rfl
/-! 134: LoadRoomModel.common(IIII)I -/
theorem s134_0 : mm_wp d 134 0 [.ref a, l1, l2, l3, l4, l5, l6, l7, l8] st h Q ↔ mm_wp d 134 1 [.ref a, l1, l2, l3, l4, l5, l6, l7, l8] (.ref a :: st) h Q := wp_aloadR_n rfl rfl
theorem s134_1 : mm_wp d 134 1 ls (.ref a :: st) h Q ↔ (mm_s h a).1 = 10 ∧ mm_wp d 134 4 ls (mm_o (mm_r h a 12) :: st) h Q := wp_getR rfl rfl
theorem s134_4 : mm_wp d 134 4 ls st h Q ↔ mm_wp d 134 5 ls (.int (3 : Int32) :: st) h Q := wp_iconst rfl rfl
theorem s134_5 : mm_wp d 134 5 [l0, .int x, l2, l3, l4, l5, l6, l7, l8] st h Q ↔ mm_wp d 134 6 [l0, .int x, l2, l3, l4, l5, l6, l7, l8] (.int x :: st) h Q := wp_iload_n rfl rfl
theorem s134_6 : mm_wp d 134 6 ls (.int x2 :: .int x :: st) h Q ↔ mm_wp d 134 7 ls (.int (x * x2) :: st) h Q := wp_imul rfl
theorem s134_7 : mm_wp d 134 7 [l0, l1, .int x, l3, l4, l5, l6, l7, l8] st h Q ↔ mm_wp d 134 8 [l0, l1, .int x, l3, l4, l5, l6, l7, l8] (.int x :: st) h Q := wp_iload_n rfl rfl
theorem s134_8 : mm_wp d 134 8 ls (.int x2 :: .int x :: st) h Q ↔ mm_wp d 134 9 ls (.int (x + x2) :: st) h Q := wp_iadd rfl
theorem s134_9 : mm_wp d 134 9 ls (.int x :: .ref a :: st) h Q ↔ ((mm_s h a).1 = 20 ∧ mm_in x (mm_s h a).2 = true) ∧ mm_wp d 134 10 ls (.int (mm_i h a x.toNatClampNeg) :: st) h Q := wp_iaload rfl
theorem s134_10 : mm_wp d 134 10 [l0, l1, l2, .int x, l4, l5, l6, l7, l8] st h Q ↔ mm_wp d 134 11 [l0, l1, l2, .int x, l4, l5, l6, l7, l8] (.int x :: st) h Q := wp_iload_n rfl rfl
theorem s134_11 : mm_wp d 134 11 ls (.int x2 :: .int x :: st) h Q ↔ if x ≤ x2 then mm_wp d 134 27 ls st h Q else mm_wp d 134 14 ls st h Q := wp_icmple rfl rfl
theorem s134_14 : mm_wp d 134 14 [.ref a, l1, l2, l3, l4, l5, l6, l7, l8] st h Q ↔ mm_wp d 134 15 [.ref a, l1, l2, l3, l4, l5, l6, l7, l8] (.ref a :: st) h Q := wp_aloadR_n rfl rfl
theorem s134_15 : mm_wp d 134 15 ls (.ref a :: st) h Q ↔ (mm_s h a).1 = 10 ∧ mm_wp d 134 18 ls (mm_o (mm_r h a 12) :: st) h Q := wp_getR rfl rfl
theorem s134_18 : mm_wp d 134 18 ls st h Q ↔ mm_wp d 134 19 ls (.int (3 : Int32) :: st) h Q := wp_iconst rfl rfl
theorem s134_19 : mm_wp d 134 19 [l0, .int x, l2, l3, l4, l5, l6, l7, l8] st h Q ↔ mm_wp d 134 20 [l0, .int x, l2, l3, l4, l5, l6, l7, l8] (.int x :: st) h Q := wp_iload_n rfl rfl
theorem s134_20 : mm_wp d 134 20 ls (.int x2 :: .int x :: st) h Q ↔ mm_wp d 134 21 ls (.int (x * x2) :: st) h Q := wp_imul rfl
theorem s134_21 : mm_wp d 134 21 [l0, l1, .int x, l3, l4, l5, l6, l7, l8] st h Q ↔ mm_wp d 134 22 [l0, l1, .int x, l3, l4, l5, l6, l7, l8] (.int x :: st) h Q := wp_iload_n rfl rfl
theorem s134_22 : mm_wp d 134 22 ls (.int x2 :: .int x :: st) h Q ↔ mm_wp d 134 23 ls (.int (x + x2) :: st) h Q := wp_iadd rfl
theorem s134_23 : mm_wp d 134 23 ls (.int x :: .ref a :: st) h Q ↔ ((mm_s h a).1 = 20 ∧ mm_in x (mm_s h a).2 = true) ∧ mm_wp d 134 24 ls (.int (mm_i h a x.toNatClampNeg) :: st) h Q := wp_iaload rfl
theorem s134_24 : mm_wp d 134 24 ls st h Q ↔ mm_wp d 134 28 ls st h Q := wp_goto rfl rfl
theorem s134_27 : mm_wp d 134 27 [l0, l1, l2, .int x, l4, l5, l6, l7, l8] st h Q ↔ mm_wp d 134 28 [l0, l1, l2, .int x, l4, l5, l6, l7, l8] (.int x :: st) h Q := wp_iload_n rfl rfl
theorem s134_28 : mm_wp d 134 28 [l0, l1, l2, l3, l4, l5, l6, l7, l8] (.int x :: st) h Q ↔ mm_wp d 134 30 [l0, l1, l2, l3, l4, .int x, l6, l7, l8] st h Q := wp_istore rfl rfl
theorem s134_30 : mm_wp d 134 30 [.ref a, l1, l2, l3, l4, l5, l6, l7, l8] st h Q ↔ mm_wp d 134 31 [.ref a, l1, l2, l3, l4, l5, l6, l7, l8] (.ref a :: st) h Q := wp_aloadR_n rfl rfl
theorem s134_31 : mm_wp d 134 31 ls (.ref a :: st) h Q ↔ (mm_s h a).1 = 10 ∧ mm_wp d 134 34 ls (mm_o (mm_r h a 12) :: st) h Q := wp_getR rfl rfl
theorem s134_34 : mm_wp d 134 34 ls st h Q ↔ mm_wp d 134 35 ls (.int (3 : Int32) :: st) h Q := wp_iconst rfl rfl
theorem s134_35 : mm_wp d 134 35 [l0, .int x, l2, l3, l4, l5, l6, l7, l8] st h Q ↔ mm_wp d 134 36 [l0, .int x, l2, l3, l4, l5, l6, l7, l8] (.int x :: st) h Q := wp_iload_n rfl rfl
theorem s134_36 : mm_wp d 134 36 ls (.int x2 :: .int x :: st) h Q ↔ mm_wp d 134 37 ls (.int (x * x2) :: st) h Q := wp_imul rfl
theorem s134_37 : mm_wp d 134 37 [l0, l1, .int x, l3, l4, l5, l6, l7, l8] st h Q ↔ mm_wp d 134 38 [l0, l1, .int x, l3, l4, l5, l6, l7, l8] (.int x :: st) h Q := wp_iload_n rfl rfl
theorem s134_38 : mm_wp d 134 38 ls (.int x2 :: .int x :: st) h Q ↔ mm_wp d 134 39 ls (.int (x + x2) :: st) h Q := wp_iadd rfl
theorem s134_39 : mm_wp d 134 39 ls (.int x :: .ref a :: st) h Q ↔ ((mm_s h a).1 = 20 ∧ mm_in x (mm_s h a).2 = true) ∧ mm_wp d 134 40 ls (.int (mm_i h a x.toNatClampNeg) :: st) h Q := wp_iaload rfl
theorem s134_40 : mm_wp d 134 40 [.ref a, l1, l2, l3, l4, l5, l6, l7, l8] st h Q ↔ mm_wp d 134 41 [.ref a, l1, l2, l3, l4, l5, l6, l7, l8] (.ref a :: st) h Q := wp_aloadR_n rfl rfl
theorem s134_41 : mm_wp d 134 41 ls (.ref a :: st) h Q ↔ (mm_s h a).1 = 10 ∧ mm_wp d 134 44 ls (mm_o (mm_r h a 11) :: st) h Q := wp_getR rfl rfl
theorem s134_44 : mm_wp d 134 44 ls st h Q ↔ mm_wp d 134 45 ls (.int (3 : Int32) :: st) h Q := wp_iconst rfl rfl
theorem s134_45 : mm_wp d 134 45 [l0, .int x, l2, l3, l4, l5, l6, l7, l8] st h Q ↔ mm_wp d 134 46 [l0, .int x, l2, l3, l4, l5, l6, l7, l8] (.int x :: st) h Q := wp_iload_n rfl rfl
theorem s134_46 : mm_wp d 134 46 ls (.int x2 :: .int x :: st) h Q ↔ mm_wp d 134 47 ls (.int (x * x2) :: st) h Q := wp_imul rfl
theorem s134_47 : mm_wp d 134 47 [l0, l1, .int x, l3, l4, l5, l6, l7, l8] st h Q ↔ mm_wp d 134 48 [l0, l1, .int x, l3, l4, l5, l6, l7, l8] (.int x :: st) h Q := wp_iload_n rfl rfl
theorem s134_48 : mm_wp d 134 48 ls (.int x2 :: .int x :: st) h Q ↔ mm_wp d 134 49 ls (.int (x + x2) :: st) h Q := wp_iadd rfl
theorem s134_49 : mm_wp d 134 49 ls (.int x :: .ref a :: st) h Q ↔ ((mm_s h a).1 = 20 ∧ mm_in x (mm_s h a).2 = true) ∧ mm_wp d 134 50 ls (.int (mm_i h a x.toNatClampNeg) :: st) h Q := wp_iaload rfl
theorem s134_50 : mm_wp d 134 50 ls (.int x2 :: .int x :: st) h Q ↔ mm_wp d 134 51 ls (.int (x + x2) :: st) h Q := wp_iadd rfl
theorem s134_51 : mm_wp d 134 51 [l0, l1, l2, l3, l4, l5, l6, l7, l8] (.int x :: st) h Q ↔ mm_wp d 134 53 [l0, l1, l2, l3, l4, l5, .int x, l7, l8] st h Q := wp_istore rfl rfl
theorem s134_53 : mm_wp d 134 53 [l0, l1, l2, .int x, l4, l5, l6, l7, l8] st h Q ↔ mm_wp d 134 54 [l0, l1, l2, .int x, l4, l5, l6, l7, l8] (.int x :: st) h Q := wp_iload_n rfl rfl
theorem s134_54 : mm_wp d 134 54 [l0, l1, l2, l3, .int x, l5, l6, l7, l8] st h Q ↔ mm_wp d 134 56 [l0, l1, l2, l3, .int x, l5, l6, l7, l8] (.int x :: st) h Q := wp_iload rfl rfl
theorem s134_56 : mm_wp d 134 56 ls (.int x2 :: .int x :: st) h Q ↔ mm_wp d 134 57 ls (.int (x + x2) :: st) h Q := wp_iadd rfl
theorem s134_57 : mm_wp d 134 57 [l0, l1, l2, l3, l4, l5, l6, l7, l8] (.int x :: st) h Q ↔ mm_wp d 134 59 [l0, l1, l2, l3, l4, l5, l6, .int x, l8] st h Q := wp_istore rfl rfl
theorem s134_59 : mm_wp d 134 59 [l0, l1, l2, l3, l4, l5, .int x, l7, l8] st h Q ↔ mm_wp d 134 61 [l0, l1, l2, l3, l4, l5, .int x, l7, l8] (.int x :: st) h Q := wp_iload rfl rfl
theorem s134_61 : mm_wp d 134 61 [l0, l1, l2, l3, l4, l5, l6, .int x, l8] st h Q ↔ mm_wp d 134 63 [l0, l1, l2, l3, l4, l5, l6, .int x, l8] (.int x :: st) h Q := wp_iload rfl rfl
theorem s134_63 : mm_wp d 134 63 ls (.int x2 :: .int x :: st) h Q ↔ if x2 ≤ x then mm_wp d 134 71 ls st h Q else mm_wp d 134 66 ls st h Q := wp_icmpge rfl rfl
theorem s134_66 : mm_wp d 134 66 [l0, l1, l2, l3, l4, l5, .int x, l7, l8] st h Q ↔ mm_wp d 134 68 [l0, l1, l2, l3, l4, l5, .int x, l7, l8] (.int x :: st) h Q := wp_iload rfl rfl
theorem s134_68 : mm_wp d 134 68 ls st h Q ↔ mm_wp d 134 73 ls st h Q := wp_goto rfl rfl
theorem s134_71 : mm_wp d 134 71 [l0, l1, l2, l3, l4, l5, l6, .int x, l8] st h Q ↔ mm_wp d 134 73 [l0, l1, l2, l3, l4, l5, l6, .int x, l8] (.int x :: st) h Q := wp_iload rfl rfl
theorem s134_73 : mm_wp d 134 73 [l0, l1, l2, l3, l4, l5, l6, l7, l8] (.int x :: st) h Q ↔ mm_wp d 134 75 [l0, l1, l2, l3, l4, l5, l6, l7, .int x] st h Q := wp_istore rfl rfl
theorem s134_75 : mm_wp d 134 75 [l0, l1, l2, l3, l4, l5, l6, l7, .int x] st h Q ↔ mm_wp d 134 77 [l0, l1, l2, l3, l4, l5, l6, l7, .int x] (.int x :: st) h Q := wp_iload rfl rfl
theorem s134_77 : mm_wp d 134 77 [l0, l1, l2, l3, l4, .int x, l6, l7, l8] st h Q ↔ mm_wp d 134 79 [l0, l1, l2, l3, l4, .int x, l6, l7, l8] (.int x :: st) h Q := wp_iload rfl rfl
theorem s134_79 : mm_wp d 134 79 ls (.int x2 :: .int x :: st) h Q ↔ if x ≤ x2 then mm_wp d 134 90 ls st h Q else mm_wp d 134 82 ls st h Q := wp_icmple rfl rfl
theorem s134_82 : mm_wp d 134 82 [l0, l1, l2, l3, l4, l5, l6, l7, .int x] st h Q ↔ mm_wp d 134 84 [l0, l1, l2, l3, l4, l5, l6, l7, .int x] (.int x :: st) h Q := wp_iload rfl rfl
theorem s134_84 : mm_wp d 134 84 [l0, l1, l2, l3, l4, .int x, l6, l7, l8] st h Q ↔ mm_wp d 134 86 [l0, l1, l2, l3, l4, .int x, l6, l7, l8] (.int x :: st) h Q := wp_iload rfl rfl
theorem s134_86 : mm_wp d 134 86 ls (.int x2 :: .int x :: st) h Q ↔ mm_wp d 134 87 ls (.int (x - x2) :: st) h Q := wp_isub rfl
theorem s134_87 : mm_wp d 134 87 ls st h Q ↔ mm_wp d 134 91 ls st h Q := wp_goto rfl rfl
theorem s134_90 : mm_wp d 134 90 ls st h Q ↔ mm_wp d 134 91 ls (.int (0 : Int32) :: st) h Q := wp_iconst rfl rfl
theorem s134_91 : mm_wp d 134 91 ls (.int x :: st) h Q ↔ Q (.inl (some (.int x))) h := wp_iret rfl rfl
/-! 135: LoadRoomModel.come(IIIII)V -/
theorem s135_0 : mm_wp d 135 0 ls st h Q ↔ mm_wp d 135 1 ls (.int (0 : Int32) :: st) h Q := wp_iconst rfl rfl
theorem s135_1 : mm_wp d 135 1 [l0, l1, l2, l3, l4, l5, l6, l7] (.int x :: st) h Q ↔ mm_wp d 135 3 [l0, l1, l2, l3, l4, l5, .int x, l7] st h Q := wp_istore rfl rfl
theorem s135_3 : mm_wp d 135 3 [l0, l1, l2, l3, l4, l5, .int x, l7] st h Q ↔ mm_wp d 135 5 [l0, l1, l2, l3, l4, l5, .int x, l7] (.int x :: st) h Q := wp_iload rfl rfl
theorem s135_5 : mm_wp d 135 5 [.ref a, l1, l2, l3, l4, l5, l6, l7] st h Q ↔ mm_wp d 135 6 [.ref a, l1, l2, l3, l4, l5, l6, l7] (.ref a :: st) h Q := wp_aloadR_n rfl rfl
theorem s135_6 : mm_wp d 135 6 ls (.ref a :: st) h Q ↔ (mm_s h a).1 = 10 ∧ mm_wp d 135 9 ls (.int (mm_i h a 8) :: st) h Q := wp_getI rfl rfl (by decide) (by decide)
theorem s135_9 : mm_wp d 135 9 ls (.int x2 :: .int x :: st) h Q ↔ if x2 ≤ x then mm_wp d 135 113 ls st h Q else mm_wp d 135 12 ls st h Q := wp_icmpge rfl rfl
theorem s135_12 : mm_wp d 135 12 [.ref a, l1, l2, l3, l4, l5, l6, l7] st h Q ↔ mm_wp d 135 13 [.ref a, l1, l2, l3, l4, l5, l6, l7] (.ref a :: st) h Q := wp_aloadR_n rfl rfl
theorem s135_13 : mm_wp d 135 13 [l0, l1, l2, l3, l4, l5, .int x, l7] st h Q ↔ mm_wp d 135 15 [l0, l1, l2, l3, l4, l5, .int x, l7] (.int x :: st) h Q := wp_iload rfl rfl
theorem s135_15 : mm_wp d 135 15 ls st h Q ↔ mm_wp d 135 16 ls (.int (0 : Int32) :: st) h Q := wp_iconst rfl rfl
theorem s135_16 : mm_wp d 135 16 [l0, l1, l2, .int x, l4, l5, l6, l7] st h Q ↔ mm_wp d 135 17 [l0, l1, l2, .int x, l4, l5, l6, l7] (.int x :: st) h Q := wp_iload_n rfl rfl
theorem s135_17 : mm_wp d 135 17 [.ref a, l1, l2, l3, l4, l5, l6, l7] st h Q ↔ mm_wp d 135 18 [.ref a, l1, l2, l3, l4, l5, l6, l7] (.ref a :: st) h Q := wp_aloadR_n rfl rfl
theorem s135_18 : mm_wp d 135 18 ls (.ref a :: st) h Q ↔ (mm_s h a).1 = 10 ∧ mm_wp d 135 21 ls (mm_o (mm_r h a 33) :: st) h Q := wp_getR rfl rfl
theorem s135_21 : mm_wp d 135 21 ls st h Q ↔ mm_wp d 135 22 ls (.int (0 : Int32) :: st) h Q := wp_iconst rfl rfl
theorem s135_22 : mm_wp d 135 22 ls (.int x :: .ref a :: st) h Q ↔ ((mm_s h a).1 = 20 ∧ mm_in x (mm_s h a).2 = true) ∧ mm_wp d 135 23 ls (.int (mm_i h a x.toNatClampNeg) :: st) h Q := wp_iaload rfl
theorem s135_23 : mm_wp (d + 1) 135 23 ls [.int x5, .int x4, .int x3, .int x2, .ref a] h Q ↔ (mm_s h a).1 = 10 ∧ mm_wp d 134 0 [.ref a, .int x2, .int x3, .int x4, .int x5, mm_j, mm_j, mm_j, mm_j] [] h (mm_bk (d + 1) 135 23 ls [] Q) := wp_virtual rfl rfl ⟨by decide, rfl⟩ ⟨Nat.le_of_ble_eq_true rfl, Nat.le_of_ble_eq_true rfl⟩ rfl rfl rfl rfl rfl rfl
theorem s135_26 : mm_wp d 135 26 ls (.int x :: st) h Q ↔ if x ≤ 0 then mm_wp d 135 51 ls st h Q else mm_wp d 135 29 ls st h Q := wp_ifle rfl rfl
theorem s135_29 : mm_wp d 135 29 [.ref a, l1, l2, l3, l4, l5, l6, l7] st h Q ↔ mm_wp d 135 30 [.ref a, l1, l2, l3, l4, l5, l6, l7] (.ref a :: st) h Q := wp_aloadR_n rfl rfl
theorem s135_30 : mm_wp d 135 30 [l0, l1, l2, l3, l4, l5, .int x, l7] st h Q ↔ mm_wp d 135 32 [l0, l1, l2, l3, l4, l5, .int x, l7] (.int x :: st) h Q := wp_iload rfl rfl
theorem s135_32 : mm_wp d 135 32 ls st h Q ↔ mm_wp d 135 33 ls (.int (2 : Int32) :: st) h Q := wp_iconst rfl rfl
theorem s135_33 : mm_wp d 135 33 [l0, l1, l2, l3, l4, .int x, l6, l7] st h Q ↔ mm_wp d 135 35 [l0, l1, l2, l3, l4, .int x, l6, l7] (.int x :: st) h Q := wp_iload rfl rfl
theorem s135_35 : mm_wp d 135 35 [.ref a, l1, l2, l3, l4, l5, l6, l7] st h Q ↔ mm_wp d 135 36 [.ref a, l1, l2, l3, l4, l5, l6, l7] (.ref a :: st) h Q := wp_aloadR_n rfl rfl
theorem s135_36 : mm_wp d 135 36 ls (.ref a :: st) h Q ↔ (mm_s h a).1 = 10 ∧ mm_wp d 135 39 ls (mm_o (mm_r h a 33) :: st) h Q := wp_getR rfl rfl
theorem s135_39 : mm_wp d 135 39 ls st h Q ↔ mm_wp d 135 40 ls (.int (2 : Int32) :: st) h Q := wp_iconst rfl rfl
theorem s135_40 : mm_wp d 135 40 ls (.int x :: .ref a :: st) h Q ↔ ((mm_s h a).1 = 20 ∧ mm_in x (mm_s h a).2 = true) ∧ mm_wp d 135 41 ls (.int (mm_i h a x.toNatClampNeg) :: st) h Q := wp_iaload rfl
theorem s135_41 : mm_wp (d + 1) 135 41 ls [.int x5, .int x4, .int x3, .int x2, .ref a] h Q ↔ (mm_s h a).1 = 10 ∧ mm_wp d 134 0 [.ref a, .int x2, .int x3, .int x4, .int x5, mm_j, mm_j, mm_j, mm_j] [] h (mm_bk (d + 1) 135 41 ls [] Q) := wp_virtual rfl rfl ⟨by decide, rfl⟩ ⟨Nat.le_of_ble_eq_true rfl, Nat.le_of_ble_eq_true rfl⟩ rfl rfl rfl rfl rfl rfl
theorem s135_44 : mm_wp d 135 44 ls (.int x :: st) h Q ↔ if x ≤ 0 then mm_wp d 135 51 ls st h Q else mm_wp d 135 47 ls st h Q := wp_ifle rfl rfl
theorem s135_47 : mm_wp d 135 47 ls st h Q ↔ mm_wp d 135 48 ls (.int (1 : Int32) :: st) h Q := wp_iconst rfl rfl
theorem s135_48 : mm_wp d 135 48 ls st h Q ↔ mm_wp d 135 52 ls st h Q := wp_goto rfl rfl
theorem s135_51 : mm_wp d 135 51 ls st h Q ↔ mm_wp d 135 52 ls (.int (0 : Int32) :: st) h Q := wp_iconst rfl rfl
theorem s135_52 : mm_wp d 135 52 [l0, l1, l2, l3, l4, l5, l6, l7] (.int x :: st) h Q ↔ mm_wp d 135 54 [l0, l1, l2, l3, l4, l5, l6, .int x] st h Q := wp_istore rfl rfl
theorem s135_54 : mm_wp d 135 54 [.ref a, l1, l2, l3, l4, l5, l6, l7] st h Q ↔ mm_wp d 135 55 [.ref a, l1, l2, l3, l4, l5, l6, l7] (.ref a :: st) h Q := wp_aloadR_n rfl rfl
theorem s135_55 : mm_wp d 135 55 ls (.ref a :: st) h Q ↔ (mm_s h a).1 = 10 ∧ mm_wp d 135 58 ls (mm_o (mm_r h a 13) :: st) h Q := wp_getR rfl rfl
theorem s135_58 : mm_wp d 135 58 [l0, l1, l2, l3, l4, l5, .int x, l7] st h Q ↔ mm_wp d 135 60 [l0, l1, l2, l3, l4, l5, .int x, l7] (.int x :: st) h Q := wp_iload rfl rfl
theorem s135_60 : mm_wp d 135 60 ls (.int x :: .ref a :: st) h Q ↔ mm_wp d 135 61 ls (.int x :: .ref a :: .int x :: .ref a :: st) h Q := wp_dup2 rfl
theorem s135_61 : mm_wp d 135 61 ls (.int x :: .ref a :: st) h Q ↔ ((mm_s h a).1 = 20 ∧ mm_in x (mm_s h a).2 = true) ∧ mm_wp d 135 62 ls (.int (mm_i h a x.toNatClampNeg) :: st) h Q := wp_iaload rfl
theorem s135_62 : mm_wp d 135 62 [l0, l1, l2, l3, l4, l5, l6, .int x] st h Q ↔ mm_wp d 135 64 [l0, l1, l2, l3, l4, l5, l6, .int x] (.int x :: st) h Q := wp_iload rfl rfl
theorem s135_64 : mm_wp d 135 64 ls (.int x :: st) h Q ↔ if x = 0 then mm_wp d 135 104 ls st h Q else mm_wp d 135 67 ls st h Q := wp_ifeq rfl rfl
theorem s135_67 : mm_wp d 135 67 [l0, l1, l2, l3, .int x, l5, l6, l7] st h Q ↔ mm_wp d 135 69 [l0, l1, l2, l3, .int x, l5, l6, l7] (.int x :: st) h Q := wp_iload rfl rfl
theorem s135_69 : mm_wp d 135 69 [.ref a, l1, l2, l3, l4, l5, l6, l7] st h Q ↔ mm_wp d 135 70 [.ref a, l1, l2, l3, l4, l5, l6, l7] (.ref a :: st) h Q := wp_aloadR_n rfl rfl
theorem s135_70 : mm_wp d 135 70 ls (.ref a :: st) h Q ↔ (mm_s h a).1 = 10 ∧ mm_wp d 135 73 ls (mm_o (mm_r h a 12) :: st) h Q := wp_getR rfl rfl
theorem s135_73 : mm_wp d 135 73 ls st h Q ↔ mm_wp d 135 74 ls (.int (3 : Int32) :: st) h Q := wp_iconst rfl rfl
theorem s135_74 : mm_wp d 135 74 [l0, l1, l2, l3, l4, l5, .int x, l7] st h Q ↔ mm_wp d 135 76 [l0, l1, l2, l3, l4, l5, .int x, l7] (.int x :: st) h Q := wp_iload rfl rfl
theorem s135_76 : mm_wp d 135 76 ls (.int x2 :: .int x :: st) h Q ↔ mm_wp d 135 77 ls (.int (x * x2) :: st) h Q := wp_imul rfl
theorem s135_77 : mm_wp d 135 77 ls st h Q ↔ mm_wp d 135 78 ls (.int (1 : Int32) :: st) h Q := wp_iconst rfl rfl
theorem s135_78 : mm_wp d 135 78 ls (.int x2 :: .int x :: st) h Q ↔ mm_wp d 135 79 ls (.int (x + x2) :: st) h Q := wp_iadd rfl
theorem s135_79 : mm_wp d 135 79 ls (.int x :: .ref a :: st) h Q ↔ ((mm_s h a).1 = 20 ∧ mm_in x (mm_s h a).2 = true) ∧ mm_wp d 135 80 ls (.int (mm_i h a x.toNatClampNeg) :: st) h Q := wp_iaload rfl
theorem s135_80 : mm_wp d 135 80 [.ref a, l1, l2, l3, l4, l5, l6, l7] st h Q ↔ mm_wp d 135 81 [.ref a, l1, l2, l3, l4, l5, l6, l7] (.ref a :: st) h Q := wp_aloadR_n rfl rfl
theorem s135_81 : mm_wp d 135 81 ls (.ref a :: st) h Q ↔ (mm_s h a).1 = 10 ∧ mm_wp d 135 84 ls (mm_o (mm_r h a 11) :: st) h Q := wp_getR rfl rfl
theorem s135_84 : mm_wp d 135 84 ls st h Q ↔ mm_wp d 135 85 ls (.int (3 : Int32) :: st) h Q := wp_iconst rfl rfl
theorem s135_85 : mm_wp d 135 85 [l0, l1, l2, l3, l4, l5, .int x, l7] st h Q ↔ mm_wp d 135 87 [l0, l1, l2, l3, l4, l5, .int x, l7] (.int x :: st) h Q := wp_iload rfl rfl
theorem s135_87 : mm_wp d 135 87 ls (.int x2 :: .int x :: st) h Q ↔ mm_wp d 135 88 ls (.int (x * x2) :: st) h Q := wp_imul rfl
theorem s135_88 : mm_wp d 135 88 ls st h Q ↔ mm_wp d 135 89 ls (.int (1 : Int32) :: st) h Q := wp_iconst rfl rfl
theorem s135_89 : mm_wp d 135 89 ls (.int x2 :: .int x :: st) h Q ↔ mm_wp d 135 90 ls (.int (x + x2) :: st) h Q := wp_iadd rfl
theorem s135_90 : mm_wp d 135 90 ls (.int x :: .ref a :: st) h Q ↔ ((mm_s h a).1 = 20 ∧ mm_in x (mm_s h a).2 = true) ∧ mm_wp d 135 91 ls (.int (mm_i h a x.toNatClampNeg) :: st) h Q := wp_iaload rfl
theorem s135_91 : mm_wp d 135 91 ls (.int x2 :: .int x :: st) h Q ↔ mm_wp d 135 92 ls (.int (x + x2) :: st) h Q := wp_iadd rfl
theorem s135_92 : mm_wp d 135 92 ls (.int x2 :: .int x :: st) h Q ↔ if x < x2 then mm_wp d 135 104 ls st h Q else mm_wp d 135 95 ls st h Q := wp_icmplt rfl rfl
theorem s135_95 : mm_wp d 135 95 [.ref a, l1, l2, l3, l4, l5, l6, l7] st h Q ↔ mm_wp d 135 96 [.ref a, l1, l2, l3, l4, l5, l6, l7] (.ref a :: st) h Q := wp_aloadR_n rfl rfl
theorem s135_96 : mm_wp d 135 96 ls (.ref a :: st) h Q ↔ (mm_s h a).1 = 10 ∧ mm_wp d 135 99 ls (mm_o (mm_r h a 4) :: st) h Q := wp_getR rfl rfl
theorem s135_99 : mm_wp d 135 99 [l0, .int x, l2, l3, l4, l5, l6, l7] st h Q ↔ mm_wp d 135 100 [l0, .int x, l2, l3, l4, l5, l6, l7] (.int x :: st) h Q := wp_iload_n rfl rfl
theorem s135_100 : mm_wp d 135 100 ls (.int x :: .ref a :: st) h Q ↔ ((mm_s h a).1 = 20 ∧ mm_in x (mm_s h a).2 = true) ∧ mm_wp d 135 101 ls (.int (mm_i h a x.toNatClampNeg) :: st) h Q := wp_iaload rfl
theorem s135_101 : mm_wp d 135 101 ls st h Q ↔ mm_wp d 135 105 ls st h Q := wp_goto rfl rfl
theorem s135_104 : mm_wp d 135 104 ls st h Q ↔ mm_wp d 135 105 ls (.int (0 : Int32) :: st) h Q := wp_iconst rfl rfl
theorem s135_105 : mm_wp d 135 105 ls (.int x2 :: .int x :: st) h Q ↔ mm_wp d 135 106 ls (.int (x + x2) :: st) h Q := wp_iadd rfl
theorem s135_106 : mm_wp d 135 106 ls (.int x2 :: .int x :: .ref a :: st) h Q ↔ ((mm_s h a).1 = 20 ∧ ¬ a = 0 ∧ mm_in x (mm_s h a).2 = true) ∧ mm_wp d 135 107 ls st (mm_pi h a x.toNatClampNeg x2) Q := wp_iastore rfl
theorem s135_107 : mm_wp d 135 107 [l0, l1, l2, l3, l4, l5, .int x, l7] st h Q ↔ mm_wp d 135 110 [l0, l1, l2, l3, l4, l5, .int (x + (1 : Int32)), l7] st h Q := wp_iinc rfl rfl rfl rfl
theorem s135_110 : mm_wp d 135 110 ls st h Q ↔ mm_wp d 135 3 ls st h Q := wp_goto rfl rfl
theorem s135_113 : mm_wp d 135 113 [.ref a, l1, l2, l3, l4, l5, l6, l7] st h Q ↔ mm_wp d 135 114 [.ref a, l1, l2, l3, l4, l5, l6, l7] (.ref a :: st) h Q := wp_aloadR_n rfl rfl
theorem s135_114 : mm_wp d 135 114 ls (.ref a :: st) h Q ↔ (mm_s h a).1 = 10 ∧ mm_wp d 135 117 ls (mm_o (mm_r h a 9) :: st) h Q := wp_getR rfl rfl
theorem s135_117 : mm_wp d 135 117 [.ref a, l1, l2, l3, l4, l5, l6, l7] st h Q ↔ mm_wp d 135 118 [.ref a, l1, l2, l3, l4, l5, l6, l7] (.ref a :: st) h Q := wp_aloadR_n rfl rfl
theorem s135_118 : mm_wp d 135 118 ls (.ref a :: st) h Q ↔ (mm_s h a).1 = 10 ∧ mm_wp d 135 121 ls (.int (mm_i h a 8) :: st) h Q := wp_getI rfl rfl (by decide) (by decide)
theorem s135_121 : mm_wp d 135 121 [l0, .int x, l2, l3, l4, l5, l6, l7] st h Q ↔ mm_wp d 135 122 [l0, .int x, l2, l3, l4, l5, l6, l7] (.int x :: st) h Q := wp_iload_n rfl rfl
theorem s135_122 : mm_wp d 135 122 ls (.int x2 :: .int x :: .ref a :: st) h Q ↔ ((mm_s h a).1 = 20 ∧ ¬ a = 0 ∧ mm_in x (mm_s h a).2 = true) ∧ mm_wp d 135 123 ls st (mm_pi h a x.toNatClampNeg x2) Q := wp_iastore rfl
theorem s135_123 : mm_wp d 135 123 [.ref a, l1, l2, l3, l4, l5, l6, l7] st h Q ↔ mm_wp d 135 124 [.ref a, l1, l2, l3, l4, l5, l6, l7] (.ref a :: st) h Q := wp_aloadR_n rfl rfl
theorem s135_124 : mm_wp d 135 124 ls (.ref a :: st) h Q ↔ (mm_s h a).1 = 10 ∧ mm_wp d 135 127 ls (mm_o (mm_r h a 10) :: st) h Q := wp_getR rfl rfl
theorem s135_127 : mm_wp d 135 127 [.ref a, l1, l2, l3, l4, l5, l6, l7] st h Q ↔ mm_wp d 135 128 [.ref a, l1, l2, l3, l4, l5, l6, l7] (.ref a :: st) h Q := wp_aloadR_n rfl rfl
theorem s135_128 : mm_wp d 135 128 ls (.ref a :: st) h Q ↔ (mm_s h a).1 = 10 ∧ mm_wp d 135 131 ls (.int (mm_i h a 8) :: st) h Q := wp_getI rfl rfl (by decide) (by decide)
theorem s135_131 : mm_wp d 135 131 [l0, l1, .int x, l3, l4, l5, l6, l7] st h Q ↔ mm_wp d 135 132 [l0, l1, .int x, l3, l4, l5, l6, l7] (.int x :: st) h Q := wp_iload_n rfl rfl
theorem s135_132 : mm_wp d 135 132 ls (.int x2 :: .int x :: .ref a :: st) h Q ↔ ((mm_s h a).1 = 20 ∧ ¬ a = 0 ∧ mm_in x (mm_s h a).2 = true) ∧ mm_wp d 135 133 ls st (mm_pi h a x.toNatClampNeg x2) Q := wp_iastore rfl
theorem s135_133 : mm_wp d 135 133 [.ref a, l1, l2, l3, l4, l5, l6, l7] st h Q ↔ mm_wp d 135 134 [.ref a, l1, l2, l3, l4, l5, l6, l7] (.ref a :: st) h Q := wp_aloadR_n rfl rfl
theorem s135_134 : mm_wp d 135 134 ls (.ref a :: st) h Q ↔ (mm_s h a).1 = 10 ∧ mm_wp d 135 137 ls (mm_o (mm_r h a 13) :: st) h Q := wp_getR rfl rfl
theorem s135_137 : mm_wp d 135 137 [.ref a, l1, l2, l3, l4, l5, l6, l7] st h Q ↔ mm_wp d 135 138 [.ref a, l1, l2, l3, l4, l5, l6, l7] (.ref a :: st) h Q := wp_aloadR_n rfl rfl
theorem s135_138 : mm_wp d 135 138 ls (.ref a :: st) h Q ↔ (mm_s h a).1 = 10 ∧ mm_wp d 135 141 ls (.int (mm_i h a 8) :: st) h Q := wp_getI rfl rfl (by decide) (by decide)
theorem s135_141 : mm_wp d 135 141 ls st h Q ↔ mm_wp d 135 142 ls (.int (0 : Int32) :: st) h Q := wp_iconst rfl rfl
theorem s135_142 : mm_wp d 135 142 ls (.int x2 :: .int x :: .ref a :: st) h Q ↔ ((mm_s h a).1 = 20 ∧ ¬ a = 0 ∧ mm_in x (mm_s h a).2 = true) ∧ mm_wp d 135 143 ls st (mm_pi h a x.toNatClampNeg x2) Q := wp_iastore rfl
theorem s135_143 : mm_wp d 135 143 [.ref a, l1, l2, l3, l4, l5, l6, l7] st h Q ↔ mm_wp d 135 144 [.ref a, l1, l2, l3, l4, l5, l6, l7] (.ref a :: st) h Q := wp_aloadR_n rfl rfl
theorem s135_144 : mm_wp d 135 144 ls (.ref a :: st) h Q ↔ (mm_s h a).1 = 10 ∧ mm_wp d 135 147 ls (mm_o (mm_r h a 14) :: st) h Q := wp_getR rfl rfl
theorem s135_147 : mm_wp d 135 147 [l0, .int x, l2, l3, l4, l5, l6, l7] st h Q ↔ mm_wp d 135 148 [l0, .int x, l2, l3, l4, l5, l6, l7] (.int x :: st) h Q := wp_iload_n rfl rfl
theorem s135_148 : mm_wp d 135 148 ls st h Q ↔ mm_wp d 135 149 ls (.int (1 : Int32) :: st) h Q := wp_iconst rfl rfl
theorem s135_149 : mm_wp d 135 149 ls (.int x2 :: .int x :: .ref a :: st) h Q ↔ ((mm_s h a).1 = 22 ∧ (x2 = 0 ∨ x2 = 1) ∧ mm_in x (mm_s h a).2 = true) ∧ mm_wp d 135 150 ls st (mm_pi h a x.toNatClampNeg x2) Q := wp_bastore rfl
theorem s135_150 : mm_wp d 135 150 [.ref a, l1, l2, l3, l4, l5, l6, l7] st h Q ↔ mm_wp d 135 151 [.ref a, l1, l2, l3, l4, l5, l6, l7] (.ref a :: st) h Q := wp_aloadR_n rfl rfl
theorem s135_151 : mm_wp d 135 151 ls (.ref a :: st) h Q ↔ (mm_s h a).1 = 10 ∧ mm_wp d 135 154 ls (mm_o (mm_r h a 12) :: st) h Q := wp_getR rfl rfl
theorem s135_154 : mm_wp d 135 154 ls st h Q ↔ mm_wp d 135 155 ls (.int (3 : Int32) :: st) h Q := wp_iconst rfl rfl
theorem s135_155 : mm_wp d 135 155 [.ref a, l1, l2, l3, l4, l5, l6, l7] st h Q ↔ mm_wp d 135 156 [.ref a, l1, l2, l3, l4, l5, l6, l7] (.ref a :: st) h Q := wp_aloadR_n rfl rfl
theorem s135_156 : mm_wp d 135 156 ls (.ref a :: st) h Q ↔ (mm_s h a).1 = 10 ∧ mm_wp d 135 159 ls (.int (mm_i h a 8) :: st) h Q := wp_getI rfl rfl (by decide) (by decide)
theorem s135_159 : mm_wp d 135 159 ls (.int x2 :: .int x :: st) h Q ↔ mm_wp d 135 160 ls (.int (x * x2) :: st) h Q := wp_imul rfl
theorem s135_160 : mm_wp d 135 160 [l0, l1, l2, .int x, l4, l5, l6, l7] st h Q ↔ mm_wp d 135 161 [l0, l1, l2, .int x, l4, l5, l6, l7] (.int x :: st) h Q := wp_iload_n rfl rfl
theorem s135_161 : mm_wp d 135 161 ls (.int x2 :: .int x :: .ref a :: st) h Q ↔ ((mm_s h a).1 = 20 ∧ ¬ a = 0 ∧ mm_in x (mm_s h a).2 = true) ∧ mm_wp d 135 162 ls st (mm_pi h a x.toNatClampNeg x2) Q := wp_iastore rfl
theorem s135_162 : mm_wp d 135 162 [.ref a, l1, l2, l3, l4, l5, l6, l7] st h Q ↔ mm_wp d 135 163 [.ref a, l1, l2, l3, l4, l5, l6, l7] (.ref a :: st) h Q := wp_aloadR_n rfl rfl
theorem s135_163 : mm_wp d 135 163 ls (.ref a :: st) h Q ↔ (mm_s h a).1 = 10 ∧ mm_wp d 135 166 ls (mm_o (mm_r h a 12) :: st) h Q := wp_getR rfl rfl
theorem s135_166 : mm_wp d 135 166 ls st h Q ↔ mm_wp d 135 167 ls (.int (3 : Int32) :: st) h Q := wp_iconst rfl rfl
theorem s135_167 : mm_wp d 135 167 [.ref a, l1, l2, l3, l4, l5, l6, l7] st h Q ↔ mm_wp d 135 168 [.ref a, l1, l2, l3, l4, l5, l6, l7] (.ref a :: st) h Q := wp_aloadR_n rfl rfl
theorem s135_168 : mm_wp d 135 168 ls (.ref a :: st) h Q ↔ (mm_s h a).1 = 10 ∧ mm_wp d 135 171 ls (.int (mm_i h a 8) :: st) h Q := wp_getI rfl rfl (by decide) (by decide)
theorem s135_171 : mm_wp d 135 171 ls (.int x2 :: .int x :: st) h Q ↔ mm_wp d 135 172 ls (.int (x * x2) :: st) h Q := wp_imul rfl
theorem s135_172 : mm_wp d 135 172 ls st h Q ↔ mm_wp d 135 173 ls (.int (1 : Int32) :: st) h Q := wp_iconst rfl rfl
theorem s135_173 : mm_wp d 135 173 ls (.int x2 :: .int x :: st) h Q ↔ mm_wp d 135 174 ls (.int (x + x2) :: st) h Q := wp_iadd rfl
theorem s135_174 : mm_wp d 135 174 [l0, l1, l2, l3, .int x, l5, l6, l7] st h Q ↔ mm_wp d 135 176 [l0, l1, l2, l3, .int x, l5, l6, l7] (.int x :: st) h Q := wp_iload rfl rfl
theorem s135_176 : mm_wp d 135 176 ls (.int x2 :: .int x :: .ref a :: st) h Q ↔ ((mm_s h a).1 = 20 ∧ ¬ a = 0 ∧ mm_in x (mm_s h a).2 = true) ∧ mm_wp d 135 177 ls st (mm_pi h a x.toNatClampNeg x2) Q := wp_iastore rfl
theorem s135_177 : mm_wp d 135 177 [.ref a, l1, l2, l3, l4, l5, l6, l7] st h Q ↔ mm_wp d 135 178 [.ref a, l1, l2, l3, l4, l5, l6, l7] (.ref a :: st) h Q := wp_aloadR_n rfl rfl
theorem s135_178 : mm_wp d 135 178 ls (.ref a :: st) h Q ↔ (mm_s h a).1 = 10 ∧ mm_wp d 135 181 ls (mm_o (mm_r h a 12) :: st) h Q := wp_getR rfl rfl
theorem s135_181 : mm_wp d 135 181 ls st h Q ↔ mm_wp d 135 182 ls (.int (3 : Int32) :: st) h Q := wp_iconst rfl rfl
theorem s135_182 : mm_wp d 135 182 [.ref a, l1, l2, l3, l4, l5, l6, l7] st h Q ↔ mm_wp d 135 183 [.ref a, l1, l2, l3, l4, l5, l6, l7] (.ref a :: st) h Q := wp_aloadR_n rfl rfl
theorem s135_183 : mm_wp d 135 183 ls (.ref a :: st) h Q ↔ (mm_s h a).1 = 10 ∧ mm_wp d 135 186 ls (.int (mm_i h a 8) :: st) h Q := wp_getI rfl rfl (by decide) (by decide)
theorem s135_186 : mm_wp d 135 186 ls (.int x2 :: .int x :: st) h Q ↔ mm_wp d 135 187 ls (.int (x * x2) :: st) h Q := wp_imul rfl
theorem s135_187 : mm_wp d 135 187 ls st h Q ↔ mm_wp d 135 188 ls (.int (2 : Int32) :: st) h Q := wp_iconst rfl rfl
theorem s135_188 : mm_wp d 135 188 ls (.int x2 :: .int x :: st) h Q ↔ mm_wp d 135 189 ls (.int (x + x2) :: st) h Q := wp_iadd rfl
theorem s135_189 : mm_wp d 135 189 [l0, l1, l2, l3, l4, .int x, l6, l7] st h Q ↔ mm_wp d 135 191 [l0, l1, l2, l3, l4, .int x, l6, l7] (.int x :: st) h Q := wp_iload rfl rfl
theorem s135_191 : mm_wp d 135 191 ls (.int x2 :: .int x :: .ref a :: st) h Q ↔ ((mm_s h a).1 = 20 ∧ ¬ a = 0 ∧ mm_in x (mm_s h a).2 = true) ∧ mm_wp d 135 192 ls st (mm_pi h a x.toNatClampNeg x2) Q := wp_iastore rfl
theorem s135_192 : mm_wp d 135 192 ls st h Q ↔ mm_wp d 135 193 ls (.int (0 : Int32) :: st) h Q := wp_iconst rfl rfl
theorem s135_193 : mm_wp d 135 193 [l0, l1, l2, l3, l4, l5, l6, l7] (.int x :: st) h Q ↔ mm_wp d 135 195 [l0, l1, l2, l3, l4, l5, .int x, l7] st h Q := wp_istore rfl rfl
theorem s135_195 : mm_wp d 135 195 [l0, l1, l2, l3, l4, l5, .int x, l7] st h Q ↔ mm_wp d 135 197 [l0, l1, l2, l3, l4, l5, .int x, l7] (.int x :: st) h Q := wp_iload rfl rfl
theorem s135_197 : mm_wp d 135 197 ls st h Q ↔ mm_wp d 135 198 ls (.int (3 : Int32) :: st) h Q := wp_iconst rfl rfl
theorem s135_198 : mm_wp d 135 198 ls (.int x2 :: .int x :: st) h Q ↔ if x2 ≤ x then mm_wp d 135 228 ls st h Q else mm_wp d 135 201 ls st h Q := wp_icmpge rfl rfl
theorem s135_201 : mm_wp d 135 201 [.ref a, l1, l2, l3, l4, l5, l6, l7] st h Q ↔ mm_wp d 135 202 [.ref a, l1, l2, l3, l4, l5, l6, l7] (.ref a :: st) h Q := wp_aloadR_n rfl rfl
theorem s135_202 : mm_wp d 135 202 ls (.ref a :: st) h Q ↔ (mm_s h a).1 = 10 ∧ mm_wp d 135 205 ls (mm_o (mm_r h a 11) :: st) h Q := wp_getR rfl rfl
theorem s135_205 : mm_wp d 135 205 ls st h Q ↔ mm_wp d 135 206 ls (.int (3 : Int32) :: st) h Q := wp_iconst rfl rfl
theorem s135_206 : mm_wp d 135 206 [.ref a, l1, l2, l3, l4, l5, l6, l7] st h Q ↔ mm_wp d 135 207 [.ref a, l1, l2, l3, l4, l5, l6, l7] (.ref a :: st) h Q := wp_aloadR_n rfl rfl
theorem s135_207 : mm_wp d 135 207 ls (.ref a :: st) h Q ↔ (mm_s h a).1 = 10 ∧ mm_wp d 135 210 ls (.int (mm_i h a 8) :: st) h Q := wp_getI rfl rfl (by decide) (by decide)
theorem s135_210 : mm_wp d 135 210 ls (.int x2 :: .int x :: st) h Q ↔ mm_wp d 135 211 ls (.int (x * x2) :: st) h Q := wp_imul rfl
theorem s135_211 : mm_wp d 135 211 [l0, l1, l2, l3, l4, l5, .int x, l7] st h Q ↔ mm_wp d 135 213 [l0, l1, l2, l3, l4, l5, .int x, l7] (.int x :: st) h Q := wp_iload rfl rfl
theorem s135_213 : mm_wp d 135 213 ls (.int x2 :: .int x :: st) h Q ↔ mm_wp d 135 214 ls (.int (x + x2) :: st) h Q := wp_iadd rfl
theorem s135_214 : mm_wp d 135 214 [.ref a, l1, l2, l3, l4, l5, l6, l7] st h Q ↔ mm_wp d 135 215 [.ref a, l1, l2, l3, l4, l5, l6, l7] (.ref a :: st) h Q := wp_aloadR_n rfl rfl
theorem s135_215 : mm_wp d 135 215 ls (.ref a :: st) h Q ↔ (mm_s h a).1 = 10 ∧ mm_wp d 135 218 ls (mm_o (mm_r h a 33) :: st) h Q := wp_getR rfl rfl
theorem s135_218 : mm_wp d 135 218 [l0, l1, l2, l3, l4, l5, .int x, l7] st h Q ↔ mm_wp d 135 220 [l0, l1, l2, l3, l4, l5, .int x, l7] (.int x :: st) h Q := wp_iload rfl rfl
theorem s135_220 : mm_wp d 135 220 ls (.int x :: .ref a :: st) h Q ↔ ((mm_s h a).1 = 20 ∧ mm_in x (mm_s h a).2 = true) ∧ mm_wp d 135 221 ls (.int (mm_i h a x.toNatClampNeg) :: st) h Q := wp_iaload rfl
theorem s135_221 : mm_wp d 135 221 ls (.int x2 :: .int x :: .ref a :: st) h Q ↔ ((mm_s h a).1 = 20 ∧ ¬ a = 0 ∧ mm_in x (mm_s h a).2 = true) ∧ mm_wp d 135 222 ls st (mm_pi h a x.toNatClampNeg x2) Q := wp_iastore rfl
theorem s135_222 : mm_wp d 135 222 [l0, l1, l2, l3, l4, l5, .int x, l7] st h Q ↔ mm_wp d 135 225 [l0, l1, l2, l3, l4, l5, .int (x + (1 : Int32)), l7] st h Q := wp_iinc rfl rfl rfl rfl
theorem s135_225 : mm_wp d 135 225 ls st h Q ↔ mm_wp d 135 195 ls st h Q := wp_goto rfl rfl
theorem s135_228 : mm_wp d 135 228 [.ref a, l1, l2, l3, l4, l5, l6, l7] st h Q ↔ mm_wp d 135 229 [.ref a, l1, l2, l3, l4, l5, l6, l7] (.ref a :: st) h Q := wp_aloadR_n rfl rfl
theorem s135_229 : mm_wp d 135 229 ls (.ref a :: st) h Q ↔ mm_wp d 135 230 ls (.ref a :: .ref a :: st) h Q := wp_dupR rfl
theorem s135_230 : mm_wp d 135 230 ls (.ref a :: st) h Q ↔ (mm_s h a).1 = 10 ∧ mm_wp d 135 233 ls (.int (mm_i h a 8) :: st) h Q := wp_getI rfl rfl (by decide) (by decide)
theorem s135_233 : mm_wp d 135 233 ls st h Q ↔ mm_wp d 135 234 ls (.int (1 : Int32) :: st) h Q := wp_iconst rfl rfl
theorem s135_234 : mm_wp d 135 234 ls (.int x2 :: .int x :: st) h Q ↔ mm_wp d 135 235 ls (.int (x + x2) :: st) h Q := wp_iadd rfl
theorem s135_235 : mm_wp d 135 235 ls (.int x :: .ref a :: st) h Q ↔ (mm_s h a).1 = 10 ∧ mm_wp d 135 238 ls st (mm_pi h a 8 x) Q := wp_putI rfl rfl
theorem s135_238 : mm_wp d 135 238 ls st h Q ↔ Q (.inl none) h := wp_vret rfl rfl
/-! 136: LoadRoomModel.compare()V -/
theorem s136_0 : mm_wp d 136 0 ls st h Q ↔ mm_wp d 136 1 ls (.long (0 : Int64) :: st) h Q := wp_lconst rfl rfl
theorem s136_1 : mm_wp d 136 1 [l0, l1, l2, l3, l4, l5] (.long w :: st) h Q ↔ mm_wp d 136 2 [l0, .long w, mm_j, l3, l4, l5] st h Q := wp_lstore_n rfl rfl
theorem s136_2 : mm_wp d 136 2 ls st h Q ↔ mm_wp d 136 3 ls (.long (0 : Int64) :: st) h Q := wp_lconst rfl rfl
theorem s136_3 : mm_wp d 136 3 [l0, l1, l2, l3, l4, l5] (.long w :: st) h Q ↔ mm_wp d 136 4 [l0, l1, l2, .long w, mm_j, l5] st h Q := wp_lstore_n rfl rfl
theorem s136_4 : mm_wp d 136 4 ls st h Q ↔ mm_wp d 136 5 ls (.int (0 : Int32) :: st) h Q := wp_iconst rfl rfl
theorem s136_5 : mm_wp d 136 5 [l0, l1, l2, l3, l4, l5] (.int x :: st) h Q ↔ mm_wp d 136 7 [l0, l1, l2, l3, l4, .int x] st h Q := wp_istore rfl rfl
theorem s136_7 : mm_wp d 136 7 [l0, l1, l2, l3, l4, .int x] st h Q ↔ mm_wp d 136 9 [l0, l1, l2, l3, l4, .int x] (.int x :: st) h Q := wp_iload rfl rfl
theorem s136_9 : mm_wp d 136 9 [.ref a, l1, l2, l3, l4, l5] st h Q ↔ mm_wp d 136 10 [.ref a, l1, l2, l3, l4, l5] (.ref a :: st) h Q := wp_aloadR_n rfl rfl
theorem s136_10 : mm_wp d 136 10 ls (.ref a :: st) h Q ↔ (mm_s h a).1 = 10 ∧ mm_wp d 136 13 ls (.int (mm_i h a 8) :: st) h Q := wp_getI rfl rfl (by decide) (by decide)
theorem s136_13 : mm_wp d 136 13 ls (.int x2 :: .int x :: st) h Q ↔ if x2 ≤ x then mm_wp d 136 80 ls st h Q else mm_wp d 136 16 ls st h Q := wp_icmpge rfl rfl
theorem s136_16 : mm_wp d 136 16 [l0, .long w, l2, l3, l4, l5] st h Q ↔ mm_wp d 136 17 [l0, .long w, l2, l3, l4, l5] (.long w :: st) h Q := wp_lload_n rfl rfl
theorem s136_17 : mm_wp d 136 17 [.ref a, l1, l2, l3, l4, l5] st h Q ↔ mm_wp d 136 18 [.ref a, l1, l2, l3, l4, l5] (.ref a :: st) h Q := wp_aloadR_n rfl rfl
theorem s136_18 : mm_wp d 136 18 [.ref a, l1, l2, l3, l4, l5] st h Q ↔ mm_wp d 136 19 [.ref a, l1, l2, l3, l4, l5] (.ref a :: st) h Q := wp_aloadR_n rfl rfl
theorem s136_19 : mm_wp d 136 19 ls (.ref a :: st) h Q ↔ (mm_s h a).1 = 10 ∧ mm_wp d 136 22 ls (mm_o (mm_r h a 9) :: st) h Q := wp_getR rfl rfl
theorem s136_22 : mm_wp d 136 22 [l0, l1, l2, l3, l4, .int x] st h Q ↔ mm_wp d 136 24 [l0, l1, l2, l3, l4, .int x] (.int x :: st) h Q := wp_iload rfl rfl
theorem s136_24 : mm_wp d 136 24 ls (.int x :: .ref a :: st) h Q ↔ ((mm_s h a).1 = 20 ∧ mm_in x (mm_s h a).2 = true) ∧ mm_wp d 136 25 ls (.int (mm_i h a x.toNatClampNeg) :: st) h Q := wp_iaload rfl
theorem s136_25 : mm_wp (d + 1) 136 25 ls [.int x2, .ref a, t0] h Q ↔ (mm_s h a).1 = 10 ∧ mm_wp d 125 0 [.ref a, .int x2] [] h (mm_bk (d + 1) 136 25 ls [t0] Q) := wp_virtual rfl rfl ⟨by decide, rfl⟩ ⟨Nat.le_of_ble_eq_true rfl, Nat.le_of_ble_eq_true rfl⟩ rfl rfl rfl rfl rfl rfl
theorem s136_28 : mm_wp d 136 28 ls (.int x :: st) h Q ↔ mm_wp d 136 29 ls (.long x.toInt64 :: st) h Q := wp_i2l rfl
theorem s136_29 : mm_wp d 136 29 ls (.long w2 :: .long w :: st) h Q ↔ mm_wp d 136 30 ls (.long (w + w2) :: st) h Q := wp_ladd rfl
theorem s136_30 : mm_wp d 136 30 [l0, l1, l2, l3, l4, l5] (.long w :: st) h Q ↔ mm_wp d 136 31 [l0, .long w, mm_j, l3, l4, l5] st h Q := wp_lstore_n rfl rfl
theorem s136_31 : mm_wp d 136 31 [l0, l1, l2, .long w, l4, l5] st h Q ↔ mm_wp d 136 32 [l0, l1, l2, .long w, l4, l5] (.long w :: st) h Q := wp_lload_n rfl rfl
theorem s136_32 : mm_wp d 136 32 [.ref a, l1, l2, l3, l4, l5] st h Q ↔ mm_wp d 136 33 [.ref a, l1, l2, l3, l4, l5] (.ref a :: st) h Q := wp_aloadR_n rfl rfl
theorem s136_33 : mm_wp d 136 33 ls (.ref a :: st) h Q ↔ (mm_s h a).1 = 10 ∧ mm_wp d 136 36 ls (mm_o (mm_r h a 4) :: st) h Q := wp_getR rfl rfl
theorem s136_36 : mm_wp d 136 36 [.ref a, l1, l2, l3, l4, l5] st h Q ↔ mm_wp d 136 37 [.ref a, l1, l2, l3, l4, l5] (.ref a :: st) h Q := wp_aloadR_n rfl rfl
theorem s136_37 : mm_wp d 136 37 ls (.ref a :: st) h Q ↔ (mm_s h a).1 = 10 ∧ mm_wp d 136 40 ls (mm_o (mm_r h a 9) :: st) h Q := wp_getR rfl rfl
theorem s136_40 : mm_wp d 136 40 [l0, l1, l2, l3, l4, .int x] st h Q ↔ mm_wp d 136 42 [l0, l1, l2, l3, l4, .int x] (.int x :: st) h Q := wp_iload rfl rfl
theorem s136_42 : mm_wp d 136 42 ls (.int x :: .ref a :: st) h Q ↔ ((mm_s h a).1 = 20 ∧ mm_in x (mm_s h a).2 = true) ∧ mm_wp d 136 43 ls (.int (mm_i h a x.toNatClampNeg) :: st) h Q := wp_iaload rfl
theorem s136_43 : mm_wp d 136 43 ls (.int x :: .ref a :: st) h Q ↔ ((mm_s h a).1 = 20 ∧ mm_in x (mm_s h a).2 = true) ∧ mm_wp d 136 44 ls (.int (mm_i h a x.toNatClampNeg) :: st) h Q := wp_iaload rfl
theorem s136_44 : mm_wp d 136 44 ls (.int x :: st) h Q ↔ mm_wp d 136 45 ls (.long x.toInt64 :: st) h Q := wp_i2l rfl
theorem s136_45 : mm_wp d 136 45 ls st h Q ↔ mm_wp d 136 46 ls (.int (2 : Int32) :: st) h Q := wp_iconst rfl rfl
theorem s136_46 : mm_wp d 136 46 [.ref a, l1, l2, l3, l4, l5] st h Q ↔ mm_wp d 136 47 [.ref a, l1, l2, l3, l4, l5] (.ref a :: st) h Q := wp_aloadR_n rfl rfl
theorem s136_47 : mm_wp d 136 47 ls (.ref a :: st) h Q ↔ (mm_s h a).1 = 10 ∧ mm_wp d 136 50 ls (mm_o (mm_r h a 12) :: st) h Q := wp_getR rfl rfl
theorem s136_50 : mm_wp d 136 50 ls st h Q ↔ mm_wp d 136 51 ls (.int (3 : Int32) :: st) h Q := wp_iconst rfl rfl
theorem s136_51 : mm_wp d 136 51 [l0, l1, l2, l3, l4, .int x] st h Q ↔ mm_wp d 136 53 [l0, l1, l2, l3, l4, .int x] (.int x :: st) h Q := wp_iload rfl rfl
theorem s136_53 : mm_wp d 136 53 ls (.int x2 :: .int x :: st) h Q ↔ mm_wp d 136 54 ls (.int (x * x2) :: st) h Q := wp_imul rfl
theorem s136_54 : mm_wp d 136 54 ls st h Q ↔ mm_wp d 136 55 ls (.int (1 : Int32) :: st) h Q := wp_iconst rfl rfl
theorem s136_55 : mm_wp d 136 55 ls (.int x2 :: .int x :: st) h Q ↔ mm_wp d 136 56 ls (.int (x + x2) :: st) h Q := wp_iadd rfl
theorem s136_56 : mm_wp d 136 56 ls (.int x :: .ref a :: st) h Q ↔ ((mm_s h a).1 = 20 ∧ mm_in x (mm_s h a).2 = true) ∧ mm_wp d 136 57 ls (.int (mm_i h a x.toNatClampNeg) :: st) h Q := wp_iaload rfl
theorem s136_57 : mm_wp d 136 57 ls (.int x2 :: .int x :: st) h Q ↔ mm_wp d 136 58 ls (.int (x * x2) :: st) h Q := wp_imul rfl
theorem s136_58 : mm_wp d 136 58 [.ref a, l1, l2, l3, l4, l5] st h Q ↔ mm_wp d 136 59 [.ref a, l1, l2, l3, l4, l5] (.ref a :: st) h Q := wp_aloadR_n rfl rfl
theorem s136_59 : mm_wp d 136 59 ls (.ref a :: st) h Q ↔ (mm_s h a).1 = 10 ∧ mm_wp d 136 62 ls (mm_o (mm_r h a 11) :: st) h Q := wp_getR rfl rfl
theorem s136_62 : mm_wp d 136 62 ls st h Q ↔ mm_wp d 136 63 ls (.int (3 : Int32) :: st) h Q := wp_iconst rfl rfl
theorem s136_63 : mm_wp d 136 63 [l0, l1, l2, l3, l4, .int x] st h Q ↔ mm_wp d 136 65 [l0, l1, l2, l3, l4, .int x] (.int x :: st) h Q := wp_iload rfl rfl
theorem s136_65 : mm_wp d 136 65 ls (.int x2 :: .int x :: st) h Q ↔ mm_wp d 136 66 ls (.int (x * x2) :: st) h Q := wp_imul rfl
theorem s136_66 : mm_wp d 136 66 ls st h Q ↔ mm_wp d 136 67 ls (.int (1 : Int32) :: st) h Q := wp_iconst rfl rfl
theorem s136_67 : mm_wp d 136 67 ls (.int x2 :: .int x :: st) h Q ↔ mm_wp d 136 68 ls (.int (x + x2) :: st) h Q := wp_iadd rfl
theorem s136_68 : mm_wp d 136 68 ls (.int x :: .ref a :: st) h Q ↔ ((mm_s h a).1 = 20 ∧ mm_in x (mm_s h a).2 = true) ∧ mm_wp d 136 69 ls (.int (mm_i h a x.toNatClampNeg) :: st) h Q := wp_iaload rfl
theorem s136_69 : mm_wp d 136 69 ls (.int x2 :: .int x :: st) h Q ↔ mm_wp d 136 70 ls (.int (x + x2) :: st) h Q := wp_iadd rfl
theorem s136_70 : mm_wp d 136 70 ls (.int x :: st) h Q ↔ mm_wp d 136 71 ls (.long x.toInt64 :: st) h Q := wp_i2l rfl
theorem s136_71 : mm_wp d 136 71 ls (.long w2 :: .long w :: st) h Q ↔ mm_wp d 136 72 ls (.long (w * w2) :: st) h Q := wp_lmul rfl
theorem s136_72 : mm_wp d 136 72 ls (.long w2 :: .long w :: st) h Q ↔ mm_wp d 136 73 ls (.long (w + w2) :: st) h Q := wp_ladd rfl
theorem s136_73 : mm_wp d 136 73 [l0, l1, l2, l3, l4, l5] (.long w :: st) h Q ↔ mm_wp d 136 74 [l0, l1, l2, .long w, mm_j, l5] st h Q := wp_lstore_n rfl rfl
theorem s136_74 : mm_wp d 136 74 [l0, l1, l2, l3, l4, .int x] st h Q ↔ mm_wp d 136 77 [l0, l1, l2, l3, l4, .int (x + (1 : Int32))] st h Q := wp_iinc rfl rfl rfl rfl
theorem s136_77 : mm_wp d 136 77 ls st h Q ↔ mm_wp d 136 7 ls st h Q := wp_goto rfl rfl
theorem s136_80 : mm_wp d 136 80 [l0, .long w, l2, l3, l4, l5] st h Q ↔ mm_wp d 136 81 [l0, .long w, l2, l3, l4, l5] (.long w :: st) h Q := wp_lload_n rfl rfl
theorem s136_81 : mm_wp d 136 81 [.ref a, l1, l2, l3, l4, l5] st h Q ↔ mm_wp d 136 82 [.ref a, l1, l2, l3, l4, l5] (.ref a :: st) h Q := wp_aloadR_n rfl rfl
theorem s136_82 : mm_wp d 136 82 ls (.ref a :: st) h Q ↔ (mm_s h a).1 = 10 ∧ mm_wp d 136 85 ls (.long (mm_l h a 24) :: st) h Q := wp_getL rfl rfl
theorem s136_85 : mm_wp d 136 85 ls (.long w2 :: .long w :: st) h Q ↔ mm_wp d 136 86 ls (.int (if w2 < w then 1 else if w = w2 then 0 else -1) :: st) h Q := wp_lcmp rfl
theorem s136_86 : mm_wp d 136 86 ls (.int x :: st) h Q ↔ if x < 0 then mm_wp d 136 107 ls st h Q else mm_wp d 136 89 ls st h Q := wp_iflt rfl rfl
theorem s136_89 : mm_wp d 136 89 [l0, .long w, l2, l3, l4, l5] st h Q ↔ mm_wp d 136 90 [l0, .long w, l2, l3, l4, l5] (.long w :: st) h Q := wp_lload_n rfl rfl
theorem s136_90 : mm_wp d 136 90 [.ref a, l1, l2, l3, l4, l5] st h Q ↔ mm_wp d 136 91 [.ref a, l1, l2, l3, l4, l5] (.ref a :: st) h Q := wp_aloadR_n rfl rfl
theorem s136_91 : mm_wp d 136 91 ls (.ref a :: st) h Q ↔ (mm_s h a).1 = 10 ∧ mm_wp d 136 94 ls (.long (mm_l h a 24) :: st) h Q := wp_getL rfl rfl
theorem s136_94 : mm_wp d 136 94 ls (.long w2 :: .long w :: st) h Q ↔ mm_wp d 136 95 ls (.int (if w2 < w then 1 else if w = w2 then 0 else -1) :: st) h Q := wp_lcmp rfl
theorem s136_95 : mm_wp d 136 95 ls (.int x :: st) h Q ↔ if x = 0 then mm_wp d 136 98 ls st h Q else mm_wp d 136 108 ls st h Q := wp_ifne rfl rfl
theorem s136_98 : mm_wp d 136 98 [l0, l1, l2, .long w, l4, l5] st h Q ↔ mm_wp d 136 99 [l0, l1, l2, .long w, l4, l5] (.long w :: st) h Q := wp_lload_n rfl rfl
theorem s136_99 : mm_wp d 136 99 [.ref a, l1, l2, l3, l4, l5] st h Q ↔ mm_wp d 136 100 [.ref a, l1, l2, l3, l4, l5] (.ref a :: st) h Q := wp_aloadR_n rfl rfl
theorem s136_100 : mm_wp d 136 100 ls (.ref a :: st) h Q ↔ (mm_s h a).1 = 10 ∧ mm_wp d 136 103 ls (.long (mm_l h a 25) :: st) h Q := wp_getL rfl rfl
theorem s136_103 : mm_wp d 136 103 ls (.long w2 :: .long w :: st) h Q ↔ mm_wp d 136 104 ls (.int (if w2 < w then 1 else if w = w2 then 0 else -1) :: st) h Q := wp_lcmp rfl
theorem s136_104 : mm_wp d 136 104 ls (.int x :: st) h Q ↔ if x < 0 then mm_wp d 136 108 ls st h Q else mm_wp d 136 107 ls st h Q := wp_iflt rfl rfl
theorem s136_107 : mm_wp d 136 107 ls st h Q ↔ Q (.inl none) h := wp_vret rfl rfl
theorem s136_108 : mm_wp d 136 108 [.ref a, l1, l2, l3, l4, l5] st h Q ↔ mm_wp d 136 109 [.ref a, l1, l2, l3, l4, l5] (.ref a :: st) h Q := wp_aloadR_n rfl rfl
theorem s136_109 : mm_wp d 136 109 [l0, .long w, l2, l3, l4, l5] st h Q ↔ mm_wp d 136 110 [l0, .long w, l2, l3, l4, l5] (.long w :: st) h Q := wp_lload_n rfl rfl
theorem s136_110 : mm_wp d 136 110 ls (.long w :: .ref a :: st) h Q ↔ (mm_s h a).1 = 10 ∧ mm_wp d 136 113 ls st (mm_pl h a 24 w) Q := wp_putL rfl rfl
theorem s136_113 : mm_wp d 136 113 [.ref a, l1, l2, l3, l4, l5] st h Q ↔ mm_wp d 136 114 [.ref a, l1, l2, l3, l4, l5] (.ref a :: st) h Q := wp_aloadR_n rfl rfl
theorem s136_114 : mm_wp d 136 114 [l0, l1, l2, .long w, l4, l5] st h Q ↔ mm_wp d 136 115 [l0, l1, l2, .long w, l4, l5] (.long w :: st) h Q := wp_lload_n rfl rfl
theorem s136_115 : mm_wp d 136 115 ls (.long w :: .ref a :: st) h Q ↔ (mm_s h a).1 = 10 ∧ mm_wp d 136 118 ls st (mm_pl h a 25 w) Q := wp_putL rfl rfl
theorem s136_118 : mm_wp d 136 118 [.ref a, l1, l2, l3, l4, l5] st h Q ↔ mm_wp d 136 119 [.ref a, l1, l2, l3, l4, l5] (.ref a :: st) h Q := wp_aloadR_n rfl rfl
theorem s136_119 : mm_wp d 136 119 [.ref a, l1, l2, l3, l4, l5] st h Q ↔ mm_wp d 136 120 [.ref a, l1, l2, l3, l4, l5] (.ref a :: st) h Q := wp_aloadR_n rfl rfl
theorem s136_120 : mm_wp d 136 120 ls (.ref a :: st) h Q ↔ (mm_s h a).1 = 10 ∧ mm_wp d 136 123 ls (.int (mm_i h a 8) :: st) h Q := wp_getI rfl rfl (by decide) (by decide)
theorem s136_123 : mm_wp d 136 123 ls (.int x :: .ref a :: st) h Q ↔ (mm_s h a).1 = 10 ∧ mm_wp d 136 126 ls st (mm_pi h a 23 x) Q := wp_putI rfl rfl
theorem s136_126 : mm_wp d 136 126 ls st h Q ↔ mm_wp d 136 127 ls (.int (0 : Int32) :: st) h Q := wp_iconst rfl rfl
theorem s136_127 : mm_wp d 136 127 [l0, l1, l2, l3, l4, l5] (.int x :: st) h Q ↔ mm_wp d 136 129 [l0, l1, l2, l3, l4, .int x] st h Q := wp_istore rfl rfl
theorem s136_129 : mm_wp d 136 129 [l0, l1, l2, l3, l4, .int x] st h Q ↔ mm_wp d 136 131 [l0, l1, l2, l3, l4, .int x] (.int x :: st) h Q := wp_iload rfl rfl
theorem s136_131 : mm_wp d 136 131 [.ref a, l1, l2, l3, l4, l5] st h Q ↔ mm_wp d 136 132 [.ref a, l1, l2, l3, l4, l5] (.ref a :: st) h Q := wp_aloadR_n rfl rfl
theorem s136_132 : mm_wp d 136 132 ls (.ref a :: st) h Q ↔ (mm_s h a).1 = 10 ∧ mm_wp d 136 135 ls (.int (mm_i h a 8) :: st) h Q := wp_getI rfl rfl (by decide) (by decide)
theorem s136_135 : mm_wp d 136 135 ls (.int x2 :: .int x :: st) h Q ↔ if x2 ≤ x then mm_wp d 136 186 ls st h Q else mm_wp d 136 138 ls st h Q := wp_icmpge rfl rfl
theorem s136_138 : mm_wp d 136 138 [.ref a, l1, l2, l3, l4, l5] st h Q ↔ mm_wp d 136 139 [.ref a, l1, l2, l3, l4, l5] (.ref a :: st) h Q := wp_aloadR_n rfl rfl
theorem s136_139 : mm_wp d 136 139 ls (.ref a :: st) h Q ↔ (mm_s h a).1 = 10 ∧ mm_wp d 136 142 ls (mm_o (mm_r h a 26) :: st) h Q := wp_getR rfl rfl
theorem s136_142 : mm_wp d 136 142 [l0, l1, l2, l3, l4, .int x] st h Q ↔ mm_wp d 136 144 [l0, l1, l2, l3, l4, .int x] (.int x :: st) h Q := wp_iload rfl rfl
theorem s136_144 : mm_wp d 136 144 [.ref a, l1, l2, l3, l4, l5] st h Q ↔ mm_wp d 136 145 [.ref a, l1, l2, l3, l4, l5] (.ref a :: st) h Q := wp_aloadR_n rfl rfl
theorem s136_145 : mm_wp d 136 145 ls (.ref a :: st) h Q ↔ (mm_s h a).1 = 10 ∧ mm_wp d 136 148 ls (mm_o (mm_r h a 9) :: st) h Q := wp_getR rfl rfl
theorem s136_148 : mm_wp d 136 148 [l0, l1, l2, l3, l4, .int x] st h Q ↔ mm_wp d 136 150 [l0, l1, l2, l3, l4, .int x] (.int x :: st) h Q := wp_iload rfl rfl
theorem s136_150 : mm_wp d 136 150 ls (.int x :: .ref a :: st) h Q ↔ ((mm_s h a).1 = 20 ∧ mm_in x (mm_s h a).2 = true) ∧ mm_wp d 136 151 ls (.int (mm_i h a x.toNatClampNeg) :: st) h Q := wp_iaload rfl
theorem s136_151 : mm_wp d 136 151 ls (.int x2 :: .int x :: .ref a :: st) h Q ↔ ((mm_s h a).1 = 20 ∧ ¬ a = 0 ∧ mm_in x (mm_s h a).2 = true) ∧ mm_wp d 136 152 ls st (mm_pi h a x.toNatClampNeg x2) Q := wp_iastore rfl
theorem s136_152 : mm_wp d 136 152 [.ref a, l1, l2, l3, l4, l5] st h Q ↔ mm_wp d 136 153 [.ref a, l1, l2, l3, l4, l5] (.ref a :: st) h Q := wp_aloadR_n rfl rfl
theorem s136_153 : mm_wp d 136 153 ls (.ref a :: st) h Q ↔ (mm_s h a).1 = 10 ∧ mm_wp d 136 156 ls (mm_o (mm_r h a 27) :: st) h Q := wp_getR rfl rfl
theorem s136_156 : mm_wp d 136 156 [l0, l1, l2, l3, l4, .int x] st h Q ↔ mm_wp d 136 158 [l0, l1, l2, l3, l4, .int x] (.int x :: st) h Q := wp_iload rfl rfl
theorem s136_158 : mm_wp d 136 158 [.ref a, l1, l2, l3, l4, l5] st h Q ↔ mm_wp d 136 159 [.ref a, l1, l2, l3, l4, l5] (.ref a :: st) h Q := wp_aloadR_n rfl rfl
theorem s136_159 : mm_wp d 136 159 ls (.ref a :: st) h Q ↔ (mm_s h a).1 = 10 ∧ mm_wp d 136 162 ls (mm_o (mm_r h a 10) :: st) h Q := wp_getR rfl rfl
theorem s136_162 : mm_wp d 136 162 [l0, l1, l2, l3, l4, .int x] st h Q ↔ mm_wp d 136 164 [l0, l1, l2, l3, l4, .int x] (.int x :: st) h Q := wp_iload rfl rfl
theorem s136_164 : mm_wp d 136 164 ls (.int x :: .ref a :: st) h Q ↔ ((mm_s h a).1 = 20 ∧ mm_in x (mm_s h a).2 = true) ∧ mm_wp d 136 165 ls (.int (mm_i h a x.toNatClampNeg) :: st) h Q := wp_iaload rfl
theorem s136_165 : mm_wp d 136 165 ls (.int x2 :: .int x :: .ref a :: st) h Q ↔ ((mm_s h a).1 = 20 ∧ ¬ a = 0 ∧ mm_in x (mm_s h a).2 = true) ∧ mm_wp d 136 166 ls st (mm_pi h a x.toNatClampNeg x2) Q := wp_iastore rfl
theorem s136_166 : mm_wp d 136 166 [.ref a, l1, l2, l3, l4, l5] st h Q ↔ mm_wp d 136 167 [.ref a, l1, l2, l3, l4, l5] (.ref a :: st) h Q := wp_aloadR_n rfl rfl
theorem s136_167 : mm_wp d 136 167 ls (.ref a :: st) h Q ↔ (mm_s h a).1 = 10 ∧ mm_wp d 136 170 ls (mm_o (mm_r h a 30) :: st) h Q := wp_getR rfl rfl
theorem s136_170 : mm_wp d 136 170 [l0, l1, l2, l3, l4, .int x] st h Q ↔ mm_wp d 136 172 [l0, l1, l2, l3, l4, .int x] (.int x :: st) h Q := wp_iload rfl rfl
theorem s136_172 : mm_wp d 136 172 [.ref a, l1, l2, l3, l4, l5] st h Q ↔ mm_wp d 136 173 [.ref a, l1, l2, l3, l4, l5] (.ref a :: st) h Q := wp_aloadR_n rfl rfl
theorem s136_173 : mm_wp d 136 173 ls (.ref a :: st) h Q ↔ (mm_s h a).1 = 10 ∧ mm_wp d 136 176 ls (mm_o (mm_r h a 13) :: st) h Q := wp_getR rfl rfl
theorem s136_176 : mm_wp d 136 176 [l0, l1, l2, l3, l4, .int x] st h Q ↔ mm_wp d 136 178 [l0, l1, l2, l3, l4, .int x] (.int x :: st) h Q := wp_iload rfl rfl
theorem s136_178 : mm_wp d 136 178 ls (.int x :: .ref a :: st) h Q ↔ ((mm_s h a).1 = 20 ∧ mm_in x (mm_s h a).2 = true) ∧ mm_wp d 136 179 ls (.int (mm_i h a x.toNatClampNeg) :: st) h Q := wp_iaload rfl
theorem s136_179 : mm_wp d 136 179 ls (.int x2 :: .int x :: .ref a :: st) h Q ↔ ((mm_s h a).1 = 20 ∧ ¬ a = 0 ∧ mm_in x (mm_s h a).2 = true) ∧ mm_wp d 136 180 ls st (mm_pi h a x.toNatClampNeg x2) Q := wp_iastore rfl
theorem s136_180 : mm_wp d 136 180 [l0, l1, l2, l3, l4, .int x] st h Q ↔ mm_wp d 136 183 [l0, l1, l2, l3, l4, .int (x + (1 : Int32))] st h Q := wp_iinc rfl rfl rfl rfl
theorem s136_183 : mm_wp d 136 183 ls st h Q ↔ mm_wp d 136 129 ls st h Q := wp_goto rfl rfl
theorem s136_186 : mm_wp d 136 186 ls st h Q ↔ mm_wp d 136 187 ls (.int (0 : Int32) :: st) h Q := wp_iconst rfl rfl
theorem s136_187 : mm_wp d 136 187 [l0, l1, l2, l3, l4, l5] (.int x :: st) h Q ↔ mm_wp d 136 189 [l0, l1, l2, l3, l4, .int x] st h Q := wp_istore rfl rfl
theorem s136_189 : mm_wp d 136 189 [l0, l1, l2, l3, l4, .int x] st h Q ↔ mm_wp d 136 191 [l0, l1, l2, l3, l4, .int x] (.int x :: st) h Q := wp_iload rfl rfl
theorem s136_191 : mm_wp d 136 191 ls st h Q ↔ mm_wp d 136 192 ls (.int (3 : Int32) :: st) h Q := wp_iconst rfl rfl
theorem s136_192 : mm_wp d 136 192 [.ref a, l1, l2, l3, l4, l5] st h Q ↔ mm_wp d 136 193 [.ref a, l1, l2, l3, l4, l5] (.ref a :: st) h Q := wp_aloadR_n rfl rfl
theorem s136_193 : mm_wp d 136 193 ls (.ref a :: st) h Q ↔ (mm_s h a).1 = 10 ∧ mm_wp d 136 196 ls (.int (mm_i h a 8) :: st) h Q := wp_getI rfl rfl (by decide) (by decide)
theorem s136_196 : mm_wp d 136 196 ls (.int x2 :: .int x :: st) h Q ↔ mm_wp d 136 197 ls (.int (x * x2) :: st) h Q := wp_imul rfl
theorem s136_197 : mm_wp d 136 197 ls (.int x2 :: .int x :: st) h Q ↔ if x2 ≤ x then mm_wp d 136 234 ls st h Q else mm_wp d 136 200 ls st h Q := wp_icmpge rfl rfl
theorem s136_200 : mm_wp d 136 200 [.ref a, l1, l2, l3, l4, l5] st h Q ↔ mm_wp d 136 201 [.ref a, l1, l2, l3, l4, l5] (.ref a :: st) h Q := wp_aloadR_n rfl rfl
theorem s136_201 : mm_wp d 136 201 ls (.ref a :: st) h Q ↔ (mm_s h a).1 = 10 ∧ mm_wp d 136 204 ls (mm_o (mm_r h a 28) :: st) h Q := wp_getR rfl rfl
theorem s136_204 : mm_wp d 136 204 [l0, l1, l2, l3, l4, .int x] st h Q ↔ mm_wp d 136 206 [l0, l1, l2, l3, l4, .int x] (.int x :: st) h Q := wp_iload rfl rfl
theorem s136_206 : mm_wp d 136 206 [.ref a, l1, l2, l3, l4, l5] st h Q ↔ mm_wp d 136 207 [.ref a, l1, l2, l3, l4, l5] (.ref a :: st) h Q := wp_aloadR_n rfl rfl
theorem s136_207 : mm_wp d 136 207 ls (.ref a :: st) h Q ↔ (mm_s h a).1 = 10 ∧ mm_wp d 136 210 ls (mm_o (mm_r h a 11) :: st) h Q := wp_getR rfl rfl
theorem s136_210 : mm_wp d 136 210 [l0, l1, l2, l3, l4, .int x] st h Q ↔ mm_wp d 136 212 [l0, l1, l2, l3, l4, .int x] (.int x :: st) h Q := wp_iload rfl rfl
theorem s136_212 : mm_wp d 136 212 ls (.int x :: .ref a :: st) h Q ↔ ((mm_s h a).1 = 20 ∧ mm_in x (mm_s h a).2 = true) ∧ mm_wp d 136 213 ls (.int (mm_i h a x.toNatClampNeg) :: st) h Q := wp_iaload rfl
theorem s136_213 : mm_wp d 136 213 ls (.int x2 :: .int x :: .ref a :: st) h Q ↔ ((mm_s h a).1 = 20 ∧ ¬ a = 0 ∧ mm_in x (mm_s h a).2 = true) ∧ mm_wp d 136 214 ls st (mm_pi h a x.toNatClampNeg x2) Q := wp_iastore rfl
theorem s136_214 : mm_wp d 136 214 [.ref a, l1, l2, l3, l4, l5] st h Q ↔ mm_wp d 136 215 [.ref a, l1, l2, l3, l4, l5] (.ref a :: st) h Q := wp_aloadR_n rfl rfl
theorem s136_215 : mm_wp d 136 215 ls (.ref a :: st) h Q ↔ (mm_s h a).1 = 10 ∧ mm_wp d 136 218 ls (mm_o (mm_r h a 29) :: st) h Q := wp_getR rfl rfl
theorem s136_218 : mm_wp d 136 218 [l0, l1, l2, l3, l4, .int x] st h Q ↔ mm_wp d 136 220 [l0, l1, l2, l3, l4, .int x] (.int x :: st) h Q := wp_iload rfl rfl
theorem s136_220 : mm_wp d 136 220 [.ref a, l1, l2, l3, l4, l5] st h Q ↔ mm_wp d 136 221 [.ref a, l1, l2, l3, l4, l5] (.ref a :: st) h Q := wp_aloadR_n rfl rfl
theorem s136_221 : mm_wp d 136 221 ls (.ref a :: st) h Q ↔ (mm_s h a).1 = 10 ∧ mm_wp d 136 224 ls (mm_o (mm_r h a 12) :: st) h Q := wp_getR rfl rfl
theorem s136_224 : mm_wp d 136 224 [l0, l1, l2, l3, l4, .int x] st h Q ↔ mm_wp d 136 226 [l0, l1, l2, l3, l4, .int x] (.int x :: st) h Q := wp_iload rfl rfl
theorem s136_226 : mm_wp d 136 226 ls (.int x :: .ref a :: st) h Q ↔ ((mm_s h a).1 = 20 ∧ mm_in x (mm_s h a).2 = true) ∧ mm_wp d 136 227 ls (.int (mm_i h a x.toNatClampNeg) :: st) h Q := wp_iaload rfl
theorem s136_227 : mm_wp d 136 227 ls (.int x2 :: .int x :: .ref a :: st) h Q ↔ ((mm_s h a).1 = 20 ∧ ¬ a = 0 ∧ mm_in x (mm_s h a).2 = true) ∧ mm_wp d 136 228 ls st (mm_pi h a x.toNatClampNeg x2) Q := wp_iastore rfl
theorem s136_228 : mm_wp d 136 228 [l0, l1, l2, l3, l4, .int x] st h Q ↔ mm_wp d 136 231 [l0, l1, l2, l3, l4, .int (x + (1 : Int32))] st h Q := wp_iinc rfl rfl rfl rfl
theorem s136_231 : mm_wp d 136 231 ls st h Q ↔ mm_wp d 136 189 ls st h Q := wp_goto rfl rfl
theorem s136_234 : mm_wp d 136 234 ls st h Q ↔ Q (.inl none) h := wp_vret rfl rfl
end
