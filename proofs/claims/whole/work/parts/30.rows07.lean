/-! rows of the program, by rows.py -/
section
variable {d : Nat} {ls st : List Value} {h : mm_H} {Q : mm_Q} {o : Option Nat} {a b c : Nat} {x y x1 x2 x3 x4 x5 x6 : Int32} {w w2 w3 w4 : Int64} {q : UInt32} {l0 l1 l2 l3 l4 l5 l6 l7 l8 l9 l10 l11 l12 l13 l14 l15 l16 t0 t1 t2 t3 t4 t5 : Value}
/-! 137: LoadRoomModel.leave()V -/
theorem s137_0 : mm_wp d 137 0 [.ref a, l1, l2, l3] st h Q ↔ mm_wp d 137 1 [.ref a, l1, l2, l3] (.ref a :: st) h Q := wp_aloadR_n rfl rfl
theorem s137_1 : mm_wp d 137 1 ls (.ref a :: st) h Q ↔ mm_wp d 137 2 ls (.ref a :: .ref a :: st) h Q := wp_dupR rfl
theorem s137_2 : mm_wp d 137 2 ls (.ref a :: st) h Q ↔ (mm_s h a).1 = 10 ∧ mm_wp d 137 5 ls (.int (mm_i h a 8) :: st) h Q := wp_getI rfl rfl (by decide) (by decide)
theorem s137_5 : mm_wp d 137 5 ls st h Q ↔ mm_wp d 137 6 ls (.int (1 : Int32) :: st) h Q := wp_iconst rfl rfl
theorem s137_6 : mm_wp d 137 6 ls (.int x2 :: .int x :: st) h Q ↔ mm_wp d 137 7 ls (.int (x - x2) :: st) h Q := wp_isub rfl
theorem s137_7 : mm_wp d 137 7 ls (.int x :: .ref a :: st) h Q ↔ (mm_s h a).1 = 10 ∧ mm_wp d 137 10 ls st (mm_pi h a 8 x) Q := wp_putI rfl rfl
theorem s137_10 : mm_wp d 137 10 [.ref a, l1, l2, l3] st h Q ↔ mm_wp d 137 11 [.ref a, l1, l2, l3] (.ref a :: st) h Q := wp_aloadR_n rfl rfl
theorem s137_11 : mm_wp d 137 11 ls (.ref a :: st) h Q ↔ (mm_s h a).1 = 10 ∧ mm_wp d 137 14 ls (mm_o (mm_r h a 9) :: st) h Q := wp_getR rfl rfl
theorem s137_14 : mm_wp d 137 14 [.ref a, l1, l2, l3] st h Q ↔ mm_wp d 137 15 [.ref a, l1, l2, l3] (.ref a :: st) h Q := wp_aloadR_n rfl rfl
theorem s137_15 : mm_wp d 137 15 ls (.ref a :: st) h Q ↔ (mm_s h a).1 = 10 ∧ mm_wp d 137 18 ls (.int (mm_i h a 8) :: st) h Q := wp_getI rfl rfl (by decide) (by decide)
theorem s137_18 : mm_wp d 137 18 ls (.int x :: .ref a :: st) h Q ↔ ((mm_s h a).1 = 20 ∧ mm_in x (mm_s h a).2 = true) ∧ mm_wp d 137 19 ls (.int (mm_i h a x.toNatClampNeg) :: st) h Q := wp_iaload rfl
theorem s137_19 : mm_wp d 137 19 [l0, l1, l2, l3] (.int x :: st) h Q ↔ mm_wp d 137 20 [l0, .int x, l2, l3] st h Q := wp_istore_n rfl rfl
theorem s137_20 : mm_wp d 137 20 [.ref a, l1, l2, l3] st h Q ↔ mm_wp d 137 21 [.ref a, l1, l2, l3] (.ref a :: st) h Q := wp_aloadR_n rfl rfl
theorem s137_21 : mm_wp d 137 21 ls (.ref a :: st) h Q ↔ (mm_s h a).1 = 10 ∧ mm_wp d 137 24 ls (mm_o (mm_r h a 14) :: st) h Q := wp_getR rfl rfl
theorem s137_24 : mm_wp d 137 24 [l0, .int x, l2, l3] st h Q ↔ mm_wp d 137 25 [l0, .int x, l2, l3] (.int x :: st) h Q := wp_iload_n rfl rfl
theorem s137_25 : mm_wp d 137 25 ls st h Q ↔ mm_wp d 137 26 ls (.int (0 : Int32) :: st) h Q := wp_iconst rfl rfl
theorem s137_26 : mm_wp d 137 26 ls (.int x2 :: .int x :: .ref a :: st) h Q ↔ ((mm_s h a).1 = 22 ∧ (x2 = 0 ∨ x2 = 1) ∧ mm_in x (mm_s h a).2 = true) ∧ mm_wp d 137 27 ls st (mm_pi h a x.toNatClampNeg x2) Q := wp_bastore rfl
theorem s137_27 : mm_wp d 137 27 ls st h Q ↔ mm_wp d 137 28 ls (.int (0 : Int32) :: st) h Q := wp_iconst rfl rfl
theorem s137_28 : mm_wp d 137 28 [l0, l1, l2, l3] (.int x :: st) h Q ↔ mm_wp d 137 29 [l0, l1, .int x, l3] st h Q := wp_istore_n rfl rfl
theorem s137_29 : mm_wp d 137 29 [l0, l1, .int x, l3] st h Q ↔ mm_wp d 137 30 [l0, l1, .int x, l3] (.int x :: st) h Q := wp_iload_n rfl rfl
theorem s137_30 : mm_wp d 137 30 [.ref a, l1, l2, l3] st h Q ↔ mm_wp d 137 31 [.ref a, l1, l2, l3] (.ref a :: st) h Q := wp_aloadR_n rfl rfl
theorem s137_31 : mm_wp d 137 31 ls (.ref a :: st) h Q ↔ (mm_s h a).1 = 10 ∧ mm_wp d 137 34 ls (.int (mm_i h a 8) :: st) h Q := wp_getI rfl rfl (by decide) (by decide)
theorem s137_34 : mm_wp d 137 34 ls (.int x2 :: .int x :: st) h Q ↔ if x2 ≤ x then mm_wp d 137 175 ls st h Q else mm_wp d 137 37 ls st h Q := wp_icmpge rfl rfl
theorem s137_37 : mm_wp d 137 37 [.ref a, l1, l2, l3] st h Q ↔ mm_wp d 137 38 [.ref a, l1, l2, l3] (.ref a :: st) h Q := wp_aloadR_n rfl rfl
theorem s137_38 : mm_wp d 137 38 [l0, l1, .int x, l3] st h Q ↔ mm_wp d 137 39 [l0, l1, .int x, l3] (.int x :: st) h Q := wp_iload_n rfl rfl
theorem s137_39 : mm_wp d 137 39 ls st h Q ↔ mm_wp d 137 40 ls (.int (0 : Int32) :: st) h Q := wp_iconst rfl rfl
theorem s137_40 : mm_wp d 137 40 [.ref a, l1, l2, l3] st h Q ↔ mm_wp d 137 41 [.ref a, l1, l2, l3] (.ref a :: st) h Q := wp_aloadR_n rfl rfl
theorem s137_41 : mm_wp d 137 41 ls (.ref a :: st) h Q ↔ (mm_s h a).1 = 10 ∧ mm_wp d 137 44 ls (mm_o (mm_r h a 12) :: st) h Q := wp_getR rfl rfl
theorem s137_44 : mm_wp d 137 44 ls st h Q ↔ mm_wp d 137 45 ls (.int (3 : Int32) :: st) h Q := wp_iconst rfl rfl
theorem s137_45 : mm_wp d 137 45 [.ref a, l1, l2, l3] st h Q ↔ mm_wp d 137 46 [.ref a, l1, l2, l3] (.ref a :: st) h Q := wp_aloadR_n rfl rfl
theorem s137_46 : mm_wp d 137 46 ls (.ref a :: st) h Q ↔ (mm_s h a).1 = 10 ∧ mm_wp d 137 49 ls (.int (mm_i h a 8) :: st) h Q := wp_getI rfl rfl (by decide) (by decide)
theorem s137_49 : mm_wp d 137 49 ls (.int x2 :: .int x :: st) h Q ↔ mm_wp d 137 50 ls (.int (x * x2) :: st) h Q := wp_imul rfl
theorem s137_50 : mm_wp d 137 50 ls (.int x :: .ref a :: st) h Q ↔ ((mm_s h a).1 = 20 ∧ mm_in x (mm_s h a).2 = true) ∧ mm_wp d 137 51 ls (.int (mm_i h a x.toNatClampNeg) :: st) h Q := wp_iaload rfl
theorem s137_51 : mm_wp d 137 51 [.ref a, l1, l2, l3] st h Q ↔ mm_wp d 137 52 [.ref a, l1, l2, l3] (.ref a :: st) h Q := wp_aloadR_n rfl rfl
theorem s137_52 : mm_wp d 137 52 ls (.ref a :: st) h Q ↔ (mm_s h a).1 = 10 ∧ mm_wp d 137 55 ls (mm_o (mm_r h a 11) :: st) h Q := wp_getR rfl rfl
theorem s137_55 : mm_wp d 137 55 ls st h Q ↔ mm_wp d 137 56 ls (.int (3 : Int32) :: st) h Q := wp_iconst rfl rfl
theorem s137_56 : mm_wp d 137 56 [.ref a, l1, l2, l3] st h Q ↔ mm_wp d 137 57 [.ref a, l1, l2, l3] (.ref a :: st) h Q := wp_aloadR_n rfl rfl
theorem s137_57 : mm_wp d 137 57 ls (.ref a :: st) h Q ↔ (mm_s h a).1 = 10 ∧ mm_wp d 137 60 ls (.int (mm_i h a 8) :: st) h Q := wp_getI rfl rfl (by decide) (by decide)
theorem s137_60 : mm_wp d 137 60 ls (.int x2 :: .int x :: st) h Q ↔ mm_wp d 137 61 ls (.int (x * x2) :: st) h Q := wp_imul rfl
theorem s137_61 : mm_wp d 137 61 ls (.int x :: .ref a :: st) h Q ↔ ((mm_s h a).1 = 20 ∧ mm_in x (mm_s h a).2 = true) ∧ mm_wp d 137 62 ls (.int (mm_i h a x.toNatClampNeg) :: st) h Q := wp_iaload rfl
theorem s137_62 : mm_wp (d + 1) 137 62 ls [.int x5, .int x4, .int x3, .int x2, .ref a] h Q ↔ (mm_s h a).1 = 10 ∧ mm_wp d 134 0 [.ref a, .int x2, .int x3, .int x4, .int x5, mm_j, mm_j, mm_j, mm_j] [] h (mm_bk (d + 1) 137 62 ls [] Q) := wp_virtual rfl rfl ⟨by decide, rfl⟩ ⟨Nat.le_of_ble_eq_true rfl, Nat.le_of_ble_eq_true rfl⟩ rfl rfl rfl rfl rfl rfl
theorem s137_65 : mm_wp d 137 65 ls (.int x :: st) h Q ↔ if x ≤ 0 then mm_wp d 137 107 ls st h Q else mm_wp d 137 68 ls st h Q := wp_ifle rfl rfl
theorem s137_68 : mm_wp d 137 68 [.ref a, l1, l2, l3] st h Q ↔ mm_wp d 137 69 [.ref a, l1, l2, l3] (.ref a :: st) h Q := wp_aloadR_n rfl rfl
theorem s137_69 : mm_wp d 137 69 [l0, l1, .int x, l3] st h Q ↔ mm_wp d 137 70 [l0, l1, .int x, l3] (.int x :: st) h Q := wp_iload_n rfl rfl
theorem s137_70 : mm_wp d 137 70 ls st h Q ↔ mm_wp d 137 71 ls (.int (2 : Int32) :: st) h Q := wp_iconst rfl rfl
theorem s137_71 : mm_wp d 137 71 [.ref a, l1, l2, l3] st h Q ↔ mm_wp d 137 72 [.ref a, l1, l2, l3] (.ref a :: st) h Q := wp_aloadR_n rfl rfl
theorem s137_72 : mm_wp d 137 72 ls (.ref a :: st) h Q ↔ (mm_s h a).1 = 10 ∧ mm_wp d 137 75 ls (mm_o (mm_r h a 12) :: st) h Q := wp_getR rfl rfl
theorem s137_75 : mm_wp d 137 75 ls st h Q ↔ mm_wp d 137 76 ls (.int (3 : Int32) :: st) h Q := wp_iconst rfl rfl
theorem s137_76 : mm_wp d 137 76 [.ref a, l1, l2, l3] st h Q ↔ mm_wp d 137 77 [.ref a, l1, l2, l3] (.ref a :: st) h Q := wp_aloadR_n rfl rfl
theorem s137_77 : mm_wp d 137 77 ls (.ref a :: st) h Q ↔ (mm_s h a).1 = 10 ∧ mm_wp d 137 80 ls (.int (mm_i h a 8) :: st) h Q := wp_getI rfl rfl (by decide) (by decide)
theorem s137_80 : mm_wp d 137 80 ls (.int x2 :: .int x :: st) h Q ↔ mm_wp d 137 81 ls (.int (x * x2) :: st) h Q := wp_imul rfl
theorem s137_81 : mm_wp d 137 81 ls st h Q ↔ mm_wp d 137 82 ls (.int (2 : Int32) :: st) h Q := wp_iconst rfl rfl
theorem s137_82 : mm_wp d 137 82 ls (.int x2 :: .int x :: st) h Q ↔ mm_wp d 137 83 ls (.int (x + x2) :: st) h Q := wp_iadd rfl
theorem s137_83 : mm_wp d 137 83 ls (.int x :: .ref a :: st) h Q ↔ ((mm_s h a).1 = 20 ∧ mm_in x (mm_s h a).2 = true) ∧ mm_wp d 137 84 ls (.int (mm_i h a x.toNatClampNeg) :: st) h Q := wp_iaload rfl
theorem s137_84 : mm_wp d 137 84 [.ref a, l1, l2, l3] st h Q ↔ mm_wp d 137 85 [.ref a, l1, l2, l3] (.ref a :: st) h Q := wp_aloadR_n rfl rfl
theorem s137_85 : mm_wp d 137 85 ls (.ref a :: st) h Q ↔ (mm_s h a).1 = 10 ∧ mm_wp d 137 88 ls (mm_o (mm_r h a 11) :: st) h Q := wp_getR rfl rfl
theorem s137_88 : mm_wp d 137 88 ls st h Q ↔ mm_wp d 137 89 ls (.int (3 : Int32) :: st) h Q := wp_iconst rfl rfl
theorem s137_89 : mm_wp d 137 89 [.ref a, l1, l2, l3] st h Q ↔ mm_wp d 137 90 [.ref a, l1, l2, l3] (.ref a :: st) h Q := wp_aloadR_n rfl rfl
theorem s137_90 : mm_wp d 137 90 ls (.ref a :: st) h Q ↔ (mm_s h a).1 = 10 ∧ mm_wp d 137 93 ls (.int (mm_i h a 8) :: st) h Q := wp_getI rfl rfl (by decide) (by decide)
theorem s137_93 : mm_wp d 137 93 ls (.int x2 :: .int x :: st) h Q ↔ mm_wp d 137 94 ls (.int (x * x2) :: st) h Q := wp_imul rfl
theorem s137_94 : mm_wp d 137 94 ls st h Q ↔ mm_wp d 137 95 ls (.int (2 : Int32) :: st) h Q := wp_iconst rfl rfl
theorem s137_95 : mm_wp d 137 95 ls (.int x2 :: .int x :: st) h Q ↔ mm_wp d 137 96 ls (.int (x + x2) :: st) h Q := wp_iadd rfl
theorem s137_96 : mm_wp d 137 96 ls (.int x :: .ref a :: st) h Q ↔ ((mm_s h a).1 = 20 ∧ mm_in x (mm_s h a).2 = true) ∧ mm_wp d 137 97 ls (.int (mm_i h a x.toNatClampNeg) :: st) h Q := wp_iaload rfl
theorem s137_97 : mm_wp (d + 1) 137 97 ls [.int x5, .int x4, .int x3, .int x2, .ref a] h Q ↔ (mm_s h a).1 = 10 ∧ mm_wp d 134 0 [.ref a, .int x2, .int x3, .int x4, .int x5, mm_j, mm_j, mm_j, mm_j] [] h (mm_bk (d + 1) 137 97 ls [] Q) := wp_virtual rfl rfl ⟨by decide, rfl⟩ ⟨Nat.le_of_ble_eq_true rfl, Nat.le_of_ble_eq_true rfl⟩ rfl rfl rfl rfl rfl rfl
theorem s137_100 : mm_wp d 137 100 ls (.int x :: st) h Q ↔ if x ≤ 0 then mm_wp d 137 107 ls st h Q else mm_wp d 137 103 ls st h Q := wp_ifle rfl rfl
theorem s137_103 : mm_wp d 137 103 ls st h Q ↔ mm_wp d 137 104 ls (.int (1 : Int32) :: st) h Q := wp_iconst rfl rfl
theorem s137_104 : mm_wp d 137 104 ls st h Q ↔ mm_wp d 137 108 ls st h Q := wp_goto rfl rfl
theorem s137_107 : mm_wp d 137 107 ls st h Q ↔ mm_wp d 137 108 ls (.int (0 : Int32) :: st) h Q := wp_iconst rfl rfl
theorem s137_108 : mm_wp d 137 108 [l0, l1, l2, l3] (.int x :: st) h Q ↔ mm_wp d 137 109 [l0, l1, l2, .int x] st h Q := wp_istore_n rfl rfl
theorem s137_109 : mm_wp d 137 109 [.ref a, l1, l2, l3] st h Q ↔ mm_wp d 137 110 [.ref a, l1, l2, l3] (.ref a :: st) h Q := wp_aloadR_n rfl rfl
theorem s137_110 : mm_wp d 137 110 ls (.ref a :: st) h Q ↔ (mm_s h a).1 = 10 ∧ mm_wp d 137 113 ls (mm_o (mm_r h a 13) :: st) h Q := wp_getR rfl rfl
theorem s137_113 : mm_wp d 137 113 [l0, l1, .int x, l3] st h Q ↔ mm_wp d 137 114 [l0, l1, .int x, l3] (.int x :: st) h Q := wp_iload_n rfl rfl
theorem s137_114 : mm_wp d 137 114 ls (.int x :: .ref a :: st) h Q ↔ mm_wp d 137 115 ls (.int x :: .ref a :: .int x :: .ref a :: st) h Q := wp_dup2 rfl
theorem s137_115 : mm_wp d 137 115 ls (.int x :: .ref a :: st) h Q ↔ ((mm_s h a).1 = 20 ∧ mm_in x (mm_s h a).2 = true) ∧ mm_wp d 137 116 ls (.int (mm_i h a x.toNatClampNeg) :: st) h Q := wp_iaload rfl
theorem s137_116 : mm_wp d 137 116 [l0, l1, l2, .int x] st h Q ↔ mm_wp d 137 117 [l0, l1, l2, .int x] (.int x :: st) h Q := wp_iload_n rfl rfl
theorem s137_117 : mm_wp d 137 117 ls (.int x :: st) h Q ↔ if x = 0 then mm_wp d 137 166 ls st h Q else mm_wp d 137 120 ls st h Q := wp_ifeq rfl rfl
theorem s137_120 : mm_wp d 137 120 [.ref a, l1, l2, l3] st h Q ↔ mm_wp d 137 121 [.ref a, l1, l2, l3] (.ref a :: st) h Q := wp_aloadR_n rfl rfl
theorem s137_121 : mm_wp d 137 121 ls (.ref a :: st) h Q ↔ (mm_s h a).1 = 10 ∧ mm_wp d 137 124 ls (mm_o (mm_r h a 12) :: st) h Q := wp_getR rfl rfl
theorem s137_124 : mm_wp d 137 124 ls st h Q ↔ mm_wp d 137 125 ls (.int (3 : Int32) :: st) h Q := wp_iconst rfl rfl
theorem s137_125 : mm_wp d 137 125 [.ref a, l1, l2, l3] st h Q ↔ mm_wp d 137 126 [.ref a, l1, l2, l3] (.ref a :: st) h Q := wp_aloadR_n rfl rfl
theorem s137_126 : mm_wp d 137 126 ls (.ref a :: st) h Q ↔ (mm_s h a).1 = 10 ∧ mm_wp d 137 129 ls (.int (mm_i h a 8) :: st) h Q := wp_getI rfl rfl (by decide) (by decide)
theorem s137_129 : mm_wp d 137 129 ls (.int x2 :: .int x :: st) h Q ↔ mm_wp d 137 130 ls (.int (x * x2) :: st) h Q := wp_imul rfl
theorem s137_130 : mm_wp d 137 130 ls st h Q ↔ mm_wp d 137 131 ls (.int (1 : Int32) :: st) h Q := wp_iconst rfl rfl
theorem s137_131 : mm_wp d 137 131 ls (.int x2 :: .int x :: st) h Q ↔ mm_wp d 137 132 ls (.int (x + x2) :: st) h Q := wp_iadd rfl
theorem s137_132 : mm_wp d 137 132 ls (.int x :: .ref a :: st) h Q ↔ ((mm_s h a).1 = 20 ∧ mm_in x (mm_s h a).2 = true) ∧ mm_wp d 137 133 ls (.int (mm_i h a x.toNatClampNeg) :: st) h Q := wp_iaload rfl
theorem s137_133 : mm_wp d 137 133 [.ref a, l1, l2, l3] st h Q ↔ mm_wp d 137 134 [.ref a, l1, l2, l3] (.ref a :: st) h Q := wp_aloadR_n rfl rfl
theorem s137_134 : mm_wp d 137 134 ls (.ref a :: st) h Q ↔ (mm_s h a).1 = 10 ∧ mm_wp d 137 137 ls (mm_o (mm_r h a 12) :: st) h Q := wp_getR rfl rfl
theorem s137_137 : mm_wp d 137 137 ls st h Q ↔ mm_wp d 137 138 ls (.int (3 : Int32) :: st) h Q := wp_iconst rfl rfl
theorem s137_138 : mm_wp d 137 138 [l0, l1, .int x, l3] st h Q ↔ mm_wp d 137 139 [l0, l1, .int x, l3] (.int x :: st) h Q := wp_iload_n rfl rfl
theorem s137_139 : mm_wp d 137 139 ls (.int x2 :: .int x :: st) h Q ↔ mm_wp d 137 140 ls (.int (x * x2) :: st) h Q := wp_imul rfl
theorem s137_140 : mm_wp d 137 140 ls st h Q ↔ mm_wp d 137 141 ls (.int (1 : Int32) :: st) h Q := wp_iconst rfl rfl
theorem s137_141 : mm_wp d 137 141 ls (.int x2 :: .int x :: st) h Q ↔ mm_wp d 137 142 ls (.int (x + x2) :: st) h Q := wp_iadd rfl
theorem s137_142 : mm_wp d 137 142 ls (.int x :: .ref a :: st) h Q ↔ ((mm_s h a).1 = 20 ∧ mm_in x (mm_s h a).2 = true) ∧ mm_wp d 137 143 ls (.int (mm_i h a x.toNatClampNeg) :: st) h Q := wp_iaload rfl
theorem s137_143 : mm_wp d 137 143 [.ref a, l1, l2, l3] st h Q ↔ mm_wp d 137 144 [.ref a, l1, l2, l3] (.ref a :: st) h Q := wp_aloadR_n rfl rfl
theorem s137_144 : mm_wp d 137 144 ls (.ref a :: st) h Q ↔ (mm_s h a).1 = 10 ∧ mm_wp d 137 147 ls (mm_o (mm_r h a 11) :: st) h Q := wp_getR rfl rfl
theorem s137_147 : mm_wp d 137 147 ls st h Q ↔ mm_wp d 137 148 ls (.int (3 : Int32) :: st) h Q := wp_iconst rfl rfl
theorem s137_148 : mm_wp d 137 148 [l0, l1, .int x, l3] st h Q ↔ mm_wp d 137 149 [l0, l1, .int x, l3] (.int x :: st) h Q := wp_iload_n rfl rfl
theorem s137_149 : mm_wp d 137 149 ls (.int x2 :: .int x :: st) h Q ↔ mm_wp d 137 150 ls (.int (x * x2) :: st) h Q := wp_imul rfl
theorem s137_150 : mm_wp d 137 150 ls st h Q ↔ mm_wp d 137 151 ls (.int (1 : Int32) :: st) h Q := wp_iconst rfl rfl
theorem s137_151 : mm_wp d 137 151 ls (.int x2 :: .int x :: st) h Q ↔ mm_wp d 137 152 ls (.int (x + x2) :: st) h Q := wp_iadd rfl
theorem s137_152 : mm_wp d 137 152 ls (.int x :: .ref a :: st) h Q ↔ ((mm_s h a).1 = 20 ∧ mm_in x (mm_s h a).2 = true) ∧ mm_wp d 137 153 ls (.int (mm_i h a x.toNatClampNeg) :: st) h Q := wp_iaload rfl
theorem s137_153 : mm_wp d 137 153 ls (.int x2 :: .int x :: st) h Q ↔ mm_wp d 137 154 ls (.int (x + x2) :: st) h Q := wp_iadd rfl
theorem s137_154 : mm_wp d 137 154 ls (.int x2 :: .int x :: st) h Q ↔ if x < x2 then mm_wp d 137 166 ls st h Q else mm_wp d 137 157 ls st h Q := wp_icmplt rfl rfl
theorem s137_157 : mm_wp d 137 157 [.ref a, l1, l2, l3] st h Q ↔ mm_wp d 137 158 [.ref a, l1, l2, l3] (.ref a :: st) h Q := wp_aloadR_n rfl rfl
theorem s137_158 : mm_wp d 137 158 ls (.ref a :: st) h Q ↔ (mm_s h a).1 = 10 ∧ mm_wp d 137 161 ls (mm_o (mm_r h a 4) :: st) h Q := wp_getR rfl rfl
theorem s137_161 : mm_wp d 137 161 [l0, .int x, l2, l3] st h Q ↔ mm_wp d 137 162 [l0, .int x, l2, l3] (.int x :: st) h Q := wp_iload_n rfl rfl
theorem s137_162 : mm_wp d 137 162 ls (.int x :: .ref a :: st) h Q ↔ ((mm_s h a).1 = 20 ∧ mm_in x (mm_s h a).2 = true) ∧ mm_wp d 137 163 ls (.int (mm_i h a x.toNatClampNeg) :: st) h Q := wp_iaload rfl
theorem s137_163 : mm_wp d 137 163 ls st h Q ↔ mm_wp d 137 167 ls st h Q := wp_goto rfl rfl
theorem s137_166 : mm_wp d 137 166 ls st h Q ↔ mm_wp d 137 167 ls (.int (0 : Int32) :: st) h Q := wp_iconst rfl rfl
theorem s137_167 : mm_wp d 137 167 ls (.int x2 :: .int x :: st) h Q ↔ mm_wp d 137 168 ls (.int (x - x2) :: st) h Q := wp_isub rfl
theorem s137_168 : mm_wp d 137 168 ls (.int x2 :: .int x :: .ref a :: st) h Q ↔ ((mm_s h a).1 = 20 ∧ ¬ a = 0 ∧ mm_in x (mm_s h a).2 = true) ∧ mm_wp d 137 169 ls st (mm_pi h a x.toNatClampNeg x2) Q := wp_iastore rfl
theorem s137_169 : mm_wp d 137 169 [l0, l1, .int x, l3] st h Q ↔ mm_wp d 137 172 [l0, l1, .int (x + (1 : Int32)), l3] st h Q := wp_iinc rfl rfl rfl rfl
theorem s137_172 : mm_wp d 137 172 ls st h Q ↔ mm_wp d 137 29 ls st h Q := wp_goto rfl rfl
theorem s137_175 : mm_wp d 137 175 ls st h Q ↔ Q (.inl none) h := wp_vret rfl rfl
/-! 138: LoadRoomModel.exact()Z -/
theorem s138_0 : mm_wp d 138 0 [.ref a] st h Q ↔ mm_wp d 138 1 [.ref a] (.ref a :: st) h Q := wp_aloadR_n rfl rfl
theorem s138_1 : mm_wp d 138 1 ls st h Q ↔ mm_wp d 138 2 ls (.int (0 : Int32) :: st) h Q := wp_iconst rfl rfl
theorem s138_2 : mm_wp d 138 2 ls (.int x :: .ref a :: st) h Q ↔ (mm_s h a).1 = 10 ∧ mm_wp d 138 5 ls st (mm_pi h a 0 x) Q := wp_putI rfl rfl
theorem s138_5 : mm_wp d 138 5 [.ref a] st h Q ↔ mm_wp d 138 6 [.ref a] (.ref a :: st) h Q := wp_aloadR_n rfl rfl
theorem s138_6 : mm_wp d 138 6 ls (.ref a :: st) h Q ↔ (mm_s h a).1 = 10 ∧ mm_wp d 138 9 ls (.int (mm_i h a 20) :: st) h Q := wp_getI rfl rfl (by decide) (by decide)
theorem s138_9 : mm_wp d 138 9 ls (.int x :: st) h Q ↔ if x = 0 then mm_wp d 138 23 ls st h Q else mm_wp d 138 12 ls st h Q := wp_ifeq rfl rfl
theorem s138_12 : mm_wp d 138 12 [.ref a] st h Q ↔ mm_wp d 138 13 [.ref a] (.ref a :: st) h Q := wp_aloadR_n rfl rfl
theorem s138_13 : mm_wp d 138 13 ls (.ref a :: st) h Q ↔ (mm_s h a).1 = 10 ∧ mm_wp d 138 16 ls (.int (mm_i h a 21) :: st) h Q := wp_getI rfl rfl (by decide) (by decide)
theorem s138_16 : mm_wp d 138 16 ls (.int x :: st) h Q ↔ if x = 0 then mm_wp d 138 19 ls st h Q else mm_wp d 138 23 ls st h Q := wp_ifne rfl rfl
theorem s138_19 : mm_wp d 138 19 ls st h Q ↔ mm_wp d 138 20 ls (.int (1 : Int32) :: st) h Q := wp_iconst rfl rfl
theorem s138_20 : mm_wp d 138 20 ls st h Q ↔ mm_wp d 138 24 ls st h Q := wp_goto rfl rfl
theorem s138_23 : mm_wp d 138 23 ls st h Q ↔ mm_wp d 138 24 ls (.int (0 : Int32) :: st) h Q := wp_iconst rfl rfl
theorem s138_24 : mm_wp d 138 24 ls (.int x :: st) h Q ↔ (x = 0 ∨ x = 1) ∧ Q (.inl (some (.int x))) h := wp_zret rfl rfl
/-! 139: LoadRoomModel.steps()I -/
theorem s139_0 : mm_wp d 139 0 [.ref a] st h Q ↔ mm_wp d 139 1 [.ref a] (.ref a :: st) h Q := wp_aloadR_n rfl rfl
theorem s139_1 : mm_wp d 139 1 ls st h Q ↔ mm_wp d 139 2 ls (.int (0 : Int32) :: st) h Q := wp_iconst rfl rfl
theorem s139_2 : mm_wp d 139 2 ls (.int x :: .ref a :: st) h Q ↔ (mm_s h a).1 = 10 ∧ mm_wp d 139 5 ls st (mm_pi h a 0 x) Q := wp_putI rfl rfl
theorem s139_5 : mm_wp d 139 5 [.ref a] st h Q ↔ mm_wp d 139 6 [.ref a] (.ref a :: st) h Q := wp_aloadR_n rfl rfl
theorem s139_6 : mm_wp d 139 6 ls (.ref a :: st) h Q ↔ (mm_s h a).1 = 10 ∧ mm_wp d 139 9 ls (.int (mm_i h a 20) :: st) h Q := wp_getI rfl rfl (by decide) (by decide)
theorem s139_9 : mm_wp d 139 9 ls (.int x :: st) h Q ↔ if x = 0 then mm_wp d 139 19 ls st h Q else mm_wp d 139 12 ls st h Q := wp_ifeq rfl rfl
theorem s139_12 : mm_wp d 139 12 [.ref a] st h Q ↔ mm_wp d 139 13 [.ref a] (.ref a :: st) h Q := wp_aloadR_n rfl rfl
theorem s139_13 : mm_wp d 139 13 ls (.ref a :: st) h Q ↔ (mm_s h a).1 = 10 ∧ mm_wp d 139 16 ls (.int (mm_i h a 22) :: st) h Q := wp_getI rfl rfl (by decide) (by decide)
theorem s139_16 : mm_wp d 139 16 ls st h Q ↔ mm_wp d 139 20 ls st h Q := wp_goto rfl rfl
theorem s139_19 : mm_wp d 139 19 ls st h Q ↔ mm_wp d 139 20 ls (.int (-1 : Int32) :: st) h Q := wp_iconst rfl rfl
theorem s139_20 : mm_wp d 139 20 ls (.int x :: st) h Q ↔ Q (.inl (some (.int x))) h := wp_iret rfl rfl
/-! 140: LoadRoomModel.at(II)I -/
theorem s140_0 : mm_wp d 140 0 [.ref a, l1, l2, l3] st h Q ↔ mm_wp d 140 1 [.ref a, l1, l2, l3] (.ref a :: st) h Q := wp_aloadR_n rfl rfl
theorem s140_1 : mm_wp d 140 1 [.ref a, l1, l2, l3] st h Q ↔ mm_wp d 140 2 [.ref a, l1, l2, l3] (.ref a :: st) h Q := wp_aloadR_n rfl rfl
theorem s140_2 : mm_wp d 140 2 [l0, .int x, l2, l3] st h Q ↔ mm_wp d 140 3 [l0, .int x, l2, l3] (.int x :: st) h Q := wp_iload_n rfl rfl
theorem s140_3 : mm_wp (d + 1) 140 3 ls [.int x2, .ref a, t0] h Q ↔ (mm_s h a).1 = 10 ∧ mm_wp d 115 0 [.ref a, .int x2] [] h (mm_bk (d + 1) 140 3 ls [t0] Q) := wp_virtual rfl rfl ⟨by decide, rfl⟩ ⟨Nat.le_of_ble_eq_true rfl, Nat.le_of_ble_eq_true rfl⟩ rfl rfl rfl rfl rfl rfl
theorem s140_6 : mm_wp d 140 6 ls (.int x :: st) h Q ↔ if x = 0 then mm_wp d 140 9 ls st h Q else mm_wp d 140 13 ls st h Q := wp_ifne rfl rfl
theorem s140_9 : mm_wp d 140 9 ls st h Q ↔ mm_wp d 140 10 ls (.int (1 : Int32) :: st) h Q := wp_iconst rfl rfl
theorem s140_10 : mm_wp d 140 10 ls st h Q ↔ mm_wp d 140 27 ls st h Q := wp_goto rfl rfl
theorem s140_13 : mm_wp d 140 13 [l0, l1, .int x, l3] st h Q ↔ mm_wp d 140 14 [l0, l1, .int x, l3] (.int x :: st) h Q := wp_iload_n rfl rfl
theorem s140_14 : mm_wp d 140 14 ls st h Q ↔ mm_wp d 140 15 ls (.int (0 : Int32) :: st) h Q := wp_iconst rfl rfl
theorem s140_15 : mm_wp d 140 15 ls st h Q ↔ mm_wp d 140 16 ls (.int (5 : Int32) :: st) h Q := wp_iconst rfl rfl
theorem s140_16 : mm_wp (d + 1) 140 16 ls [.int x3, .int x2, .int x, t0] h Q ↔ mm_wp d 112 0 [.int x, .int x2, .int x3] [] h (mm_bk (d + 1) 140 16 ls [t0] Q) := wp_static rfl rfl ⟨by decide, rfl⟩ ⟨Nat.le_of_ble_eq_true rfl, Nat.le_of_ble_eq_true rfl⟩ rfl rfl rfl rfl
theorem s140_19 : mm_wp d 140 19 ls (.int x :: st) h Q ↔ if x = 0 then mm_wp d 140 26 ls st h Q else mm_wp d 140 22 ls st h Q := wp_ifeq rfl rfl
theorem s140_22 : mm_wp d 140 22 ls st h Q ↔ mm_wp d 140 23 ls (.int (0 : Int32) :: st) h Q := wp_iconst rfl rfl
theorem s140_23 : mm_wp d 140 23 ls st h Q ↔ mm_wp d 140 27 ls st h Q := wp_goto rfl rfl
theorem s140_26 : mm_wp d 140 26 ls st h Q ↔ mm_wp d 140 27 ls (.int (2 : Int32) :: st) h Q := wp_iconst rfl rfl
theorem s140_27 : mm_wp d 140 27 ls (.int x :: .ref a :: st) h Q ↔ (mm_s h a).1 = 10 ∧ mm_wp d 140 30 ls st (mm_pi h a 0 x) Q := wp_putI rfl rfl
theorem s140_30 : mm_wp d 140 30 [.ref a, l1, l2, l3] st h Q ↔ mm_wp d 140 31 [.ref a, l1, l2, l3] (.ref a :: st) h Q := wp_aloadR_n rfl rfl
theorem s140_31 : mm_wp d 140 31 ls (.ref a :: st) h Q ↔ (mm_s h a).1 = 10 ∧ mm_wp d 140 34 ls (.int (mm_i h a 0) :: st) h Q := wp_getI rfl rfl (by decide) (by decide)
theorem s140_34 : mm_wp d 140 34 ls (.int x :: st) h Q ↔ if x ≤ 0 then mm_wp d 140 39 ls st h Q else mm_wp d 140 37 ls st h Q := wp_ifle rfl rfl
theorem s140_37 : mm_wp d 140 37 ls st h Q ↔ mm_wp d 140 38 ls (.int (0 : Int32) :: st) h Q := wp_iconst rfl rfl
theorem s140_38 : mm_wp d 140 38 ls (.int x :: st) h Q ↔ Q (.inl (some (.int x))) h := wp_iret rfl rfl
theorem s140_39 : mm_wp d 140 39 [.ref a, l1, l2, l3] st h Q ↔ mm_wp d 140 40 [.ref a, l1, l2, l3] (.ref a :: st) h Q := wp_aloadR_n rfl rfl
theorem s140_40 : mm_wp d 140 40 [l0, .int x, l2, l3] st h Q ↔ mm_wp d 140 41 [l0, .int x, l2, l3] (.int x :: st) h Q := wp_iload_n rfl rfl
theorem s140_41 : mm_wp (d + 1) 140 41 ls [.int x2, .ref a] h Q ↔ (mm_s h a).1 = 10 ∧ mm_wp d 141 0 [.ref a, .int x2, mm_j] [] h (mm_bk (d + 1) 140 41 ls [] Q) := wp_virtual rfl rfl ⟨by decide, rfl⟩ ⟨Nat.le_of_ble_eq_true rfl, Nat.le_of_ble_eq_true rfl⟩ rfl rfl rfl rfl rfl rfl
theorem s140_44 : mm_wp d 140 44 [l0, l1, l2, l3] (.int x :: st) h Q ↔ mm_wp d 140 45 [l0, l1, l2, .int x] st h Q := wp_istore_n rfl rfl
theorem s140_45 : mm_wp d 140 45 [l0, l1, l2, .int x] st h Q ↔ mm_wp d 140 46 [l0, l1, l2, .int x] (.int x :: st) h Q := wp_iload_n rfl rfl
theorem s140_46 : mm_wp d 140 46 ls (.int x :: st) h Q ↔ if 0 ≤ x then mm_wp d 140 51 ls st h Q else mm_wp d 140 49 ls st h Q := wp_ifge rfl rfl
theorem s140_49 : mm_wp d 140 49 ls st h Q ↔ mm_wp d 140 50 ls (.int (-1 : Int32) :: st) h Q := wp_iconst rfl rfl
theorem s140_50 : mm_wp d 140 50 ls (.int x :: st) h Q ↔ Q (.inl (some (.int x))) h := wp_iret rfl rfl
theorem s140_51 : mm_wp d 140 51 [l0, l1, .int x, l3] st h Q ↔ mm_wp d 140 52 [l0, l1, .int x, l3] (.int x :: st) h Q := wp_iload_n rfl rfl
theorem s140_52 : mm_wp d 140 52 ls st h Q ↔ mm_wp d 140 53 ls (.int (3 : Int32) :: st) h Q := wp_iconst rfl rfl
theorem s140_53 : mm_wp d 140 53 ls (.int x2 :: .int x :: st) h Q ↔ if x2 ≤ x then mm_wp d 140 69 ls st h Q else mm_wp d 140 56 ls st h Q := wp_icmpge rfl rfl
theorem s140_56 : mm_wp d 140 56 [.ref a, l1, l2, l3] st h Q ↔ mm_wp d 140 57 [.ref a, l1, l2, l3] (.ref a :: st) h Q := wp_aloadR_n rfl rfl
theorem s140_57 : mm_wp d 140 57 ls (.ref a :: st) h Q ↔ (mm_s h a).1 = 10 ∧ mm_wp d 140 60 ls (mm_o (mm_r h a 29) :: st) h Q := wp_getR rfl rfl
theorem s140_60 : mm_wp d 140 60 ls st h Q ↔ mm_wp d 140 61 ls (.int (3 : Int32) :: st) h Q := wp_iconst rfl rfl
theorem s140_61 : mm_wp d 140 61 [l0, l1, l2, .int x] st h Q ↔ mm_wp d 140 62 [l0, l1, l2, .int x] (.int x :: st) h Q := wp_iload_n rfl rfl
theorem s140_62 : mm_wp d 140 62 ls (.int x2 :: .int x :: st) h Q ↔ mm_wp d 140 63 ls (.int (x * x2) :: st) h Q := wp_imul rfl
theorem s140_63 : mm_wp d 140 63 [l0, l1, .int x, l3] st h Q ↔ mm_wp d 140 64 [l0, l1, .int x, l3] (.int x :: st) h Q := wp_iload_n rfl rfl
theorem s140_64 : mm_wp d 140 64 ls (.int x2 :: .int x :: st) h Q ↔ mm_wp d 140 65 ls (.int (x + x2) :: st) h Q := wp_iadd rfl
theorem s140_65 : mm_wp d 140 65 ls (.int x :: .ref a :: st) h Q ↔ ((mm_s h a).1 = 20 ∧ mm_in x (mm_s h a).2 = true) ∧ mm_wp d 140 66 ls (.int (mm_i h a x.toNatClampNeg) :: st) h Q := wp_iaload rfl
theorem s140_66 : mm_wp d 140 66 ls st h Q ↔ mm_wp d 140 98 ls st h Q := wp_goto rfl rfl
theorem s140_69 : mm_wp d 140 69 [l0, l1, .int x, l3] st h Q ↔ mm_wp d 140 70 [l0, l1, .int x, l3] (.int x :: st) h Q := wp_iload_n rfl rfl
theorem s140_70 : mm_wp d 140 70 ls st h Q ↔ mm_wp d 140 71 ls (.int (3 : Int32) :: st) h Q := wp_iconst rfl rfl
theorem s140_71 : mm_wp d 140 71 ls (.int x2 :: .int x :: st) h Q ↔ if x = x2 then mm_wp d 140 74 ls st h Q else mm_wp d 140 83 ls st h Q := wp_icmpne rfl rfl
theorem s140_74 : mm_wp d 140 74 [.ref a, l1, l2, l3] st h Q ↔ mm_wp d 140 75 [.ref a, l1, l2, l3] (.ref a :: st) h Q := wp_aloadR_n rfl rfl
theorem s140_75 : mm_wp d 140 75 ls (.ref a :: st) h Q ↔ (mm_s h a).1 = 10 ∧ mm_wp d 140 78 ls (mm_o (mm_r h a 27) :: st) h Q := wp_getR rfl rfl
theorem s140_78 : mm_wp d 140 78 [l0, l1, l2, .int x] st h Q ↔ mm_wp d 140 79 [l0, l1, l2, .int x] (.int x :: st) h Q := wp_iload_n rfl rfl
theorem s140_79 : mm_wp d 140 79 ls (.int x :: .ref a :: st) h Q ↔ ((mm_s h a).1 = 20 ∧ mm_in x (mm_s h a).2 = true) ∧ mm_wp d 140 80 ls (.int (mm_i h a x.toNatClampNeg) :: st) h Q := wp_iaload rfl
theorem s140_80 : mm_wp d 140 80 ls st h Q ↔ mm_wp d 140 98 ls st h Q := wp_goto rfl rfl
theorem s140_83 : mm_wp d 140 83 [l0, l1, .int x, l3] st h Q ↔ mm_wp d 140 84 [l0, l1, .int x, l3] (.int x :: st) h Q := wp_iload_n rfl rfl
theorem s140_84 : mm_wp d 140 84 ls st h Q ↔ mm_wp d 140 85 ls (.int (4 : Int32) :: st) h Q := wp_iconst rfl rfl
theorem s140_85 : mm_wp d 140 85 ls (.int x2 :: .int x :: st) h Q ↔ if x = x2 then mm_wp d 140 88 ls st h Q else mm_wp d 140 92 ls st h Q := wp_icmpne rfl rfl
theorem s140_88 : mm_wp d 140 88 [l0, l1, l2, .int x] st h Q ↔ mm_wp d 140 89 [l0, l1, l2, .int x] (.int x :: st) h Q := wp_iload_n rfl rfl
theorem s140_89 : mm_wp d 140 89 ls st h Q ↔ mm_wp d 140 98 ls st h Q := wp_goto rfl rfl
theorem s140_92 : mm_wp d 140 92 [.ref a, l1, l2, l3] st h Q ↔ mm_wp d 140 93 [.ref a, l1, l2, l3] (.ref a :: st) h Q := wp_aloadR_n rfl rfl
theorem s140_93 : mm_wp d 140 93 ls (.ref a :: st) h Q ↔ (mm_s h a).1 = 10 ∧ mm_wp d 140 96 ls (mm_o (mm_r h a 30) :: st) h Q := wp_getR rfl rfl
theorem s140_96 : mm_wp d 140 96 [l0, l1, l2, .int x] st h Q ↔ mm_wp d 140 97 [l0, l1, l2, .int x] (.int x :: st) h Q := wp_iload_n rfl rfl
theorem s140_97 : mm_wp d 140 97 ls (.int x :: .ref a :: st) h Q ↔ ((mm_s h a).1 = 20 ∧ mm_in x (mm_s h a).2 = true) ∧ mm_wp d 140 98 ls (.int (mm_i h a x.toNatClampNeg) :: st) h Q := wp_iaload rfl
theorem s140_98 : mm_wp d 140 98 ls (.int x :: st) h Q ↔ Q (.inl (some (.int x))) h := wp_iret rfl rfl
/-! 141: LoadRoomModel.placeOf(I)I -/
theorem s141_0 : mm_wp d 141 0 ls st h Q ↔ mm_wp d 141 1 ls (.int (0 : Int32) :: st) h Q := wp_iconst rfl rfl
theorem s141_1 : mm_wp d 141 1 [l0, l1, l2] (.int x :: st) h Q ↔ mm_wp d 141 2 [l0, l1, .int x] st h Q := wp_istore_n rfl rfl
theorem s141_2 : mm_wp d 141 2 [l0, l1, .int x] st h Q ↔ mm_wp d 141 3 [l0, l1, .int x] (.int x :: st) h Q := wp_iload_n rfl rfl
theorem s141_3 : mm_wp d 141 3 [.ref a, l1, l2] st h Q ↔ mm_wp d 141 4 [.ref a, l1, l2] (.ref a :: st) h Q := wp_aloadR_n rfl rfl
theorem s141_4 : mm_wp d 141 4 ls (.ref a :: st) h Q ↔ (mm_s h a).1 = 10 ∧ mm_wp d 141 7 ls (.int (mm_i h a 23) :: st) h Q := wp_getI rfl rfl (by decide) (by decide)
theorem s141_7 : mm_wp d 141 7 ls (.int x2 :: .int x :: st) h Q ↔ if x2 ≤ x then mm_wp d 141 28 ls st h Q else mm_wp d 141 10 ls st h Q := wp_icmpge rfl rfl
theorem s141_10 : mm_wp d 141 10 [.ref a, l1, l2] st h Q ↔ mm_wp d 141 11 [.ref a, l1, l2] (.ref a :: st) h Q := wp_aloadR_n rfl rfl
theorem s141_11 : mm_wp d 141 11 ls (.ref a :: st) h Q ↔ (mm_s h a).1 = 10 ∧ mm_wp d 141 14 ls (mm_o (mm_r h a 26) :: st) h Q := wp_getR rfl rfl
theorem s141_14 : mm_wp d 141 14 [l0, l1, .int x] st h Q ↔ mm_wp d 141 15 [l0, l1, .int x] (.int x :: st) h Q := wp_iload_n rfl rfl
theorem s141_15 : mm_wp d 141 15 ls (.int x :: .ref a :: st) h Q ↔ ((mm_s h a).1 = 20 ∧ mm_in x (mm_s h a).2 = true) ∧ mm_wp d 141 16 ls (.int (mm_i h a x.toNatClampNeg) :: st) h Q := wp_iaload rfl
theorem s141_16 : mm_wp d 141 16 [l0, .int x, l2] st h Q ↔ mm_wp d 141 17 [l0, .int x, l2] (.int x :: st) h Q := wp_iload_n rfl rfl
theorem s141_17 : mm_wp d 141 17 ls (.int x2 :: .int x :: st) h Q ↔ if x = x2 then mm_wp d 141 20 ls st h Q else mm_wp d 141 22 ls st h Q := wp_icmpne rfl rfl
theorem s141_20 : mm_wp d 141 20 [l0, l1, .int x] st h Q ↔ mm_wp d 141 21 [l0, l1, .int x] (.int x :: st) h Q := wp_iload_n rfl rfl
theorem s141_21 : mm_wp d 141 21 ls (.int x :: st) h Q ↔ Q (.inl (some (.int x))) h := wp_iret rfl rfl
theorem s141_22 : mm_wp d 141 22 [l0, l1, .int x] st h Q ↔ mm_wp d 141 25 [l0, l1, .int (x + (1 : Int32))] st h Q := wp_iinc rfl rfl rfl rfl
theorem s141_25 : mm_wp d 141 25 ls st h Q ↔ mm_wp d 141 2 ls st h Q := wp_goto rfl rfl
theorem s141_28 : mm_wp d 141 28 ls st h Q ↔ mm_wp d 141 29 ls (.int (-1 : Int32) :: st) h Q := wp_iconst rfl rfl
theorem s141_29 : mm_wp d 141 29 ls (.int x :: st) h Q ↔ Q (.inl (some (.int x))) h := wp_iret rfl rfl
/-! 142: LoadRoomModel.moment()J -/
theorem s142_0 : mm_wp d 142 0 [.ref a] st h Q ↔ mm_wp d 142 1 [.ref a] (.ref a :: st) h Q := wp_aloadR_n rfl rfl
theorem s142_1 : mm_wp d 142 1 ls st h Q ↔ mm_wp d 142 2 ls (.int (0 : Int32) :: st) h Q := wp_iconst rfl rfl
theorem s142_2 : mm_wp d 142 2 ls (.int x :: .ref a :: st) h Q ↔ (mm_s h a).1 = 10 ∧ mm_wp d 142 5 ls st (mm_pi h a 0 x) Q := wp_putI rfl rfl
theorem s142_5 : mm_wp d 142 5 [.ref a] st h Q ↔ mm_wp d 142 6 [.ref a] (.ref a :: st) h Q := wp_aloadR_n rfl rfl
theorem s142_6 : mm_wp d 142 6 ls (.ref a :: st) h Q ↔ (mm_s h a).1 = 10 ∧ mm_wp d 142 9 ls (.long (mm_l h a 25) :: st) h Q := wp_getL rfl rfl
theorem s142_9 : mm_wp d 142 9 ls (.long w :: st) h Q ↔ Q (.inl (some (.long w))) h := wp_lret rfl rfl
/-! 143: LoadRoomModel.touch(II)I -/
theorem s143_0 : mm_wp d 143 0 [.ref a, l1, l2, l3, l4, l5] st h Q ↔ mm_wp d 143 1 [.ref a, l1, l2, l3, l4, l5] (.ref a :: st) h Q := wp_aloadR_n rfl rfl
theorem s143_1 : mm_wp d 143 1 [.ref a, l1, l2, l3, l4, l5] st h Q ↔ mm_wp d 143 2 [.ref a, l1, l2, l3, l4, l5] (.ref a :: st) h Q := wp_aloadR_n rfl rfl
theorem s143_2 : mm_wp d 143 2 [l0, .int x, l2, l3, l4, l5] st h Q ↔ mm_wp d 143 3 [l0, .int x, l2, l3, l4, l5] (.int x :: st) h Q := wp_iload_n rfl rfl
theorem s143_3 : mm_wp (d + 1) 143 3 ls [.int x2, .ref a, t0] h Q ↔ (mm_s h a).1 = 10 ∧ mm_wp d 115 0 [.ref a, .int x2] [] h (mm_bk (d + 1) 143 3 ls [t0] Q) := wp_virtual rfl rfl ⟨by decide, rfl⟩ ⟨Nat.le_of_ble_eq_true rfl, Nat.le_of_ble_eq_true rfl⟩ rfl rfl rfl rfl rfl rfl
theorem s143_6 : mm_wp d 143 6 ls (.int x :: st) h Q ↔ if x = 0 then mm_wp d 143 21 ls st h Q else mm_wp d 143 9 ls st h Q := wp_ifeq rfl rfl
theorem s143_9 : mm_wp d 143 9 [.ref a, l1, l2, l3, l4, l5] st h Q ↔ mm_wp d 143 10 [.ref a, l1, l2, l3, l4, l5] (.ref a :: st) h Q := wp_aloadR_n rfl rfl
theorem s143_10 : mm_wp d 143 10 [l0, l1, .int x, l3, l4, l5] st h Q ↔ mm_wp d 143 11 [l0, l1, .int x, l3, l4, l5] (.int x :: st) h Q := wp_iload_n rfl rfl
theorem s143_11 : mm_wp (d + 1) 143 11 ls [.int x2, .ref a, t0] h Q ↔ (mm_s h a).1 = 10 ∧ mm_wp d 115 0 [.ref a, .int x2] [] h (mm_bk (d + 1) 143 11 ls [t0] Q) := wp_virtual rfl rfl ⟨by decide, rfl⟩ ⟨Nat.le_of_ble_eq_true rfl, Nat.le_of_ble_eq_true rfl⟩ rfl rfl rfl rfl rfl rfl
theorem s143_14 : mm_wp d 143 14 ls (.int x :: st) h Q ↔ if x = 0 then mm_wp d 143 21 ls st h Q else mm_wp d 143 17 ls st h Q := wp_ifeq rfl rfl
theorem s143_17 : mm_wp d 143 17 ls st h Q ↔ mm_wp d 143 18 ls (.int (0 : Int32) :: st) h Q := wp_iconst rfl rfl
theorem s143_18 : mm_wp d 143 18 ls st h Q ↔ mm_wp d 143 22 ls st h Q := wp_goto rfl rfl
theorem s143_21 : mm_wp d 143 21 ls st h Q ↔ mm_wp d 143 22 ls (.int (1 : Int32) :: st) h Q := wp_iconst rfl rfl
theorem s143_22 : mm_wp d 143 22 ls (.int x :: .ref a :: st) h Q ↔ (mm_s h a).1 = 10 ∧ mm_wp d 143 25 ls st (mm_pi h a 0 x) Q := wp_putI rfl rfl
theorem s143_25 : mm_wp d 143 25 [.ref a, l1, l2, l3, l4, l5] st h Q ↔ mm_wp d 143 26 [.ref a, l1, l2, l3, l4, l5] (.ref a :: st) h Q := wp_aloadR_n rfl rfl
theorem s143_26 : mm_wp d 143 26 [l0, .int x, l2, l3, l4, l5] st h Q ↔ mm_wp d 143 27 [l0, .int x, l2, l3, l4, l5] (.int x :: st) h Q := wp_iload_n rfl rfl
theorem s143_27 : mm_wp (d + 1) 143 27 ls [.int x2, .ref a] h Q ↔ (mm_s h a).1 = 10 ∧ mm_wp d 141 0 [.ref a, .int x2, mm_j] [] h (mm_bk (d + 1) 143 27 ls [] Q) := wp_virtual rfl rfl ⟨by decide, rfl⟩ ⟨Nat.le_of_ble_eq_true rfl, Nat.le_of_ble_eq_true rfl⟩ rfl rfl rfl rfl rfl rfl
theorem s143_30 : mm_wp d 143 30 [l0, l1, l2, l3, l4, l5] (.int x :: st) h Q ↔ mm_wp d 143 31 [l0, l1, l2, .int x, l4, l5] st h Q := wp_istore_n rfl rfl
theorem s143_31 : mm_wp d 143 31 [.ref a, l1, l2, l3, l4, l5] st h Q ↔ mm_wp d 143 32 [.ref a, l1, l2, l3, l4, l5] (.ref a :: st) h Q := wp_aloadR_n rfl rfl
theorem s143_32 : mm_wp d 143 32 [l0, l1, .int x, l3, l4, l5] st h Q ↔ mm_wp d 143 33 [l0, l1, .int x, l3, l4, l5] (.int x :: st) h Q := wp_iload_n rfl rfl
theorem s143_33 : mm_wp (d + 1) 143 33 ls [.int x2, .ref a] h Q ↔ (mm_s h a).1 = 10 ∧ mm_wp d 141 0 [.ref a, .int x2, mm_j] [] h (mm_bk (d + 1) 143 33 ls [] Q) := wp_virtual rfl rfl ⟨by decide, rfl⟩ ⟨Nat.le_of_ble_eq_true rfl, Nat.le_of_ble_eq_true rfl⟩ rfl rfl rfl rfl rfl rfl
theorem s143_36 : mm_wp d 143 36 [l0, l1, l2, l3, l4, l5] (.int x :: st) h Q ↔ mm_wp d 143 38 [l0, l1, l2, l3, .int x, l5] st h Q := wp_istore rfl rfl
theorem s143_38 : mm_wp d 143 38 [.ref a, l1, l2, l3, l4, l5] st h Q ↔ mm_wp d 143 39 [.ref a, l1, l2, l3, l4, l5] (.ref a :: st) h Q := wp_aloadR_n rfl rfl
theorem s143_39 : mm_wp d 143 39 ls (.ref a :: st) h Q ↔ (mm_s h a).1 = 10 ∧ mm_wp d 143 42 ls (.int (mm_i h a 0) :: st) h Q := wp_getI rfl rfl (by decide) (by decide)
theorem s143_42 : mm_wp d 143 42 ls (.int x :: st) h Q ↔ if 0 < x then mm_wp d 143 89 ls st h Q else mm_wp d 143 45 ls st h Q := wp_ifgt rfl rfl
theorem s143_45 : mm_wp d 143 45 [l0, l1, l2, .int x, l4, l5] st h Q ↔ mm_wp d 143 46 [l0, l1, l2, .int x, l4, l5] (.int x :: st) h Q := wp_iload_n rfl rfl
theorem s143_46 : mm_wp d 143 46 ls (.int x :: st) h Q ↔ if x < 0 then mm_wp d 143 89 ls st h Q else mm_wp d 143 49 ls st h Q := wp_iflt rfl rfl
theorem s143_49 : mm_wp d 143 49 [l0, l1, l2, l3, .int x, l5] st h Q ↔ mm_wp d 143 51 [l0, l1, l2, l3, .int x, l5] (.int x :: st) h Q := wp_iload rfl rfl
theorem s143_51 : mm_wp d 143 51 ls (.int x :: st) h Q ↔ if x < 0 then mm_wp d 143 89 ls st h Q else mm_wp d 143 54 ls st h Q := wp_iflt rfl rfl
theorem s143_54 : mm_wp d 143 54 [.ref a, l1, l2, l3, l4, l5] st h Q ↔ mm_wp d 143 55 [.ref a, l1, l2, l3, l4, l5] (.ref a :: st) h Q := wp_aloadR_n rfl rfl
theorem s143_55 : mm_wp d 143 55 ls (.ref a :: st) h Q ↔ (mm_s h a).1 = 10 ∧ mm_wp d 143 58 ls (mm_o (mm_r h a 29) :: st) h Q := wp_getR rfl rfl
theorem s143_58 : mm_wp d 143 58 ls st h Q ↔ mm_wp d 143 59 ls (.int (3 : Int32) :: st) h Q := wp_iconst rfl rfl
theorem s143_59 : mm_wp d 143 59 [l0, l1, l2, .int x, l4, l5] st h Q ↔ mm_wp d 143 60 [l0, l1, l2, .int x, l4, l5] (.int x :: st) h Q := wp_iload_n rfl rfl
theorem s143_60 : mm_wp d 143 60 ls (.int x2 :: .int x :: st) h Q ↔ mm_wp d 143 61 ls (.int (x * x2) :: st) h Q := wp_imul rfl
theorem s143_61 : mm_wp d 143 61 ls st h Q ↔ mm_wp d 143 62 ls (.int (1 : Int32) :: st) h Q := wp_iconst rfl rfl
theorem s143_62 : mm_wp d 143 62 ls (.int x2 :: .int x :: st) h Q ↔ mm_wp d 143 63 ls (.int (x + x2) :: st) h Q := wp_iadd rfl
theorem s143_63 : mm_wp d 143 63 ls (.int x :: .ref a :: st) h Q ↔ ((mm_s h a).1 = 20 ∧ mm_in x (mm_s h a).2 = true) ∧ mm_wp d 143 64 ls (.int (mm_i h a x.toNatClampNeg) :: st) h Q := wp_iaload rfl
theorem s143_64 : mm_wp d 143 64 [.ref a, l1, l2, l3, l4, l5] st h Q ↔ mm_wp d 143 65 [.ref a, l1, l2, l3, l4, l5] (.ref a :: st) h Q := wp_aloadR_n rfl rfl
theorem s143_65 : mm_wp d 143 65 ls (.ref a :: st) h Q ↔ (mm_s h a).1 = 10 ∧ mm_wp d 143 68 ls (mm_o (mm_r h a 28) :: st) h Q := wp_getR rfl rfl
theorem s143_68 : mm_wp d 143 68 ls st h Q ↔ mm_wp d 143 69 ls (.int (3 : Int32) :: st) h Q := wp_iconst rfl rfl
theorem s143_69 : mm_wp d 143 69 [l0, l1, l2, .int x, l4, l5] st h Q ↔ mm_wp d 143 70 [l0, l1, l2, .int x, l4, l5] (.int x :: st) h Q := wp_iload_n rfl rfl
theorem s143_70 : mm_wp d 143 70 ls (.int x2 :: .int x :: st) h Q ↔ mm_wp d 143 71 ls (.int (x * x2) :: st) h Q := wp_imul rfl
theorem s143_71 : mm_wp d 143 71 ls st h Q ↔ mm_wp d 143 72 ls (.int (1 : Int32) :: st) h Q := wp_iconst rfl rfl
theorem s143_72 : mm_wp d 143 72 ls (.int x2 :: .int x :: st) h Q ↔ mm_wp d 143 73 ls (.int (x + x2) :: st) h Q := wp_iadd rfl
theorem s143_73 : mm_wp d 143 73 ls (.int x :: .ref a :: st) h Q ↔ ((mm_s h a).1 = 20 ∧ mm_in x (mm_s h a).2 = true) ∧ mm_wp d 143 74 ls (.int (mm_i h a x.toNatClampNeg) :: st) h Q := wp_iaload rfl
theorem s143_74 : mm_wp d 143 74 ls (.int x2 :: .int x :: st) h Q ↔ mm_wp d 143 75 ls (.int (x + x2) :: st) h Q := wp_iadd rfl
theorem s143_75 : mm_wp d 143 75 [.ref a, l1, l2, l3, l4, l5] st h Q ↔ mm_wp d 143 76 [.ref a, l1, l2, l3, l4, l5] (.ref a :: st) h Q := wp_aloadR_n rfl rfl
theorem s143_76 : mm_wp d 143 76 ls (.ref a :: st) h Q ↔ (mm_s h a).1 = 10 ∧ mm_wp d 143 79 ls (mm_o (mm_r h a 29) :: st) h Q := wp_getR rfl rfl
theorem s143_79 : mm_wp d 143 79 ls st h Q ↔ mm_wp d 143 80 ls (.int (3 : Int32) :: st) h Q := wp_iconst rfl rfl
theorem s143_80 : mm_wp d 143 80 [l0, l1, l2, l3, .int x, l5] st h Q ↔ mm_wp d 143 82 [l0, l1, l2, l3, .int x, l5] (.int x :: st) h Q := wp_iload rfl rfl
theorem s143_82 : mm_wp d 143 82 ls (.int x2 :: .int x :: st) h Q ↔ mm_wp d 143 83 ls (.int (x * x2) :: st) h Q := wp_imul rfl
theorem s143_83 : mm_wp d 143 83 ls st h Q ↔ mm_wp d 143 84 ls (.int (1 : Int32) :: st) h Q := wp_iconst rfl rfl
theorem s143_84 : mm_wp d 143 84 ls (.int x2 :: .int x :: st) h Q ↔ mm_wp d 143 85 ls (.int (x + x2) :: st) h Q := wp_iadd rfl
theorem s143_85 : mm_wp d 143 85 ls (.int x :: .ref a :: st) h Q ↔ ((mm_s h a).1 = 20 ∧ mm_in x (mm_s h a).2 = true) ∧ mm_wp d 143 86 ls (.int (mm_i h a x.toNatClampNeg) :: st) h Q := wp_iaload rfl
theorem s143_86 : mm_wp d 143 86 ls (.int x2 :: .int x :: st) h Q ↔ if x = x2 then mm_wp d 143 91 ls st h Q else mm_wp d 143 89 ls st h Q := wp_icmpeq rfl rfl
theorem s143_89 : mm_wp d 143 89 ls st h Q ↔ mm_wp d 143 90 ls (.int (0 : Int32) :: st) h Q := wp_iconst rfl rfl
theorem s143_90 : mm_wp d 143 90 ls (.int x :: st) h Q ↔ Q (.inl (some (.int x))) h := wp_iret rfl rfl
theorem s143_91 : mm_wp d 143 91 [.ref a, l1, l2, l3, l4, l5] st h Q ↔ mm_wp d 143 92 [.ref a, l1, l2, l3, l4, l5] (.ref a :: st) h Q := wp_aloadR_n rfl rfl
theorem s143_92 : mm_wp d 143 92 ls (.ref a :: st) h Q ↔ (mm_s h a).1 = 10 ∧ mm_wp d 143 95 ls (mm_o (mm_r h a 29) :: st) h Q := wp_getR rfl rfl
theorem s143_95 : mm_wp d 143 95 ls st h Q ↔ mm_wp d 143 96 ls (.int (3 : Int32) :: st) h Q := wp_iconst rfl rfl
theorem s143_96 : mm_wp d 143 96 [l0, l1, l2, .int x, l4, l5] st h Q ↔ mm_wp d 143 97 [l0, l1, l2, .int x, l4, l5] (.int x :: st) h Q := wp_iload_n rfl rfl
theorem s143_97 : mm_wp d 143 97 ls (.int x2 :: .int x :: st) h Q ↔ mm_wp d 143 98 ls (.int (x * x2) :: st) h Q := wp_imul rfl
theorem s143_98 : mm_wp d 143 98 ls (.int x :: .ref a :: st) h Q ↔ ((mm_s h a).1 = 20 ∧ mm_in x (mm_s h a).2 = true) ∧ mm_wp d 143 99 ls (.int (mm_i h a x.toNatClampNeg) :: st) h Q := wp_iaload rfl
theorem s143_99 : mm_wp d 143 99 [.ref a, l1, l2, l3, l4, l5] st h Q ↔ mm_wp d 143 100 [.ref a, l1, l2, l3, l4, l5] (.ref a :: st) h Q := wp_aloadR_n rfl rfl
theorem s143_100 : mm_wp d 143 100 ls (.ref a :: st) h Q ↔ (mm_s h a).1 = 10 ∧ mm_wp d 143 103 ls (mm_o (mm_r h a 28) :: st) h Q := wp_getR rfl rfl
theorem s143_103 : mm_wp d 143 103 ls st h Q ↔ mm_wp d 143 104 ls (.int (3 : Int32) :: st) h Q := wp_iconst rfl rfl
theorem s143_104 : mm_wp d 143 104 [l0, l1, l2, .int x, l4, l5] st h Q ↔ mm_wp d 143 105 [l0, l1, l2, .int x, l4, l5] (.int x :: st) h Q := wp_iload_n rfl rfl
theorem s143_105 : mm_wp d 143 105 ls (.int x2 :: .int x :: st) h Q ↔ mm_wp d 143 106 ls (.int (x * x2) :: st) h Q := wp_imul rfl
theorem s143_106 : mm_wp d 143 106 ls (.int x :: .ref a :: st) h Q ↔ ((mm_s h a).1 = 20 ∧ mm_in x (mm_s h a).2 = true) ∧ mm_wp d 143 107 ls (.int (mm_i h a x.toNatClampNeg) :: st) h Q := wp_iaload rfl
theorem s143_107 : mm_wp d 143 107 [.ref a, l1, l2, l3, l4, l5] st h Q ↔ mm_wp d 143 108 [.ref a, l1, l2, l3, l4, l5] (.ref a :: st) h Q := wp_aloadR_n rfl rfl
theorem s143_108 : mm_wp d 143 108 ls (.ref a :: st) h Q ↔ (mm_s h a).1 = 10 ∧ mm_wp d 143 111 ls (mm_o (mm_r h a 29) :: st) h Q := wp_getR rfl rfl
theorem s143_111 : mm_wp d 143 111 ls st h Q ↔ mm_wp d 143 112 ls (.int (3 : Int32) :: st) h Q := wp_iconst rfl rfl
theorem s143_112 : mm_wp d 143 112 [l0, l1, l2, l3, .int x, l5] st h Q ↔ mm_wp d 143 114 [l0, l1, l2, l3, .int x, l5] (.int x :: st) h Q := wp_iload rfl rfl
theorem s143_114 : mm_wp d 143 114 ls (.int x2 :: .int x :: st) h Q ↔ mm_wp d 143 115 ls (.int (x * x2) :: st) h Q := wp_imul rfl
theorem s143_115 : mm_wp d 143 115 ls (.int x :: .ref a :: st) h Q ↔ ((mm_s h a).1 = 20 ∧ mm_in x (mm_s h a).2 = true) ∧ mm_wp d 143 116 ls (.int (mm_i h a x.toNatClampNeg) :: st) h Q := wp_iaload rfl
theorem s143_116 : mm_wp d 143 116 [.ref a, l1, l2, l3, l4, l5] st h Q ↔ mm_wp d 143 117 [.ref a, l1, l2, l3, l4, l5] (.ref a :: st) h Q := wp_aloadR_n rfl rfl
theorem s143_117 : mm_wp d 143 117 ls (.ref a :: st) h Q ↔ (mm_s h a).1 = 10 ∧ mm_wp d 143 120 ls (mm_o (mm_r h a 28) :: st) h Q := wp_getR rfl rfl
theorem s143_120 : mm_wp d 143 120 ls st h Q ↔ mm_wp d 143 121 ls (.int (3 : Int32) :: st) h Q := wp_iconst rfl rfl
theorem s143_121 : mm_wp d 143 121 [l0, l1, l2, l3, .int x, l5] st h Q ↔ mm_wp d 143 123 [l0, l1, l2, l3, .int x, l5] (.int x :: st) h Q := wp_iload rfl rfl
theorem s143_123 : mm_wp d 143 123 ls (.int x2 :: .int x :: st) h Q ↔ mm_wp d 143 124 ls (.int (x * x2) :: st) h Q := wp_imul rfl
theorem s143_124 : mm_wp d 143 124 ls (.int x :: .ref a :: st) h Q ↔ ((mm_s h a).1 = 20 ∧ mm_in x (mm_s h a).2 = true) ∧ mm_wp d 143 125 ls (.int (mm_i h a x.toNatClampNeg) :: st) h Q := wp_iaload rfl
theorem s143_125 : mm_wp (d + 1) 143 125 ls [.int x4, .int x3, .int x2, .int x] h Q ↔ mm_wp d 144 0 [.int x, .int x2, .int x3, .int x4, mm_j, mm_j] [] h (mm_bk (d + 1) 143 125 ls [] Q) := wp_static rfl rfl ⟨by decide, rfl⟩ ⟨Nat.le_of_ble_eq_true rfl, Nat.le_of_ble_eq_true rfl⟩ rfl rfl rfl rfl
theorem s143_128 : mm_wp d 143 128 [l0, l1, l2, l3, l4, l5] (.int x :: st) h Q ↔ mm_wp d 143 130 [l0, l1, l2, l3, l4, .int x] st h Q := wp_istore rfl rfl
theorem s143_130 : mm_wp d 143 130 [l0, l1, l2, l3, l4, .int x] st h Q ↔ mm_wp d 143 132 [l0, l1, l2, l3, l4, .int x] (.int x :: st) h Q := wp_iload rfl rfl
theorem s143_132 : mm_wp d 143 132 [.ref a, l1, l2, l3, l4, l5] st h Q ↔ mm_wp d 143 133 [.ref a, l1, l2, l3, l4, l5] (.ref a :: st) h Q := wp_aloadR_n rfl rfl
theorem s143_133 : mm_wp d 143 133 ls (.ref a :: st) h Q ↔ (mm_s h a).1 = 10 ∧ mm_wp d 143 136 ls (mm_o (mm_r h a 29) :: st) h Q := wp_getR rfl rfl
theorem s143_136 : mm_wp d 143 136 ls st h Q ↔ mm_wp d 143 137 ls (.int (3 : Int32) :: st) h Q := wp_iconst rfl rfl
theorem s143_137 : mm_wp d 143 137 [l0, l1, l2, .int x, l4, l5] st h Q ↔ mm_wp d 143 138 [l0, l1, l2, .int x, l4, l5] (.int x :: st) h Q := wp_iload_n rfl rfl
theorem s143_138 : mm_wp d 143 138 ls (.int x2 :: .int x :: st) h Q ↔ mm_wp d 143 139 ls (.int (x * x2) :: st) h Q := wp_imul rfl
theorem s143_139 : mm_wp d 143 139 ls st h Q ↔ mm_wp d 143 140 ls (.int (2 : Int32) :: st) h Q := wp_iconst rfl rfl
theorem s143_140 : mm_wp d 143 140 ls (.int x2 :: .int x :: st) h Q ↔ mm_wp d 143 141 ls (.int (x + x2) :: st) h Q := wp_iadd rfl
theorem s143_141 : mm_wp d 143 141 ls (.int x :: .ref a :: st) h Q ↔ ((mm_s h a).1 = 20 ∧ mm_in x (mm_s h a).2 = true) ∧ mm_wp d 143 142 ls (.int (mm_i h a x.toNatClampNeg) :: st) h Q := wp_iaload rfl
theorem s143_142 : mm_wp d 143 142 [.ref a, l1, l2, l3, l4, l5] st h Q ↔ mm_wp d 143 143 [.ref a, l1, l2, l3, l4, l5] (.ref a :: st) h Q := wp_aloadR_n rfl rfl
theorem s143_143 : mm_wp d 143 143 ls (.ref a :: st) h Q ↔ (mm_s h a).1 = 10 ∧ mm_wp d 143 146 ls (mm_o (mm_r h a 28) :: st) h Q := wp_getR rfl rfl
theorem s143_146 : mm_wp d 143 146 ls st h Q ↔ mm_wp d 143 147 ls (.int (3 : Int32) :: st) h Q := wp_iconst rfl rfl
theorem s143_147 : mm_wp d 143 147 [l0, l1, l2, .int x, l4, l5] st h Q ↔ mm_wp d 143 148 [l0, l1, l2, .int x, l4, l5] (.int x :: st) h Q := wp_iload_n rfl rfl
theorem s143_148 : mm_wp d 143 148 ls (.int x2 :: .int x :: st) h Q ↔ mm_wp d 143 149 ls (.int (x * x2) :: st) h Q := wp_imul rfl
theorem s143_149 : mm_wp d 143 149 ls st h Q ↔ mm_wp d 143 150 ls (.int (2 : Int32) :: st) h Q := wp_iconst rfl rfl
theorem s143_150 : mm_wp d 143 150 ls (.int x2 :: .int x :: st) h Q ↔ mm_wp d 143 151 ls (.int (x + x2) :: st) h Q := wp_iadd rfl
theorem s143_151 : mm_wp d 143 151 ls (.int x :: .ref a :: st) h Q ↔ ((mm_s h a).1 = 20 ∧ mm_in x (mm_s h a).2 = true) ∧ mm_wp d 143 152 ls (.int (mm_i h a x.toNatClampNeg) :: st) h Q := wp_iaload rfl
theorem s143_152 : mm_wp d 143 152 [.ref a, l1, l2, l3, l4, l5] st h Q ↔ mm_wp d 143 153 [.ref a, l1, l2, l3, l4, l5] (.ref a :: st) h Q := wp_aloadR_n rfl rfl
theorem s143_153 : mm_wp d 143 153 ls (.ref a :: st) h Q ↔ (mm_s h a).1 = 10 ∧ mm_wp d 143 156 ls (mm_o (mm_r h a 29) :: st) h Q := wp_getR rfl rfl
theorem s143_156 : mm_wp d 143 156 ls st h Q ↔ mm_wp d 143 157 ls (.int (3 : Int32) :: st) h Q := wp_iconst rfl rfl
theorem s143_157 : mm_wp d 143 157 [l0, l1, l2, l3, .int x, l5] st h Q ↔ mm_wp d 143 159 [l0, l1, l2, l3, .int x, l5] (.int x :: st) h Q := wp_iload rfl rfl
theorem s143_159 : mm_wp d 143 159 ls (.int x2 :: .int x :: st) h Q ↔ mm_wp d 143 160 ls (.int (x * x2) :: st) h Q := wp_imul rfl
theorem s143_160 : mm_wp d 143 160 ls st h Q ↔ mm_wp d 143 161 ls (.int (2 : Int32) :: st) h Q := wp_iconst rfl rfl
theorem s143_161 : mm_wp d 143 161 ls (.int x2 :: .int x :: st) h Q ↔ mm_wp d 143 162 ls (.int (x + x2) :: st) h Q := wp_iadd rfl
theorem s143_162 : mm_wp d 143 162 ls (.int x :: .ref a :: st) h Q ↔ ((mm_s h a).1 = 20 ∧ mm_in x (mm_s h a).2 = true) ∧ mm_wp d 143 163 ls (.int (mm_i h a x.toNatClampNeg) :: st) h Q := wp_iaload rfl
theorem s143_163 : mm_wp d 143 163 [.ref a, l1, l2, l3, l4, l5] st h Q ↔ mm_wp d 143 164 [.ref a, l1, l2, l3, l4, l5] (.ref a :: st) h Q := wp_aloadR_n rfl rfl
theorem s143_164 : mm_wp d 143 164 ls (.ref a :: st) h Q ↔ (mm_s h a).1 = 10 ∧ mm_wp d 143 167 ls (mm_o (mm_r h a 28) :: st) h Q := wp_getR rfl rfl
theorem s143_167 : mm_wp d 143 167 ls st h Q ↔ mm_wp d 143 168 ls (.int (3 : Int32) :: st) h Q := wp_iconst rfl rfl
theorem s143_168 : mm_wp d 143 168 [l0, l1, l2, l3, .int x, l5] st h Q ↔ mm_wp d 143 170 [l0, l1, l2, l3, .int x, l5] (.int x :: st) h Q := wp_iload rfl rfl
theorem s143_170 : mm_wp d 143 170 ls (.int x2 :: .int x :: st) h Q ↔ mm_wp d 143 171 ls (.int (x * x2) :: st) h Q := wp_imul rfl
theorem s143_171 : mm_wp d 143 171 ls st h Q ↔ mm_wp d 143 172 ls (.int (2 : Int32) :: st) h Q := wp_iconst rfl rfl
theorem s143_172 : mm_wp d 143 172 ls (.int x2 :: .int x :: st) h Q ↔ mm_wp d 143 173 ls (.int (x + x2) :: st) h Q := wp_iadd rfl
theorem s143_173 : mm_wp d 143 173 ls (.int x :: .ref a :: st) h Q ↔ ((mm_s h a).1 = 20 ∧ mm_in x (mm_s h a).2 = true) ∧ mm_wp d 143 174 ls (.int (mm_i h a x.toNatClampNeg) :: st) h Q := wp_iaload rfl
theorem s143_174 : mm_wp (d + 1) 143 174 ls [.int x4, .int x3, .int x2, .int x, t0] h Q ↔ mm_wp d 144 0 [.int x, .int x2, .int x3, .int x4, mm_j, mm_j] [] h (mm_bk (d + 1) 143 174 ls [t0] Q) := wp_static rfl rfl ⟨by decide, rfl⟩ ⟨Nat.le_of_ble_eq_true rfl, Nat.le_of_ble_eq_true rfl⟩ rfl rfl rfl rfl
theorem s143_177 : mm_wp d 143 177 ls (.int x2 :: .int x :: st) h Q ↔ mm_wp d 143 178 ls (.int (x * x2) :: st) h Q := wp_imul rfl
theorem s143_178 : mm_wp d 143 178 ls (.int x :: st) h Q ↔ Q (.inl (some (.int x))) h := wp_iret rfl rfl
/-! 144: LoadRoomModel.overlap(IIII)I -/
theorem s144_0 : mm_wp d 144 0 [.int x, l1, l2, l3, l4, l5] st h Q ↔ mm_wp d 144 1 [.int x, l1, l2, l3, l4, l5] (.int x :: st) h Q := wp_iload_n rfl rfl
theorem s144_1 : mm_wp d 144 1 [l0, l1, .int x, l3, l4, l5] st h Q ↔ mm_wp d 144 2 [l0, l1, .int x, l3, l4, l5] (.int x :: st) h Q := wp_iload_n rfl rfl
theorem s144_2 : mm_wp d 144 2 ls (.int x2 :: .int x :: st) h Q ↔ if x ≤ x2 then mm_wp d 144 9 ls st h Q else mm_wp d 144 5 ls st h Q := wp_icmple rfl rfl
theorem s144_5 : mm_wp d 144 5 [.int x, l1, l2, l3, l4, l5] st h Q ↔ mm_wp d 144 6 [.int x, l1, l2, l3, l4, l5] (.int x :: st) h Q := wp_iload_n rfl rfl
theorem s144_6 : mm_wp d 144 6 ls st h Q ↔ mm_wp d 144 10 ls st h Q := wp_goto rfl rfl
theorem s144_9 : mm_wp d 144 9 [l0, l1, .int x, l3, l4, l5] st h Q ↔ mm_wp d 144 10 [l0, l1, .int x, l3, l4, l5] (.int x :: st) h Q := wp_iload_n rfl rfl
theorem s144_10 : mm_wp d 144 10 [l0, l1, l2, l3, l4, l5] (.int x :: st) h Q ↔ mm_wp d 144 12 [l0, l1, l2, l3, .int x, l5] st h Q := wp_istore rfl rfl
theorem s144_12 : mm_wp d 144 12 [.int x, l1, l2, l3, l4, l5] st h Q ↔ mm_wp d 144 13 [.int x, l1, l2, l3, l4, l5] (.int x :: st) h Q := wp_iload_n rfl rfl
theorem s144_13 : mm_wp d 144 13 [l0, .int x, l2, l3, l4, l5] st h Q ↔ mm_wp d 144 14 [l0, .int x, l2, l3, l4, l5] (.int x :: st) h Q := wp_iload_n rfl rfl
theorem s144_14 : mm_wp d 144 14 ls (.int x2 :: .int x :: st) h Q ↔ mm_wp d 144 15 ls (.int (x + x2) :: st) h Q := wp_iadd rfl
theorem s144_15 : mm_wp d 144 15 [l0, l1, .int x, l3, l4, l5] st h Q ↔ mm_wp d 144 16 [l0, l1, .int x, l3, l4, l5] (.int x :: st) h Q := wp_iload_n rfl rfl
theorem s144_16 : mm_wp d 144 16 [l0, l1, l2, .int x, l4, l5] st h Q ↔ mm_wp d 144 17 [l0, l1, l2, .int x, l4, l5] (.int x :: st) h Q := wp_iload_n rfl rfl
theorem s144_17 : mm_wp d 144 17 ls (.int x2 :: .int x :: st) h Q ↔ mm_wp d 144 18 ls (.int (x + x2) :: st) h Q := wp_iadd rfl
theorem s144_18 : mm_wp d 144 18 ls (.int x2 :: .int x :: st) h Q ↔ if x2 ≤ x then mm_wp d 144 27 ls st h Q else mm_wp d 144 21 ls st h Q := wp_icmpge rfl rfl
theorem s144_21 : mm_wp d 144 21 [.int x, l1, l2, l3, l4, l5] st h Q ↔ mm_wp d 144 22 [.int x, l1, l2, l3, l4, l5] (.int x :: st) h Q := wp_iload_n rfl rfl
theorem s144_22 : mm_wp d 144 22 [l0, .int x, l2, l3, l4, l5] st h Q ↔ mm_wp d 144 23 [l0, .int x, l2, l3, l4, l5] (.int x :: st) h Q := wp_iload_n rfl rfl
theorem s144_23 : mm_wp d 144 23 ls (.int x2 :: .int x :: st) h Q ↔ mm_wp d 144 24 ls (.int (x + x2) :: st) h Q := wp_iadd rfl
theorem s144_24 : mm_wp d 144 24 ls st h Q ↔ mm_wp d 144 30 ls st h Q := wp_goto rfl rfl
theorem s144_27 : mm_wp d 144 27 [l0, l1, .int x, l3, l4, l5] st h Q ↔ mm_wp d 144 28 [l0, l1, .int x, l3, l4, l5] (.int x :: st) h Q := wp_iload_n rfl rfl
theorem s144_28 : mm_wp d 144 28 [l0, l1, l2, .int x, l4, l5] st h Q ↔ mm_wp d 144 29 [l0, l1, l2, .int x, l4, l5] (.int x :: st) h Q := wp_iload_n rfl rfl
theorem s144_29 : mm_wp d 144 29 ls (.int x2 :: .int x :: st) h Q ↔ mm_wp d 144 30 ls (.int (x + x2) :: st) h Q := wp_iadd rfl
theorem s144_30 : mm_wp d 144 30 [l0, l1, l2, l3, l4, l5] (.int x :: st) h Q ↔ mm_wp d 144 32 [l0, l1, l2, l3, l4, .int x] st h Q := wp_istore rfl rfl
theorem s144_32 : mm_wp d 144 32 [l0, l1, l2, l3, l4, .int x] st h Q ↔ mm_wp d 144 34 [l0, l1, l2, l3, l4, .int x] (.int x :: st) h Q := wp_iload rfl rfl
theorem s144_34 : mm_wp d 144 34 [l0, l1, l2, l3, .int x, l5] st h Q ↔ mm_wp d 144 36 [l0, l1, l2, l3, .int x, l5] (.int x :: st) h Q := wp_iload rfl rfl
theorem s144_36 : mm_wp d 144 36 ls (.int x2 :: .int x :: st) h Q ↔ if x ≤ x2 then mm_wp d 144 47 ls st h Q else mm_wp d 144 39 ls st h Q := wp_icmple rfl rfl
theorem s144_39 : mm_wp d 144 39 [l0, l1, l2, l3, l4, .int x] st h Q ↔ mm_wp d 144 41 [l0, l1, l2, l3, l4, .int x] (.int x :: st) h Q := wp_iload rfl rfl
theorem s144_41 : mm_wp d 144 41 [l0, l1, l2, l3, .int x, l5] st h Q ↔ mm_wp d 144 43 [l0, l1, l2, l3, .int x, l5] (.int x :: st) h Q := wp_iload rfl rfl
theorem s144_43 : mm_wp d 144 43 ls (.int x2 :: .int x :: st) h Q ↔ mm_wp d 144 44 ls (.int (x - x2) :: st) h Q := wp_isub rfl
theorem s144_44 : mm_wp d 144 44 ls st h Q ↔ mm_wp d 144 48 ls st h Q := wp_goto rfl rfl
theorem s144_47 : mm_wp d 144 47 ls st h Q ↔ mm_wp d 144 48 ls (.int (0 : Int32) :: st) h Q := wp_iconst rfl rfl
theorem s144_48 : mm_wp d 144 48 ls (.int x :: st) h Q ↔ Q (.inl (some (.int x))) h := wp_iret rfl rfl
/-! 145: LoadRoomModel.axle(I)I -/
theorem s145_0 : mm_wp d 145 0 [l0, .int x, l2] st h Q ↔ mm_wp d 145 1 [l0, .int x, l2] (.int x :: st) h Q := wp_iload_n rfl rfl
theorem s145_1 : mm_wp d 145 1 ls st h Q ↔ mm_wp d 145 2 ls (.int (0 : Int32) :: st) h Q := wp_iconst rfl rfl
theorem s145_2 : mm_wp d 145 2 ls st h Q ↔ mm_wp d 145 5 ls (.int (1000 : Int32) :: st) h Q := wp_sipush rfl rfl
theorem s145_5 : mm_wp (d + 1) 145 5 ls [.int x3, .int x2, .int x] h Q ↔ mm_wp d 112 0 [.int x, .int x2, .int x3] [] h (mm_bk (d + 1) 145 5 ls [] Q) := wp_static rfl rfl ⟨by decide, rfl⟩ ⟨Nat.le_of_ble_eq_true rfl, Nat.le_of_ble_eq_true rfl⟩ rfl rfl rfl rfl
theorem s145_8 : mm_wp d 145 8 ls (.int x :: st) h Q ↔ if x = 0 then mm_wp d 145 37 ls st h Q else mm_wp d 145 11 ls st h Q := wp_ifeq rfl rfl
theorem s145_11 : mm_wp d 145 11 [.ref a, l1, l2] st h Q ↔ mm_wp d 145 12 [.ref a, l1, l2] (.ref a :: st) h Q := wp_aloadR_n rfl rfl
theorem s145_12 : mm_wp d 145 12 ls (.ref a :: st) h Q ↔ (mm_s h a).1 = 10 ∧ mm_wp d 145 15 ls (.int (mm_i h a 31) :: st) h Q := wp_getI rfl rfl (by decide) (by decide)
theorem s145_15 : mm_wp d 145 15 ls (.int x :: st) h Q ↔ if x = 0 then mm_wp d 145 33 ls st h Q else mm_wp d 145 18 ls st h Q := wp_ifeq rfl rfl
theorem s145_18 : mm_wp d 145 18 [l0, .int x, l2] st h Q ↔ mm_wp d 145 19 [l0, .int x, l2] (.int x :: st) h Q := wp_iload_n rfl rfl
theorem s145_19 : mm_wp d 145 19 [.ref a, l1, l2] st h Q ↔ mm_wp d 145 20 [.ref a, l1, l2] (.ref a :: st) h Q := wp_aloadR_n rfl rfl
theorem s145_20 : mm_wp d 145 20 ls (.ref a :: st) h Q ↔ (mm_s h a).1 = 10 ∧ mm_wp d 145 23 ls (mm_o (mm_r h a 32) :: st) h Q := wp_getR rfl rfl
theorem s145_23 : mm_wp d 145 23 [.ref a, l1, l2] st h Q ↔ mm_wp d 145 24 [.ref a, l1, l2] (.ref a :: st) h Q := wp_aloadR_n rfl rfl
theorem s145_24 : mm_wp d 145 24 ls (.ref a :: st) h Q ↔ (mm_s h a).1 = 10 ∧ mm_wp d 145 27 ls (.int (mm_i h a 31) :: st) h Q := wp_getI rfl rfl (by decide) (by decide)
theorem s145_27 : mm_wp d 145 27 ls st h Q ↔ mm_wp d 145 28 ls (.int (1 : Int32) :: st) h Q := wp_iconst rfl rfl
theorem s145_28 : mm_wp d 145 28 ls (.int x2 :: .int x :: st) h Q ↔ mm_wp d 145 29 ls (.int (x - x2) :: st) h Q := wp_isub rfl
theorem s145_29 : mm_wp d 145 29 ls (.int x :: .ref a :: st) h Q ↔ ((mm_s h a).1 = 20 ∧ mm_in x (mm_s h a).2 = true) ∧ mm_wp d 145 30 ls (.int (mm_i h a x.toNatClampNeg) :: st) h Q := wp_iaload rfl
theorem s145_30 : mm_wp d 145 30 ls (.int x2 :: .int x :: st) h Q ↔ if x ≤ x2 then mm_wp d 145 37 ls st h Q else mm_wp d 145 33 ls st h Q := wp_icmple rfl rfl
theorem s145_33 : mm_wp d 145 33 ls st h Q ↔ mm_wp d 145 34 ls (.int (1 : Int32) :: st) h Q := wp_iconst rfl rfl
theorem s145_34 : mm_wp d 145 34 ls st h Q ↔ mm_wp d 145 38 ls st h Q := wp_goto rfl rfl
theorem s145_37 : mm_wp d 145 37 ls st h Q ↔ mm_wp d 145 38 ls (.int (0 : Int32) :: st) h Q := wp_iconst rfl rfl
theorem s145_38 : mm_wp d 145 38 [l0, l1, l2] (.int x :: st) h Q ↔ mm_wp d 145 39 [l0, l1, .int x] st h Q := wp_istore_n rfl rfl
theorem s145_39 : mm_wp d 145 39 [.ref a, l1, l2] st h Q ↔ mm_wp d 145 40 [.ref a, l1, l2] (.ref a :: st) h Q := wp_aloadR_n rfl rfl
theorem s145_40 : mm_wp d 145 40 [l0, l1, .int x] st h Q ↔ mm_wp d 145 41 [l0, l1, .int x] (.int x :: st) h Q := wp_iload_n rfl rfl
theorem s145_41 : mm_wp d 145 41 ls (.int x :: st) h Q ↔ if x = 0 then mm_wp d 145 44 ls st h Q else mm_wp d 145 48 ls st h Q := wp_ifne rfl rfl
theorem s145_44 : mm_wp d 145 44 ls st h Q ↔ mm_wp d 145 45 ls (.int (1 : Int32) :: st) h Q := wp_iconst rfl rfl
theorem s145_45 : mm_wp d 145 45 ls st h Q ↔ mm_wp d 145 62 ls st h Q := wp_goto rfl rfl
theorem s145_48 : mm_wp d 145 48 [.ref a, l1, l2] st h Q ↔ mm_wp d 145 49 [.ref a, l1, l2] (.ref a :: st) h Q := wp_aloadR_n rfl rfl
theorem s145_49 : mm_wp d 145 49 ls (.ref a :: st) h Q ↔ (mm_s h a).1 = 10 ∧ mm_wp d 145 52 ls (.int (mm_i h a 31) :: st) h Q := wp_getI rfl rfl (by decide) (by decide)
theorem s145_52 : mm_wp d 145 52 ls st h Q ↔ mm_wp d 145 54 ls (.int (6 : Int32) :: st) h Q := wp_bipush rfl rfl
theorem s145_54 : mm_wp d 145 54 ls (.int x2 :: .int x :: st) h Q ↔ if x = x2 then mm_wp d 145 57 ls st h Q else mm_wp d 145 61 ls st h Q := wp_icmpne rfl rfl
theorem s145_57 : mm_wp d 145 57 ls st h Q ↔ mm_wp d 145 58 ls (.int (2 : Int32) :: st) h Q := wp_iconst rfl rfl
theorem s145_58 : mm_wp d 145 58 ls st h Q ↔ mm_wp d 145 62 ls st h Q := wp_goto rfl rfl
theorem s145_61 : mm_wp d 145 61 ls st h Q ↔ mm_wp d 145 62 ls (.int (0 : Int32) :: st) h Q := wp_iconst rfl rfl
theorem s145_62 : mm_wp d 145 62 ls (.int x :: .ref a :: st) h Q ↔ (mm_s h a).1 = 10 ∧ mm_wp d 145 65 ls st (mm_pi h a 0 x) Q := wp_putI rfl rfl
theorem s145_65 : mm_wp d 145 65 [.ref a, l1, l2] st h Q ↔ mm_wp d 145 66 [.ref a, l1, l2] (.ref a :: st) h Q := wp_aloadR_n rfl rfl
theorem s145_66 : mm_wp d 145 66 ls (.ref a :: st) h Q ↔ (mm_s h a).1 = 10 ∧ mm_wp d 145 69 ls (.int (mm_i h a 0) :: st) h Q := wp_getI rfl rfl (by decide) (by decide)
theorem s145_69 : mm_wp d 145 69 ls (.int x :: st) h Q ↔ if x ≤ 0 then mm_wp d 145 74 ls st h Q else mm_wp d 145 72 ls st h Q := wp_ifle rfl rfl
theorem s145_72 : mm_wp d 145 72 ls st h Q ↔ mm_wp d 145 73 ls (.int (0 : Int32) :: st) h Q := wp_iconst rfl rfl
theorem s145_73 : mm_wp d 145 73 ls (.int x :: st) h Q ↔ Q (.inl (some (.int x))) h := wp_iret rfl rfl
theorem s145_74 : mm_wp d 145 74 [.ref a, l1, l2] st h Q ↔ mm_wp d 145 75 [.ref a, l1, l2] (.ref a :: st) h Q := wp_aloadR_n rfl rfl
theorem s145_75 : mm_wp d 145 75 ls (.ref a :: st) h Q ↔ (mm_s h a).1 = 10 ∧ mm_wp d 145 78 ls (mm_o (mm_r h a 32) :: st) h Q := wp_getR rfl rfl
theorem s145_78 : mm_wp d 145 78 [.ref a, l1, l2] st h Q ↔ mm_wp d 145 79 [.ref a, l1, l2] (.ref a :: st) h Q := wp_aloadR_n rfl rfl
theorem s145_79 : mm_wp d 145 79 ls (.ref a :: st) h Q ↔ (mm_s h a).1 = 10 ∧ mm_wp d 145 82 ls (.int (mm_i h a 31) :: st) h Q := wp_getI rfl rfl (by decide) (by decide)
theorem s145_82 : mm_wp d 145 82 [l0, .int x, l2] st h Q ↔ mm_wp d 145 83 [l0, .int x, l2] (.int x :: st) h Q := wp_iload_n rfl rfl
theorem s145_83 : mm_wp d 145 83 ls (.int x2 :: .int x :: .ref a :: st) h Q ↔ ((mm_s h a).1 = 20 ∧ ¬ a = 0 ∧ mm_in x (mm_s h a).2 = true) ∧ mm_wp d 145 84 ls st (mm_pi h a x.toNatClampNeg x2) Q := wp_iastore rfl
theorem s145_84 : mm_wp d 145 84 [.ref a, l1, l2] st h Q ↔ mm_wp d 145 85 [.ref a, l1, l2] (.ref a :: st) h Q := wp_aloadR_n rfl rfl
theorem s145_85 : mm_wp d 145 85 ls (.ref a :: st) h Q ↔ mm_wp d 145 86 ls (.ref a :: .ref a :: st) h Q := wp_dupR rfl
theorem s145_86 : mm_wp d 145 86 ls (.ref a :: st) h Q ↔ (mm_s h a).1 = 10 ∧ mm_wp d 145 89 ls (.int (mm_i h a 31) :: st) h Q := wp_getI rfl rfl (by decide) (by decide)
theorem s145_89 : mm_wp d 145 89 ls st h Q ↔ mm_wp d 145 90 ls (.int (1 : Int32) :: st) h Q := wp_iconst rfl rfl
theorem s145_90 : mm_wp d 145 90 ls (.int x2 :: .int x :: st) h Q ↔ mm_wp d 145 91 ls (.int (x + x2) :: st) h Q := wp_iadd rfl
theorem s145_91 : mm_wp d 145 91 ls (.int x :: .ref a :: st) h Q ↔ (mm_s h a).1 = 10 ∧ mm_wp d 145 94 ls st (mm_pi h a 31 x) Q := wp_putI rfl rfl
theorem s145_94 : mm_wp d 145 94 [.ref a, l1, l2] st h Q ↔ mm_wp d 145 95 [.ref a, l1, l2] (.ref a :: st) h Q := wp_aloadR_n rfl rfl
theorem s145_95 : mm_wp d 145 95 ls (.ref a :: st) h Q ↔ (mm_s h a).1 = 10 ∧ mm_wp d 145 98 ls (.int (mm_i h a 31) :: st) h Q := wp_getI rfl rfl (by decide) (by decide)
theorem s145_98 : mm_wp d 145 98 ls st h Q ↔ mm_wp d 145 99 ls (.int (1 : Int32) :: st) h Q := wp_iconst rfl rfl
theorem s145_99 : mm_wp d 145 99 ls (.int x2 :: .int x :: st) h Q ↔ mm_wp d 145 100 ls (.int (x - x2) :: st) h Q := wp_isub rfl
theorem s145_100 : mm_wp d 145 100 ls (.int x :: st) h Q ↔ Q (.inl (some (.int x))) h := wp_iret rfl rfl
/-! 146: LoadRoomModel.load(II)J -/
theorem s146_0 : mm_wp d 146 0 [.ref a, l1, l2, l3, l4, l5, l6, l7, l8, l9, l10, l11, l12, l13, l14, l15, l16] st h Q ↔ mm_wp d 146 1 [.ref a, l1, l2, l3, l4, l5, l6, l7, l8, l9, l10, l11, l12, l13, l14, l15, l16] (.ref a :: st) h Q := wp_aloadR_n rfl rfl
theorem s146_1 : mm_wp d 146 1 [.ref a, l1, l2, l3, l4, l5, l6, l7, l8, l9, l10, l11, l12, l13, l14, l15, l16] st h Q ↔ mm_wp d 146 2 [.ref a, l1, l2, l3, l4, l5, l6, l7, l8, l9, l10, l11, l12, l13, l14, l15, l16] (.ref a :: st) h Q := wp_aloadR_n rfl rfl
theorem s146_2 : mm_wp d 146 2 ls (.ref a :: st) h Q ↔ (mm_s h a).1 = 10 ∧ mm_wp d 146 5 ls (.int (mm_i h a 31) :: st) h Q := wp_getI rfl rfl (by decide) (by decide)
theorem s146_5 : mm_wp d 146 5 ls (.int x :: st) h Q ↔ if x = 0 then mm_wp d 146 8 ls st h Q else mm_wp d 146 12 ls st h Q := wp_ifne rfl rfl
theorem s146_8 : mm_wp d 146 8 ls st h Q ↔ mm_wp d 146 9 ls (.int (1 : Int32) :: st) h Q := wp_iconst rfl rfl
theorem s146_9 : mm_wp d 146 9 ls st h Q ↔ mm_wp d 146 44 ls st h Q := wp_goto rfl rfl
theorem s146_12 : mm_wp d 146 12 [l0, .int x, l2, l3, l4, l5, l6, l7, l8, l9, l10, l11, l12, l13, l14, l15, l16] st h Q ↔ mm_wp d 146 13 [l0, .int x, l2, l3, l4, l5, l6, l7, l8, l9, l10, l11, l12, l13, l14, l15, l16] (.int x :: st) h Q := wp_iload_n rfl rfl
theorem s146_13 : mm_wp d 146 13 ls st h Q ↔ mm_wp d 146 14 ls (.int (0 : Int32) :: st) h Q := wp_iconst rfl rfl
theorem s146_14 : mm_wp d 146 14 [.ref a, l1, l2, l3, l4, l5, l6, l7, l8, l9, l10, l11, l12, l13, l14, l15, l16] st h Q ↔ mm_wp d 146 15 [.ref a, l1, l2, l3, l4, l5, l6, l7, l8, l9, l10, l11, l12, l13, l14, l15, l16] (.ref a :: st) h Q := wp_aloadR_n rfl rfl
theorem s146_15 : mm_wp d 146 15 ls (.ref a :: st) h Q ↔ (mm_s h a).1 = 10 ∧ mm_wp d 146 18 ls (.int (mm_i h a 31) :: st) h Q := wp_getI rfl rfl (by decide) (by decide)
theorem s146_18 : mm_wp d 146 18 ls st h Q ↔ mm_wp d 146 19 ls (.int (1 : Int32) :: st) h Q := wp_iconst rfl rfl
theorem s146_19 : mm_wp d 146 19 ls (.int x2 :: .int x :: st) h Q ↔ mm_wp d 146 20 ls (.int (x - x2) :: st) h Q := wp_isub rfl
theorem s146_20 : mm_wp (d + 1) 146 20 ls [.int x3, .int x2, .int x, t0] h Q ↔ mm_wp d 112 0 [.int x, .int x2, .int x3] [] h (mm_bk (d + 1) 146 20 ls [t0] Q) := wp_static rfl rfl ⟨by decide, rfl⟩ ⟨Nat.le_of_ble_eq_true rfl, Nat.le_of_ble_eq_true rfl⟩ rfl rfl rfl rfl
theorem s146_23 : mm_wp d 146 23 ls (.int x :: st) h Q ↔ if x = 0 then mm_wp d 146 26 ls st h Q else mm_wp d 146 30 ls st h Q := wp_ifne rfl rfl
theorem s146_26 : mm_wp d 146 26 ls st h Q ↔ mm_wp d 146 27 ls (.int (2 : Int32) :: st) h Q := wp_iconst rfl rfl
theorem s146_27 : mm_wp d 146 27 ls st h Q ↔ mm_wp d 146 44 ls st h Q := wp_goto rfl rfl
theorem s146_30 : mm_wp d 146 30 [l0, l1, .int x, l3, l4, l5, l6, l7, l8, l9, l10, l11, l12, l13, l14, l15, l16] st h Q ↔ mm_wp d 146 31 [l0, l1, .int x, l3, l4, l5, l6, l7, l8, l9, l10, l11, l12, l13, l14, l15, l16] (.int x :: st) h Q := wp_iload_n rfl rfl
theorem s146_31 : mm_wp d 146 31 ls st h Q ↔ mm_wp d 146 32 ls (.int (0 : Int32) :: st) h Q := wp_iconst rfl rfl
theorem s146_32 : mm_wp d 146 32 ls st h Q ↔ mm_wp d 146 33 ls (.int (1 : Int32) :: st) h Q := wp_iconst rfl rfl
theorem s146_33 : mm_wp (d + 1) 146 33 ls [.int x3, .int x2, .int x, t0] h Q ↔ mm_wp d 112 0 [.int x, .int x2, .int x3] [] h (mm_bk (d + 1) 146 33 ls [t0] Q) := wp_static rfl rfl ⟨by decide, rfl⟩ ⟨Nat.le_of_ble_eq_true rfl, Nat.le_of_ble_eq_true rfl⟩ rfl rfl rfl rfl
theorem s146_36 : mm_wp d 146 36 ls (.int x :: st) h Q ↔ if x = 0 then mm_wp d 146 43 ls st h Q else mm_wp d 146 39 ls st h Q := wp_ifeq rfl rfl
theorem s146_39 : mm_wp d 146 39 ls st h Q ↔ mm_wp d 146 40 ls (.int (0 : Int32) :: st) h Q := wp_iconst rfl rfl
theorem s146_40 : mm_wp d 146 40 ls st h Q ↔ mm_wp d 146 44 ls st h Q := wp_goto rfl rfl
theorem s146_43 : mm_wp d 146 43 ls st h Q ↔ mm_wp d 146 44 ls (.int (3 : Int32) :: st) h Q := wp_iconst rfl rfl
theorem s146_44 : mm_wp d 146 44 ls (.int x :: .ref a :: st) h Q ↔ (mm_s h a).1 = 10 ∧ mm_wp d 146 47 ls st (mm_pi h a 0 x) Q := wp_putI rfl rfl
theorem s146_47 : mm_wp d 146 47 [.ref a, l1, l2, l3, l4, l5, l6, l7, l8, l9, l10, l11, l12, l13, l14, l15, l16] st h Q ↔ mm_wp d 146 48 [.ref a, l1, l2, l3, l4, l5, l6, l7, l8, l9, l10, l11, l12, l13, l14, l15, l16] (.ref a :: st) h Q := wp_aloadR_n rfl rfl
theorem s146_48 : mm_wp d 146 48 ls (.ref a :: st) h Q ↔ (mm_s h a).1 = 10 ∧ mm_wp d 146 51 ls (.int (mm_i h a 0) :: st) h Q := wp_getI rfl rfl (by decide) (by decide)
theorem s146_51 : mm_wp d 146 51 ls (.int x :: st) h Q ↔ if x ≤ 0 then mm_wp d 146 56 ls st h Q else mm_wp d 146 54 ls st h Q := wp_ifle rfl rfl
theorem s146_54 : mm_wp d 146 54 ls st h Q ↔ mm_wp d 146 55 ls (.long (0 : Int64) :: st) h Q := wp_lconst rfl rfl
theorem s146_55 : mm_wp d 146 55 ls (.long w :: st) h Q ↔ Q (.inl (some (.long w))) h := wp_lret rfl rfl
theorem s146_56 : mm_wp d 146 56 ls st h Q ↔ mm_wp d 146 57 ls (.long (0 : Int64) :: st) h Q := wp_lconst rfl rfl
theorem s146_57 : mm_wp d 146 57 [l0, l1, l2, l3, l4, l5, l6, l7, l8, l9, l10, l11, l12, l13, l14, l15, l16] (.long w :: st) h Q ↔ mm_wp d 146 58 [l0, l1, l2, .long w, mm_j, l5, l6, l7, l8, l9, l10, l11, l12, l13, l14, l15, l16] st h Q := wp_lstore_n rfl rfl
theorem s146_58 : mm_wp d 146 58 ls st h Q ↔ mm_wp d 146 59 ls (.long (0 : Int64) :: st) h Q := wp_lconst rfl rfl
theorem s146_59 : mm_wp d 146 59 [l0, l1, l2, l3, l4, l5, l6, l7, l8, l9, l10, l11, l12, l13, l14, l15, l16] (.long w :: st) h Q ↔ mm_wp d 146 61 [l0, l1, l2, l3, l4, .long w, mm_j, l7, l8, l9, l10, l11, l12, l13, l14, l15, l16] st h Q := wp_lstore rfl rfl
theorem s146_61 : mm_wp d 146 61 ls st h Q ↔ mm_wp d 146 62 ls (.int (0 : Int32) :: st) h Q := wp_iconst rfl rfl
theorem s146_62 : mm_wp d 146 62 [l0, l1, l2, l3, l4, l5, l6, l7, l8, l9, l10, l11, l12, l13, l14, l15, l16] (.int x :: st) h Q ↔ mm_wp d 146 64 [l0, l1, l2, l3, l4, l5, l6, .int x, l8, l9, l10, l11, l12, l13, l14, l15, l16] st h Q := wp_istore rfl rfl
theorem s146_64 : mm_wp d 146 64 [l0, l1, l2, l3, l4, l5, l6, .int x, l8, l9, l10, l11, l12, l13, l14, l15, l16] st h Q ↔ mm_wp d 146 66 [l0, l1, l2, l3, l4, l5, l6, .int x, l8, l9, l10, l11, l12, l13, l14, l15, l16] (.int x :: st) h Q := wp_iload rfl rfl
theorem s146_66 : mm_wp d 146 66 [.ref a, l1, l2, l3, l4, l5, l6, l7, l8, l9, l10, l11, l12, l13, l14, l15, l16] st h Q ↔ mm_wp d 146 67 [.ref a, l1, l2, l3, l4, l5, l6, l7, l8, l9, l10, l11, l12, l13, l14, l15, l16] (.ref a :: st) h Q := wp_aloadR_n rfl rfl
theorem s146_67 : mm_wp d 146 67 ls (.ref a :: st) h Q ↔ (mm_s h a).1 = 10 ∧ mm_wp d 146 70 ls (.int (mm_i h a 23) :: st) h Q := wp_getI rfl rfl (by decide) (by decide)
theorem s146_70 : mm_wp d 146 70 ls (.int x2 :: .int x :: st) h Q ↔ if x2 ≤ x then mm_wp d 146 208 ls st h Q else mm_wp d 146 73 ls st h Q := wp_icmpge rfl rfl
theorem s146_73 : mm_wp d 146 73 [.ref a, l1, l2, l3, l4, l5, l6, l7, l8, l9, l10, l11, l12, l13, l14, l15, l16] st h Q ↔ mm_wp d 146 74 [.ref a, l1, l2, l3, l4, l5, l6, l7, l8, l9, l10, l11, l12, l13, l14, l15, l16] (.ref a :: st) h Q := wp_aloadR_n rfl rfl
theorem s146_74 : mm_wp d 146 74 ls (.ref a :: st) h Q ↔ (mm_s h a).1 = 10 ∧ mm_wp d 146 77 ls (mm_o (mm_r h a 4) :: st) h Q := wp_getR rfl rfl
theorem s146_77 : mm_wp d 146 77 [.ref a, l1, l2, l3, l4, l5, l6, l7, l8, l9, l10, l11, l12, l13, l14, l15, l16] st h Q ↔ mm_wp d 146 78 [.ref a, l1, l2, l3, l4, l5, l6, l7, l8, l9, l10, l11, l12, l13, l14, l15, l16] (.ref a :: st) h Q := wp_aloadR_n rfl rfl
theorem s146_78 : mm_wp d 146 78 ls (.ref a :: st) h Q ↔ (mm_s h a).1 = 10 ∧ mm_wp d 146 81 ls (mm_o (mm_r h a 26) :: st) h Q := wp_getR rfl rfl
theorem s146_81 : mm_wp d 146 81 [l0, l1, l2, l3, l4, l5, l6, .int x, l8, l9, l10, l11, l12, l13, l14, l15, l16] st h Q ↔ mm_wp d 146 83 [l0, l1, l2, l3, l4, l5, l6, .int x, l8, l9, l10, l11, l12, l13, l14, l15, l16] (.int x :: st) h Q := wp_iload rfl rfl
theorem s146_83 : mm_wp d 146 83 ls (.int x :: .ref a :: st) h Q ↔ ((mm_s h a).1 = 20 ∧ mm_in x (mm_s h a).2 = true) ∧ mm_wp d 146 84 ls (.int (mm_i h a x.toNatClampNeg) :: st) h Q := wp_iaload rfl
theorem s146_84 : mm_wp d 146 84 ls (.int x :: .ref a :: st) h Q ↔ ((mm_s h a).1 = 20 ∧ mm_in x (mm_s h a).2 = true) ∧ mm_wp d 146 85 ls (.int (mm_i h a x.toNatClampNeg) :: st) h Q := wp_iaload rfl
theorem s146_85 : mm_wp d 146 85 [l0, l1, l2, l3, l4, l5, l6, .int y, l8, l9, l10, l11, l12, l13, l14, l15, l16] (.int x :: st) h Q ↔ mm_wp d 146 87 [l0, l1, l2, l3, l4, l5, l6, .int y, .int x, l9, l10, l11, l12, l13, l14, l15, l16] st h Q := wp_istore rfl rfl
theorem s146_87 : mm_wp d 146 87 ls st h Q ↔ mm_wp d 146 88 ls (.int (2 : Int32) :: st) h Q := wp_iconst rfl rfl
theorem s146_88 : mm_wp d 146 88 [.ref a, l1, l2, l3, l4, l5, l6, l7, l8, l9, l10, l11, l12, l13, l14, l15, l16] st h Q ↔ mm_wp d 146 89 [.ref a, l1, l2, l3, l4, l5, l6, l7, l8, l9, l10, l11, l12, l13, l14, l15, l16] (.ref a :: st) h Q := wp_aloadR_n rfl rfl
theorem s146_89 : mm_wp d 146 89 ls (.ref a :: st) h Q ↔ (mm_s h a).1 = 10 ∧ mm_wp d 146 92 ls (mm_o (mm_r h a 29) :: st) h Q := wp_getR rfl rfl
theorem s146_92 : mm_wp d 146 92 ls st h Q ↔ mm_wp d 146 93 ls (.int (3 : Int32) :: st) h Q := wp_iconst rfl rfl
theorem s146_93 : mm_wp d 146 93 [l0, l1, l2, l3, l4, l5, l6, .int x, l8, l9, l10, l11, l12, l13, l14, l15, l16] st h Q ↔ mm_wp d 146 95 [l0, l1, l2, l3, l4, l5, l6, .int x, l8, l9, l10, l11, l12, l13, l14, l15, l16] (.int x :: st) h Q := wp_iload rfl rfl
theorem s146_95 : mm_wp d 146 95 ls (.int x2 :: .int x :: st) h Q ↔ mm_wp d 146 96 ls (.int (x * x2) :: st) h Q := wp_imul rfl
theorem s146_96 : mm_wp d 146 96 ls st h Q ↔ mm_wp d 146 97 ls (.int (2 : Int32) :: st) h Q := wp_iconst rfl rfl
theorem s146_97 : mm_wp d 146 97 ls (.int x2 :: .int x :: st) h Q ↔ mm_wp d 146 98 ls (.int (x + x2) :: st) h Q := wp_iadd rfl
theorem s146_98 : mm_wp d 146 98 ls (.int x :: .ref a :: st) h Q ↔ ((mm_s h a).1 = 20 ∧ mm_in x (mm_s h a).2 = true) ∧ mm_wp d 146 99 ls (.int (mm_i h a x.toNatClampNeg) :: st) h Q := wp_iaload rfl
theorem s146_99 : mm_wp d 146 99 ls (.int x2 :: .int x :: st) h Q ↔ mm_wp d 146 100 ls (.int (x * x2) :: st) h Q := wp_imul rfl
theorem s146_100 : mm_wp d 146 100 [.ref a, l1, l2, l3, l4, l5, l6, l7, l8, l9, l10, l11, l12, l13, l14, l15, l16] st h Q ↔ mm_wp d 146 101 [.ref a, l1, l2, l3, l4, l5, l6, l7, l8, l9, l10, l11, l12, l13, l14, l15, l16] (.ref a :: st) h Q := wp_aloadR_n rfl rfl
theorem s146_101 : mm_wp d 146 101 ls (.ref a :: st) h Q ↔ (mm_s h a).1 = 10 ∧ mm_wp d 146 104 ls (mm_o (mm_r h a 28) :: st) h Q := wp_getR rfl rfl
theorem s146_104 : mm_wp d 146 104 ls st h Q ↔ mm_wp d 146 105 ls (.int (3 : Int32) :: st) h Q := wp_iconst rfl rfl
theorem s146_105 : mm_wp d 146 105 [l0, l1, l2, l3, l4, l5, l6, .int x, l8, l9, l10, l11, l12, l13, l14, l15, l16] st h Q ↔ mm_wp d 146 107 [l0, l1, l2, l3, l4, l5, l6, .int x, l8, l9, l10, l11, l12, l13, l14, l15, l16] (.int x :: st) h Q := wp_iload rfl rfl
theorem s146_107 : mm_wp d 146 107 ls (.int x2 :: .int x :: st) h Q ↔ mm_wp d 146 108 ls (.int (x * x2) :: st) h Q := wp_imul rfl
theorem s146_108 : mm_wp d 146 108 ls st h Q ↔ mm_wp d 146 109 ls (.int (2 : Int32) :: st) h Q := wp_iconst rfl rfl
theorem s146_109 : mm_wp d 146 109 ls (.int x2 :: .int x :: st) h Q ↔ mm_wp d 146 110 ls (.int (x + x2) :: st) h Q := wp_iadd rfl
theorem s146_110 : mm_wp d 146 110 ls (.int x :: .ref a :: st) h Q ↔ ((mm_s h a).1 = 20 ∧ mm_in x (mm_s h a).2 = true) ∧ mm_wp d 146 111 ls (.int (mm_i h a x.toNatClampNeg) :: st) h Q := wp_iaload rfl
theorem s146_111 : mm_wp d 146 111 ls (.int x2 :: .int x :: st) h Q ↔ mm_wp d 146 112 ls (.int (x + x2) :: st) h Q := wp_iadd rfl
theorem s146_112 : mm_wp d 146 112 [l0, l1, l2, l3, l4, l5, l6, l7, l8, l9, l10, l11, l12, l13, l14, l15, l16] (.int x :: st) h Q ↔ mm_wp d 146 114 [l0, l1, l2, l3, l4, l5, l6, l7, l8, .int x, l10, l11, l12, l13, l14, l15, l16] st h Q := wp_istore rfl rfl
theorem s146_114 : mm_wp d 146 114 [.ref a, l1, l2, l3, l4, l5, l6, l7, l8, l9, l10, l11, l12, l13, l14, l15, l16] st h Q ↔ mm_wp d 146 115 [.ref a, l1, l2, l3, l4, l5, l6, l7, l8, l9, l10, l11, l12, l13, l14, l15, l16] (.ref a :: st) h Q := wp_aloadR_n rfl rfl
theorem s146_115 : mm_wp d 146 115 [l0, l1, l2, l3, l4, l5, l6, l7, l8, .int x, l10, l11, l12, l13, l14, l15, l16] st h Q ↔ mm_wp d 146 117 [l0, l1, l2, l3, l4, l5, l6, l7, l8, .int x, l10, l11, l12, l13, l14, l15, l16] (.int x :: st) h Q := wp_iload rfl rfl
theorem s146_117 : mm_wp (d + 1) 146 117 ls [.int x2, .ref a] h Q ↔ (mm_s h a).1 = 10 ∧ mm_wp d 147 0 [.ref a, .int x2, mm_j] [] h (mm_bk (d + 1) 146 117 ls [] Q) := wp_virtual rfl rfl ⟨by decide, rfl⟩ ⟨Nat.le_of_ble_eq_true rfl, Nat.le_of_ble_eq_true rfl⟩ rfl rfl rfl rfl rfl rfl
theorem s146_120 : mm_wp d 146 120 [l0, l1, l2, l3, l4, l5, l6, l7, l8, .int y, l10, l11, l12, l13, l14, l15, l16] (.int x :: st) h Q ↔ mm_wp d 146 122 [l0, l1, l2, l3, l4, l5, l6, l7, l8, .int y, .int x, l11, l12, l13, l14, l15, l16] st h Q := wp_istore rfl rfl
theorem s146_122 : mm_wp d 146 122 [.ref a, l1, l2, l3, l4, l5, l6, l7, l8, l9, l10, l11, l12, l13, l14, l15, l16] st h Q ↔ mm_wp d 146 123 [.ref a, l1, l2, l3, l4, l5, l6, l7, l8, l9, l10, l11, l12, l13, l14, l15, l16] (.ref a :: st) h Q := wp_aloadR_n rfl rfl
theorem s146_123 : mm_wp d 146 123 ls (.ref a :: st) h Q ↔ (mm_s h a).1 = 10 ∧ mm_wp d 146 126 ls (.int (mm_i h a 31) :: st) h Q := wp_getI rfl rfl (by decide) (by decide)
theorem s146_126 : mm_wp d 146 126 ls st h Q ↔ mm_wp d 146 127 ls (.int (1 : Int32) :: st) h Q := wp_iconst rfl rfl
theorem s146_127 : mm_wp d 146 127 ls (.int x2 :: .int x :: st) h Q ↔ if x = x2 then mm_wp d 146 130 ls st h Q else mm_wp d 146 141 ls st h Q := wp_icmpne rfl rfl
theorem s146_130 : mm_wp d 146 130 [l0, l1, l2, l3, l4, .long w, l6, l7, l8, l9, l10, l11, l12, l13, l14, l15, l16] st h Q ↔ mm_wp d 146 132 [l0, l1, l2, l3, l4, .long w, l6, l7, l8, l9, l10, l11, l12, l13, l14, l15, l16] (.long w :: st) h Q := wp_lload rfl rfl
theorem s146_132 : mm_wp d 146 132 [l0, l1, l2, l3, l4, l5, l6, l7, .int x, l9, l10, l11, l12, l13, l14, l15, l16] st h Q ↔ mm_wp d 146 134 [l0, l1, l2, l3, l4, l5, l6, l7, .int x, l9, l10, l11, l12, l13, l14, l15, l16] (.int x :: st) h Q := wp_iload rfl rfl
theorem s146_134 : mm_wp d 146 134 ls (.int x :: st) h Q ↔ mm_wp d 146 135 ls (.long x.toInt64 :: st) h Q := wp_i2l rfl
theorem s146_135 : mm_wp d 146 135 ls (.long w2 :: .long w :: st) h Q ↔ mm_wp d 146 136 ls (.long (w + w2) :: st) h Q := wp_ladd rfl
theorem s146_136 : mm_wp d 146 136 [l0, l1, l2, l3, l4, l5, l6, l7, l8, l9, l10, l11, l12, l13, l14, l15, l16] (.long w :: st) h Q ↔ mm_wp d 146 138 [l0, l1, l2, l3, l4, .long w, mm_j, l7, l8, l9, l10, l11, l12, l13, l14, l15, l16] st h Q := wp_lstore rfl rfl
theorem s146_138 : mm_wp d 146 138 ls st h Q ↔ mm_wp d 146 202 ls st h Q := wp_goto rfl rfl
theorem s146_141 : mm_wp d 146 141 [l0, l1, l2, l3, l4, l5, l6, l7, l8, l9, .int x, l11, l12, l13, l14, l15, l16] st h Q ↔ mm_wp d 146 143 [l0, l1, l2, l3, l4, l5, l6, l7, l8, l9, .int x, l11, l12, l13, l14, l15, l16] (.int x :: st) h Q := wp_iload rfl rfl
theorem s146_143 : mm_wp d 146 143 [l0, .int x, l2, l3, l4, l5, l6, l7, l8, l9, l10, l11, l12, l13, l14, l15, l16] st h Q ↔ mm_wp d 146 144 [l0, .int x, l2, l3, l4, l5, l6, l7, l8, l9, l10, l11, l12, l13, l14, l15, l16] (.int x :: st) h Q := wp_iload_n rfl rfl
theorem s146_144 : mm_wp d 146 144 ls (.int x2 :: .int x :: st) h Q ↔ if x = x2 then mm_wp d 146 147 ls st h Q else mm_wp d 146 174 ls st h Q := wp_icmpne rfl rfl
theorem s146_147 : mm_wp d 146 147 [l0, l1, l2, l3, l4, .long w, l6, l7, l8, l9, l10, l11, l12, l13, l14, l15, l16] st h Q ↔ mm_wp d 146 149 [l0, l1, l2, l3, l4, .long w, l6, l7, l8, l9, l10, l11, l12, l13, l14, l15, l16] (.long w :: st) h Q := wp_lload rfl rfl
theorem s146_149 : mm_wp d 146 149 [l0, l1, l2, l3, l4, l5, l6, l7, .int x, l9, l10, l11, l12, l13, l14, l15, l16] st h Q ↔ mm_wp d 146 151 [l0, l1, l2, l3, l4, l5, l6, l7, .int x, l9, l10, l11, l12, l13, l14, l15, l16] (.int x :: st) h Q := wp_iload rfl rfl
theorem s146_151 : mm_wp d 146 151 ls (.int x :: st) h Q ↔ mm_wp d 146 152 ls (.long x.toInt64 :: st) h Q := wp_i2l rfl
theorem s146_152 : mm_wp d 146 152 ls st h Q ↔ mm_wp d 146 153 ls (.int (2 : Int32) :: st) h Q := wp_iconst rfl rfl
theorem s146_153 : mm_wp d 146 153 [.ref a, l1, l2, l3, l4, l5, l6, l7, l8, l9, l10, l11, l12, l13, l14, l15, l16] st h Q ↔ mm_wp d 146 154 [.ref a, l1, l2, l3, l4, l5, l6, l7, l8, l9, l10, l11, l12, l13, l14, l15, l16] (.ref a :: st) h Q := wp_aloadR_n rfl rfl
theorem s146_154 : mm_wp d 146 154 ls (.ref a :: st) h Q ↔ (mm_s h a).1 = 10 ∧ mm_wp d 146 157 ls (mm_o (mm_r h a 32) :: st) h Q := wp_getR rfl rfl
theorem s146_157 : mm_wp d 146 157 [l0, l1, l2, l3, l4, l5, l6, l7, l8, l9, .int x, l11, l12, l13, l14, l15, l16] st h Q ↔ mm_wp d 146 159 [l0, l1, l2, l3, l4, l5, l6, l7, l8, l9, .int x, l11, l12, l13, l14, l15, l16] (.int x :: st) h Q := wp_iload rfl rfl
theorem s146_159 : mm_wp d 146 159 ls st h Q ↔ mm_wp d 146 160 ls (.int (1 : Int32) :: st) h Q := wp_iconst rfl rfl
theorem s146_160 : mm_wp d 146 160 ls (.int x2 :: .int x :: st) h Q ↔ mm_wp d 146 161 ls (.int (x + x2) :: st) h Q := wp_iadd rfl
theorem s146_161 : mm_wp d 146 161 ls (.int x :: .ref a :: st) h Q ↔ ((mm_s h a).1 = 20 ∧ mm_in x (mm_s h a).2 = true) ∧ mm_wp d 146 162 ls (.int (mm_i h a x.toNatClampNeg) :: st) h Q := wp_iaload rfl
theorem s146_162 : mm_wp d 146 162 ls (.int x2 :: .int x :: st) h Q ↔ mm_wp d 146 163 ls (.int (x * x2) :: st) h Q := wp_imul rfl
theorem s146_163 : mm_wp d 146 163 [l0, l1, l2, l3, l4, l5, l6, l7, l8, .int x, l10, l11, l12, l13, l14, l15, l16] st h Q ↔ mm_wp d 146 165 [l0, l1, l2, l3, l4, l5, l6, l7, l8, .int x, l10, l11, l12, l13, l14, l15, l16] (.int x :: st) h Q := wp_iload rfl rfl
theorem s146_165 : mm_wp d 146 165 ls (.int x2 :: .int x :: st) h Q ↔ mm_wp d 146 166 ls (.int (x - x2) :: st) h Q := wp_isub rfl
theorem s146_166 : mm_wp d 146 166 ls (.int x :: st) h Q ↔ mm_wp d 146 167 ls (.long x.toInt64 :: st) h Q := wp_i2l rfl
theorem s146_167 : mm_wp d 146 167 ls (.long w2 :: .long w :: st) h Q ↔ mm_wp d 146 168 ls (.long (w * w2) :: st) h Q := wp_lmul rfl
theorem s146_168 : mm_wp d 146 168 ls (.long w2 :: .long w :: st) h Q ↔ mm_wp d 146 169 ls (.long (w + w2) :: st) h Q := wp_ladd rfl
theorem s146_169 : mm_wp d 146 169 [l0, l1, l2, l3, l4, l5, l6, l7, l8, l9, l10, l11, l12, l13, l14, l15, l16] (.long w :: st) h Q ↔ mm_wp d 146 171 [l0, l1, l2, l3, l4, .long w, mm_j, l7, l8, l9, l10, l11, l12, l13, l14, l15, l16] st h Q := wp_lstore rfl rfl
theorem s146_171 : mm_wp d 146 171 ls st h Q ↔ mm_wp d 146 202 ls st h Q := wp_goto rfl rfl
theorem s146_174 : mm_wp d 146 174 [l0, l1, l2, l3, l4, l5, l6, l7, l8, l9, .int x, l11, l12, l13, l14, l15, l16] st h Q ↔ mm_wp d 146 176 [l0, l1, l2, l3, l4, l5, l6, l7, l8, l9, .int x, l11, l12, l13, l14, l15, l16] (.int x :: st) h Q := wp_iload rfl rfl
theorem s146_176 : mm_wp d 146 176 [l0, .int x, l2, l3, l4, l5, l6, l7, l8, l9, l10, l11, l12, l13, l14, l15, l16] st h Q ↔ mm_wp d 146 177 [l0, .int x, l2, l3, l4, l5, l6, l7, l8, l9, l10, l11, l12, l13, l14, l15, l16] (.int x :: st) h Q := wp_iload_n rfl rfl
theorem s146_177 : mm_wp d 146 177 ls st h Q ↔ mm_wp d 146 178 ls (.int (1 : Int32) :: st) h Q := wp_iconst rfl rfl
theorem s146_178 : mm_wp d 146 178 ls (.int x2 :: .int x :: st) h Q ↔ mm_wp d 146 179 ls (.int (x - x2) :: st) h Q := wp_isub rfl
theorem s146_179 : mm_wp d 146 179 ls (.int x2 :: .int x :: st) h Q ↔ if x = x2 then mm_wp d 146 182 ls st h Q else mm_wp d 146 202 ls st h Q := wp_icmpne rfl rfl
theorem s146_182 : mm_wp d 146 182 [l0, l1, l2, .long w, l4, l5, l6, l7, l8, l9, l10, l11, l12, l13, l14, l15, l16] st h Q ↔ mm_wp d 146 183 [l0, l1, l2, .long w, l4, l5, l6, l7, l8, l9, l10, l11, l12, l13, l14, l15, l16] (.long w :: st) h Q := wp_lload_n rfl rfl
theorem s146_183 : mm_wp d 146 183 [l0, l1, l2, l3, l4, l5, l6, l7, .int x, l9, l10, l11, l12, l13, l14, l15, l16] st h Q ↔ mm_wp d 146 185 [l0, l1, l2, l3, l4, l5, l6, l7, .int x, l9, l10, l11, l12, l13, l14, l15, l16] (.int x :: st) h Q := wp_iload rfl rfl
theorem s146_185 : mm_wp d 146 185 ls (.int x :: st) h Q ↔ mm_wp d 146 186 ls (.long x.toInt64 :: st) h Q := wp_i2l rfl
theorem s146_186 : mm_wp d 146 186 [l0, l1, l2, l3, l4, l5, l6, l7, l8, .int x, l10, l11, l12, l13, l14, l15, l16] st h Q ↔ mm_wp d 146 188 [l0, l1, l2, l3, l4, l5, l6, l7, l8, .int x, l10, l11, l12, l13, l14, l15, l16] (.int x :: st) h Q := wp_iload rfl rfl
theorem s146_188 : mm_wp d 146 188 ls st h Q ↔ mm_wp d 146 189 ls (.int (2 : Int32) :: st) h Q := wp_iconst rfl rfl
theorem s146_189 : mm_wp d 146 189 [.ref a, l1, l2, l3, l4, l5, l6, l7, l8, l9, l10, l11, l12, l13, l14, l15, l16] st h Q ↔ mm_wp d 146 190 [.ref a, l1, l2, l3, l4, l5, l6, l7, l8, l9, l10, l11, l12, l13, l14, l15, l16] (.ref a :: st) h Q := wp_aloadR_n rfl rfl
theorem s146_190 : mm_wp d 146 190 ls (.ref a :: st) h Q ↔ (mm_s h a).1 = 10 ∧ mm_wp d 146 193 ls (mm_o (mm_r h a 32) :: st) h Q := wp_getR rfl rfl
theorem s146_193 : mm_wp d 146 193 [l0, l1, l2, l3, l4, l5, l6, l7, l8, l9, .int x, l11, l12, l13, l14, l15, l16] st h Q ↔ mm_wp d 146 195 [l0, l1, l2, l3, l4, l5, l6, l7, l8, l9, .int x, l11, l12, l13, l14, l15, l16] (.int x :: st) h Q := wp_iload rfl rfl
theorem s146_195 : mm_wp d 146 195 ls (.int x :: .ref a :: st) h Q ↔ ((mm_s h a).1 = 20 ∧ mm_in x (mm_s h a).2 = true) ∧ mm_wp d 146 196 ls (.int (mm_i h a x.toNatClampNeg) :: st) h Q := wp_iaload rfl
theorem s146_196 : mm_wp d 146 196 ls (.int x2 :: .int x :: st) h Q ↔ mm_wp d 146 197 ls (.int (x * x2) :: st) h Q := wp_imul rfl
theorem s146_197 : mm_wp d 146 197 ls (.int x2 :: .int x :: st) h Q ↔ mm_wp d 146 198 ls (.int (x - x2) :: st) h Q := wp_isub rfl
theorem s146_198 : mm_wp d 146 198 ls (.int x :: st) h Q ↔ mm_wp d 146 199 ls (.long x.toInt64 :: st) h Q := wp_i2l rfl
theorem s146_199 : mm_wp d 146 199 ls (.long w2 :: .long w :: st) h Q ↔ mm_wp d 146 200 ls (.long (w * w2) :: st) h Q := wp_lmul rfl
theorem s146_200 : mm_wp d 146 200 ls (.long w2 :: .long w :: st) h Q ↔ mm_wp d 146 201 ls (.long (w + w2) :: st) h Q := wp_ladd rfl
theorem s146_201 : mm_wp d 146 201 [l0, l1, l2, l3, l4, l5, l6, l7, l8, l9, l10, l11, l12, l13, l14, l15, l16] (.long w :: st) h Q ↔ mm_wp d 146 202 [l0, l1, l2, .long w, mm_j, l5, l6, l7, l8, l9, l10, l11, l12, l13, l14, l15, l16] st h Q := wp_lstore_n rfl rfl
theorem s146_202 : mm_wp d 146 202 [l0, l1, l2, l3, l4, l5, l6, .int x, l8, l9, l10, l11, l12, l13, l14, l15, l16] st h Q ↔ mm_wp d 146 205 [l0, l1, l2, l3, l4, l5, l6, .int (x + (1 : Int32)), l8, l9, l10, l11, l12, l13, l14, l15, l16] st h Q := wp_iinc rfl rfl rfl rfl
theorem s146_205 : mm_wp d 146 205 ls st h Q ↔ mm_wp d 146 64 ls st h Q := wp_goto rfl rfl
theorem s146_208 : mm_wp d 146 208 [l0, .int x, l2, l3, l4, l5, l6, l7, l8, l9, l10, l11, l12, l13, l14, l15, l16] st h Q ↔ mm_wp d 146 209 [l0, .int x, l2, l3, l4, l5, l6, l7, l8, l9, l10, l11, l12, l13, l14, l15, l16] (.int x :: st) h Q := wp_iload_n rfl rfl
theorem s146_209 : mm_wp d 146 209 ls (.int x :: st) h Q ↔ if x = 0 then mm_wp d 146 212 ls st h Q else mm_wp d 146 216 ls st h Q := wp_ifne rfl rfl
theorem s146_212 : mm_wp d 146 212 ls st h Q ↔ mm_wp d 146 213 ls (.long (1 : Int64) :: st) h Q := wp_lconst rfl rfl
theorem s146_213 : mm_wp d 146 213 ls st h Q ↔ mm_wp d 146 236 ls st h Q := wp_goto rfl rfl
theorem s146_216 : mm_wp d 146 216 ls st h Q ↔ mm_wp d 146 219 ls (.long (2 : Int64) :: st) h Q := wp_ldc2 rfl rfl
theorem s146_219 : mm_wp d 146 219 [.ref a, l1, l2, l3, l4, l5, l6, l7, l8, l9, l10, l11, l12, l13, l14, l15, l16] st h Q ↔ mm_wp d 146 220 [.ref a, l1, l2, l3, l4, l5, l6, l7, l8, l9, l10, l11, l12, l13, l14, l15, l16] (.ref a :: st) h Q := wp_aloadR_n rfl rfl
theorem s146_220 : mm_wp d 146 220 ls (.ref a :: st) h Q ↔ (mm_s h a).1 = 10 ∧ mm_wp d 146 223 ls (mm_o (mm_r h a 32) :: st) h Q := wp_getR rfl rfl
theorem s146_223 : mm_wp d 146 223 [l0, .int x, l2, l3, l4, l5, l6, l7, l8, l9, l10, l11, l12, l13, l14, l15, l16] st h Q ↔ mm_wp d 146 224 [l0, .int x, l2, l3, l4, l5, l6, l7, l8, l9, l10, l11, l12, l13, l14, l15, l16] (.int x :: st) h Q := wp_iload_n rfl rfl
theorem s146_224 : mm_wp d 146 224 ls (.int x :: .ref a :: st) h Q ↔ ((mm_s h a).1 = 20 ∧ mm_in x (mm_s h a).2 = true) ∧ mm_wp d 146 225 ls (.int (mm_i h a x.toNatClampNeg) :: st) h Q := wp_iaload rfl
theorem s146_225 : mm_wp d 146 225 [.ref a, l1, l2, l3, l4, l5, l6, l7, l8, l9, l10, l11, l12, l13, l14, l15, l16] st h Q ↔ mm_wp d 146 226 [.ref a, l1, l2, l3, l4, l5, l6, l7, l8, l9, l10, l11, l12, l13, l14, l15, l16] (.ref a :: st) h Q := wp_aloadR_n rfl rfl
theorem s146_226 : mm_wp d 146 226 ls (.ref a :: st) h Q ↔ (mm_s h a).1 = 10 ∧ mm_wp d 146 229 ls (mm_o (mm_r h a 32) :: st) h Q := wp_getR rfl rfl
theorem s146_229 : mm_wp d 146 229 [l0, .int x, l2, l3, l4, l5, l6, l7, l8, l9, l10, l11, l12, l13, l14, l15, l16] st h Q ↔ mm_wp d 146 230 [l0, .int x, l2, l3, l4, l5, l6, l7, l8, l9, l10, l11, l12, l13, l14, l15, l16] (.int x :: st) h Q := wp_iload_n rfl rfl
theorem s146_230 : mm_wp d 146 230 ls st h Q ↔ mm_wp d 146 231 ls (.int (1 : Int32) :: st) h Q := wp_iconst rfl rfl
theorem s146_231 : mm_wp d 146 231 ls (.int x2 :: .int x :: st) h Q ↔ mm_wp d 146 232 ls (.int (x - x2) :: st) h Q := wp_isub rfl
theorem s146_232 : mm_wp d 146 232 ls (.int x :: .ref a :: st) h Q ↔ ((mm_s h a).1 = 20 ∧ mm_in x (mm_s h a).2 = true) ∧ mm_wp d 146 233 ls (.int (mm_i h a x.toNatClampNeg) :: st) h Q := wp_iaload rfl
theorem s146_233 : mm_wp d 146 233 ls (.int x2 :: .int x :: st) h Q ↔ mm_wp d 146 234 ls (.int (x - x2) :: st) h Q := wp_isub rfl
theorem s146_234 : mm_wp d 146 234 ls (.int x :: st) h Q ↔ mm_wp d 146 235 ls (.long x.toInt64 :: st) h Q := wp_i2l rfl
theorem s146_235 : mm_wp d 146 235 ls (.long w2 :: .long w :: st) h Q ↔ mm_wp d 146 236 ls (.long (w * w2) :: st) h Q := wp_lmul rfl
theorem s146_236 : mm_wp d 146 236 [l0, l1, l2, l3, l4, l5, l6, l7, l8, l9, l10, l11, l12, l13, l14, l15, l16] (.long w :: st) h Q ↔ mm_wp d 146 238 [l0, l1, l2, l3, l4, l5, l6, .long w, mm_j, l9, l10, l11, l12, l13, l14, l15, l16] st h Q := wp_lstore rfl rfl
theorem s146_238 : mm_wp d 146 238 [l0, .int x, l2, l3, l4, l5, l6, l7, l8, l9, l10, l11, l12, l13, l14, l15, l16] st h Q ↔ mm_wp d 146 239 [l0, .int x, l2, l3, l4, l5, l6, l7, l8, l9, l10, l11, l12, l13, l14, l15, l16] (.int x :: st) h Q := wp_iload_n rfl rfl
theorem s146_239 : mm_wp d 146 239 [.ref a, l1, l2, l3, l4, l5, l6, l7, l8, l9, l10, l11, l12, l13, l14, l15, l16] st h Q ↔ mm_wp d 146 240 [.ref a, l1, l2, l3, l4, l5, l6, l7, l8, l9, l10, l11, l12, l13, l14, l15, l16] (.ref a :: st) h Q := wp_aloadR_n rfl rfl
theorem s146_240 : mm_wp d 146 240 ls (.ref a :: st) h Q ↔ (mm_s h a).1 = 10 ∧ mm_wp d 146 243 ls (.int (mm_i h a 31) :: st) h Q := wp_getI rfl rfl (by decide) (by decide)
theorem s146_243 : mm_wp d 146 243 ls st h Q ↔ mm_wp d 146 244 ls (.int (1 : Int32) :: st) h Q := wp_iconst rfl rfl
theorem s146_244 : mm_wp d 146 244 ls (.int x2 :: .int x :: st) h Q ↔ mm_wp d 146 245 ls (.int (x - x2) :: st) h Q := wp_isub rfl
theorem s146_245 : mm_wp d 146 245 ls (.int x2 :: .int x :: st) h Q ↔ if x = x2 then mm_wp d 146 248 ls st h Q else mm_wp d 146 252 ls st h Q := wp_icmpne rfl rfl
theorem s146_248 : mm_wp d 146 248 ls st h Q ↔ mm_wp d 146 249 ls (.long (1 : Int64) :: st) h Q := wp_lconst rfl rfl
theorem s146_249 : mm_wp d 146 249 ls st h Q ↔ mm_wp d 146 272 ls st h Q := wp_goto rfl rfl
theorem s146_252 : mm_wp d 146 252 ls st h Q ↔ mm_wp d 146 255 ls (.long (2 : Int64) :: st) h Q := wp_ldc2 rfl rfl
theorem s146_255 : mm_wp d 146 255 [.ref a, l1, l2, l3, l4, l5, l6, l7, l8, l9, l10, l11, l12, l13, l14, l15, l16] st h Q ↔ mm_wp d 146 256 [.ref a, l1, l2, l3, l4, l5, l6, l7, l8, l9, l10, l11, l12, l13, l14, l15, l16] (.ref a :: st) h Q := wp_aloadR_n rfl rfl
theorem s146_256 : mm_wp d 146 256 ls (.ref a :: st) h Q ↔ (mm_s h a).1 = 10 ∧ mm_wp d 146 259 ls (mm_o (mm_r h a 32) :: st) h Q := wp_getR rfl rfl
theorem s146_259 : mm_wp d 146 259 [l0, .int x, l2, l3, l4, l5, l6, l7, l8, l9, l10, l11, l12, l13, l14, l15, l16] st h Q ↔ mm_wp d 146 260 [l0, .int x, l2, l3, l4, l5, l6, l7, l8, l9, l10, l11, l12, l13, l14, l15, l16] (.int x :: st) h Q := wp_iload_n rfl rfl
theorem s146_260 : mm_wp d 146 260 ls st h Q ↔ mm_wp d 146 261 ls (.int (1 : Int32) :: st) h Q := wp_iconst rfl rfl
theorem s146_261 : mm_wp d 146 261 ls (.int x2 :: .int x :: st) h Q ↔ mm_wp d 146 262 ls (.int (x + x2) :: st) h Q := wp_iadd rfl
theorem s146_262 : mm_wp d 146 262 ls (.int x :: .ref a :: st) h Q ↔ ((mm_s h a).1 = 20 ∧ mm_in x (mm_s h a).2 = true) ∧ mm_wp d 146 263 ls (.int (mm_i h a x.toNatClampNeg) :: st) h Q := wp_iaload rfl
theorem s146_263 : mm_wp d 146 263 [.ref a, l1, l2, l3, l4, l5, l6, l7, l8, l9, l10, l11, l12, l13, l14, l15, l16] st h Q ↔ mm_wp d 146 264 [.ref a, l1, l2, l3, l4, l5, l6, l7, l8, l9, l10, l11, l12, l13, l14, l15, l16] (.ref a :: st) h Q := wp_aloadR_n rfl rfl
theorem s146_264 : mm_wp d 146 264 ls (.ref a :: st) h Q ↔ (mm_s h a).1 = 10 ∧ mm_wp d 146 267 ls (mm_o (mm_r h a 32) :: st) h Q := wp_getR rfl rfl
theorem s146_267 : mm_wp d 146 267 [l0, .int x, l2, l3, l4, l5, l6, l7, l8, l9, l10, l11, l12, l13, l14, l15, l16] st h Q ↔ mm_wp d 146 268 [l0, .int x, l2, l3, l4, l5, l6, l7, l8, l9, l10, l11, l12, l13, l14, l15, l16] (.int x :: st) h Q := wp_iload_n rfl rfl
theorem s146_268 : mm_wp d 146 268 ls (.int x :: .ref a :: st) h Q ↔ ((mm_s h a).1 = 20 ∧ mm_in x (mm_s h a).2 = true) ∧ mm_wp d 146 269 ls (.int (mm_i h a x.toNatClampNeg) :: st) h Q := wp_iaload rfl
theorem s146_269 : mm_wp d 146 269 ls (.int x2 :: .int x :: st) h Q ↔ mm_wp d 146 270 ls (.int (x - x2) :: st) h Q := wp_isub rfl
theorem s146_270 : mm_wp d 146 270 ls (.int x :: st) h Q ↔ mm_wp d 146 271 ls (.long x.toInt64 :: st) h Q := wp_i2l rfl
theorem s146_271 : mm_wp d 146 271 ls (.long w2 :: .long w :: st) h Q ↔ mm_wp d 146 272 ls (.long (w * w2) :: st) h Q := wp_lmul rfl
theorem s146_272 : mm_wp d 146 272 [l0, l1, l2, l3, l4, l5, l6, l7, l8, l9, l10, l11, l12, l13, l14, l15, l16] (.long w :: st) h Q ↔ mm_wp d 146 274 [l0, l1, l2, l3, l4, l5, l6, l7, l8, .long w, mm_j, l11, l12, l13, l14, l15, l16] st h Q := wp_lstore rfl rfl
theorem s146_274 : mm_wp d 146 274 [l0, l1, l2, .long w, l4, l5, l6, l7, l8, l9, l10, l11, l12, l13, l14, l15, l16] st h Q ↔ mm_wp d 146 275 [l0, l1, l2, .long w, l4, l5, l6, l7, l8, l9, l10, l11, l12, l13, l14, l15, l16] (.long w :: st) h Q := wp_lload_n rfl rfl
theorem s146_275 : mm_wp d 146 275 [l0, l1, l2, l3, l4, l5, l6, l7, l8, .long w, l10, l11, l12, l13, l14, l15, l16] st h Q ↔ mm_wp d 146 277 [l0, l1, l2, l3, l4, l5, l6, l7, l8, .long w, l10, l11, l12, l13, l14, l15, l16] (.long w :: st) h Q := wp_lload rfl rfl
theorem s146_277 : mm_wp d 146 277 ls (.long w2 :: .long w :: st) h Q ↔ mm_wp d 146 278 ls (.long (w * w2) :: st) h Q := wp_lmul rfl
theorem s146_278 : mm_wp d 146 278 [l0, l1, l2, l3, l4, .long w, l6, l7, l8, l9, l10, l11, l12, l13, l14, l15, l16] st h Q ↔ mm_wp d 146 280 [l0, l1, l2, l3, l4, .long w, l6, l7, l8, l9, l10, l11, l12, l13, l14, l15, l16] (.long w :: st) h Q := wp_lload rfl rfl
theorem s146_280 : mm_wp d 146 280 [l0, l1, l2, l3, l4, l5, l6, .long w, l8, l9, l10, l11, l12, l13, l14, l15, l16] st h Q ↔ mm_wp d 146 282 [l0, l1, l2, l3, l4, l5, l6, .long w, l8, l9, l10, l11, l12, l13, l14, l15, l16] (.long w :: st) h Q := wp_lload rfl rfl
theorem s146_282 : mm_wp d 146 282 ls (.long w2 :: .long w :: st) h Q ↔ mm_wp d 146 283 ls (.long (w * w2) :: st) h Q := wp_lmul rfl
theorem s146_283 : mm_wp d 146 283 ls (.long w2 :: .long w :: st) h Q ↔ mm_wp d 146 284 ls (.long (w + w2) :: st) h Q := wp_ladd rfl
theorem s146_284 : mm_wp d 146 284 [l0, l1, l2, l3, l4, l5, l6, l7, l8, l9, l10, l11, l12, l13, l14, l15, l16] (.long w :: st) h Q ↔ mm_wp d 146 286 [l0, l1, l2, l3, l4, l5, l6, l7, l8, l9, l10, .long w, mm_j, l13, l14, l15, l16] st h Q := wp_lstore rfl rfl
theorem s146_286 : mm_wp d 146 286 [l0, l1, l2, l3, l4, l5, l6, .long w, l8, l9, l10, l11, l12, l13, l14, l15, l16] st h Q ↔ mm_wp d 146 288 [l0, l1, l2, l3, l4, l5, l6, .long w, l8, l9, l10, l11, l12, l13, l14, l15, l16] (.long w :: st) h Q := wp_lload rfl rfl
theorem s146_288 : mm_wp d 146 288 [l0, l1, l2, l3, l4, l5, l6, l7, l8, .long w, l10, l11, l12, l13, l14, l15, l16] st h Q ↔ mm_wp d 146 290 [l0, l1, l2, l3, l4, l5, l6, l7, l8, .long w, l10, l11, l12, l13, l14, l15, l16] (.long w :: st) h Q := wp_lload rfl rfl
theorem s146_290 : mm_wp d 146 290 ls (.long w2 :: .long w :: st) h Q ↔ mm_wp d 146 291 ls (.long (w * w2) :: st) h Q := wp_lmul rfl
theorem s146_291 : mm_wp d 146 291 [l0, l1, l2, l3, l4, l5, l6, l7, l8, l9, l10, l11, l12, l13, l14, l15, l16] (.long w :: st) h Q ↔ mm_wp d 146 293 [l0, l1, l2, l3, l4, l5, l6, l7, l8, l9, l10, l11, l12, .long w, mm_j, l15, l16] st h Q := wp_lstore rfl rfl
theorem s146_293 : mm_wp d 146 293 [l0, l1, l2, l3, l4, l5, l6, l7, l8, l9, l10, .long w, l12, l13, l14, l15, l16] st h Q ↔ mm_wp d 146 295 [l0, l1, l2, l3, l4, l5, l6, l7, l8, l9, l10, .long w, l12, l13, l14, l15, l16] (.long w :: st) h Q := wp_lload rfl rfl
theorem s146_295 : mm_wp d 146 295 [l0, l1, l2, l3, l4, l5, l6, l7, l8, l9, l10, l11, l12, .long w, l14, l15, l16] st h Q ↔ mm_wp d 146 297 [l0, l1, l2, l3, l4, l5, l6, l7, l8, l9, l10, l11, l12, .long w, l14, l15, l16] (.long w :: st) h Q := wp_lload rfl rfl
theorem s146_297 : mm_wp (d + 1) 146 297 ls [.long w2, .long w] h Q ↔ mm_wp d 148 0 [.long w, mm_j, .long w2, mm_j, mm_j, mm_j, mm_j, mm_j, mm_j, mm_j] [] h (mm_bk (d + 1) 146 297 ls [] Q) := wp_static rfl rfl ⟨by decide, rfl⟩ ⟨Nat.le_of_ble_eq_true rfl, Nat.le_of_ble_eq_true rfl⟩ rfl rfl rfl rfl
theorem s146_300 : mm_wp d 146 300 [l0, l1, l2, l3, l4, l5, l6, l7, l8, l9, l10, l11, l12, l13, l14, l15, l16] (.long w :: st) h Q ↔ mm_wp d 146 302 [l0, l1, l2, l3, l4, l5, l6, l7, l8, l9, l10, l11, l12, l13, l14, .long w, mm_j] st h Q := wp_lstore rfl rfl
theorem s146_302 : mm_wp d 146 302 [l0, l1, .int x, l3, l4, l5, l6, l7, l8, l9, l10, l11, l12, l13, l14, l15, l16] st h Q ↔ mm_wp d 146 303 [l0, l1, .int x, l3, l4, l5, l6, l7, l8, l9, l10, l11, l12, l13, l14, l15, l16] (.int x :: st) h Q := wp_iload_n rfl rfl
theorem s146_303 : mm_wp d 146 303 ls (.int x :: st) h Q ↔ if x = 0 then mm_wp d 146 306 ls st h Q else mm_wp d 146 314 ls st h Q := wp_ifne rfl rfl
theorem s146_306 : mm_wp d 146 306 [l0, l1, l2, l3, l4, l5, l6, l7, l8, l9, l10, .long w, l12, l13, l14, l15, l16] st h Q ↔ mm_wp d 146 308 [l0, l1, l2, l3, l4, l5, l6, l7, l8, l9, l10, .long w, l12, l13, l14, l15, l16] (.long w :: st) h Q := wp_lload rfl rfl
theorem s146_308 : mm_wp d 146 308 [l0, l1, l2, l3, l4, l5, l6, l7, l8, l9, l10, l11, l12, l13, l14, .long w, l16] st h Q ↔ mm_wp d 146 310 [l0, l1, l2, l3, l4, l5, l6, l7, l8, l9, l10, l11, l12, l13, l14, .long w, l16] (.long w :: st) h Q := wp_lload rfl rfl
theorem s146_310 : mm_wp d 146 310 ls (.long w2 :: .long w :: st) h Q ↔ ¬ w2 = 0 ∧ mm_wp d 146 311 ls (.long (w / w2) :: st) h Q := wp_ldiv rfl
theorem s146_311 : mm_wp d 146 311 ls st h Q ↔ mm_wp d 146 319 ls st h Q := wp_goto rfl rfl
theorem s146_314 : mm_wp d 146 314 [l0, l1, l2, l3, l4, l5, l6, l7, l8, l9, l10, l11, l12, .long w, l14, l15, l16] st h Q ↔ mm_wp d 146 316 [l0, l1, l2, l3, l4, l5, l6, l7, l8, l9, l10, l11, l12, .long w, l14, l15, l16] (.long w :: st) h Q := wp_lload rfl rfl
theorem s146_316 : mm_wp d 146 316 [l0, l1, l2, l3, l4, l5, l6, l7, l8, l9, l10, l11, l12, l13, l14, .long w, l16] st h Q ↔ mm_wp d 146 318 [l0, l1, l2, l3, l4, l5, l6, l7, l8, l9, l10, l11, l12, l13, l14, .long w, l16] (.long w :: st) h Q := wp_lload rfl rfl
theorem s146_318 : mm_wp d 146 318 ls (.long w2 :: .long w :: st) h Q ↔ ¬ w2 = 0 ∧ mm_wp d 146 319 ls (.long (w / w2) :: st) h Q := wp_ldiv rfl
theorem s146_319 : mm_wp d 146 319 ls (.long w :: st) h Q ↔ Q (.inl (some (.long w))) h := wp_lret rfl rfl
/-! 147: LoadRoomModel.gapOf(I)I -/
theorem s147_0 : mm_wp d 147 0 ls st h Q ↔ mm_wp d 147 1 ls (.int (0 : Int32) :: st) h Q := wp_iconst rfl rfl
theorem s147_1 : mm_wp d 147 1 [l0, l1, l2] (.int x :: st) h Q ↔ mm_wp d 147 2 [l0, l1, .int x] st h Q := wp_istore_n rfl rfl
theorem s147_2 : mm_wp d 147 2 [l0, l1, .int x] st h Q ↔ mm_wp d 147 3 [l0, l1, .int x] (.int x :: st) h Q := wp_iload_n rfl rfl
theorem s147_3 : mm_wp d 147 3 [.ref a, l1, l2] st h Q ↔ mm_wp d 147 4 [.ref a, l1, l2] (.ref a :: st) h Q := wp_aloadR_n rfl rfl
theorem s147_4 : mm_wp d 147 4 ls (.ref a :: st) h Q ↔ (mm_s h a).1 = 10 ∧ mm_wp d 147 7 ls (.int (mm_i h a 31) :: st) h Q := wp_getI rfl rfl (by decide) (by decide)
theorem s147_7 : mm_wp d 147 7 ls st h Q ↔ mm_wp d 147 8 ls (.int (2 : Int32) :: st) h Q := wp_iconst rfl rfl
theorem s147_8 : mm_wp d 147 8 ls (.int x2 :: .int x :: st) h Q ↔ mm_wp d 147 9 ls (.int (x - x2) :: st) h Q := wp_isub rfl
theorem s147_9 : mm_wp d 147 9 ls (.int x2 :: .int x :: st) h Q ↔ if x2 ≤ x then mm_wp d 147 32 ls st h Q else mm_wp d 147 12 ls st h Q := wp_icmpge rfl rfl
theorem s147_12 : mm_wp d 147 12 [l0, .int x, l2] st h Q ↔ mm_wp d 147 13 [l0, .int x, l2] (.int x :: st) h Q := wp_iload_n rfl rfl
theorem s147_13 : mm_wp d 147 13 ls st h Q ↔ mm_wp d 147 14 ls (.int (2 : Int32) :: st) h Q := wp_iconst rfl rfl
theorem s147_14 : mm_wp d 147 14 [.ref a, l1, l2] st h Q ↔ mm_wp d 147 15 [.ref a, l1, l2] (.ref a :: st) h Q := wp_aloadR_n rfl rfl
theorem s147_15 : mm_wp d 147 15 ls (.ref a :: st) h Q ↔ (mm_s h a).1 = 10 ∧ mm_wp d 147 18 ls (mm_o (mm_r h a 32) :: st) h Q := wp_getR rfl rfl
theorem s147_18 : mm_wp d 147 18 [l0, l1, .int x] st h Q ↔ mm_wp d 147 19 [l0, l1, .int x] (.int x :: st) h Q := wp_iload_n rfl rfl
theorem s147_19 : mm_wp d 147 19 ls st h Q ↔ mm_wp d 147 20 ls (.int (1 : Int32) :: st) h Q := wp_iconst rfl rfl
theorem s147_20 : mm_wp d 147 20 ls (.int x2 :: .int x :: st) h Q ↔ mm_wp d 147 21 ls (.int (x + x2) :: st) h Q := wp_iadd rfl
theorem s147_21 : mm_wp d 147 21 ls (.int x :: .ref a :: st) h Q ↔ ((mm_s h a).1 = 20 ∧ mm_in x (mm_s h a).2 = true) ∧ mm_wp d 147 22 ls (.int (mm_i h a x.toNatClampNeg) :: st) h Q := wp_iaload rfl
theorem s147_22 : mm_wp d 147 22 ls (.int x2 :: .int x :: st) h Q ↔ mm_wp d 147 23 ls (.int (x * x2) :: st) h Q := wp_imul rfl
theorem s147_23 : mm_wp d 147 23 ls (.int x2 :: .int x :: st) h Q ↔ if x < x2 then mm_wp d 147 32 ls st h Q else mm_wp d 147 26 ls st h Q := wp_icmplt rfl rfl
theorem s147_26 : mm_wp d 147 26 [l0, l1, .int x] st h Q ↔ mm_wp d 147 29 [l0, l1, .int (x + (1 : Int32))] st h Q := wp_iinc rfl rfl rfl rfl
theorem s147_29 : mm_wp d 147 29 ls st h Q ↔ mm_wp d 147 2 ls st h Q := wp_goto rfl rfl
theorem s147_32 : mm_wp d 147 32 [l0, l1, .int x] st h Q ↔ mm_wp d 147 33 [l0, l1, .int x] (.int x :: st) h Q := wp_iload_n rfl rfl
theorem s147_33 : mm_wp d 147 33 ls (.int x :: st) h Q ↔ Q (.inl (some (.int x))) h := wp_iret rfl rfl
/-! 148: LoadRoomModel.divisor(JJ)J -/
theorem s148_0 : mm_wp d 148 0 [.long w, l1, l2, l3, l4, l5, l6, l7, l8, l9] st h Q ↔ mm_wp d 148 1 [.long w, l1, l2, l3, l4, l5, l6, l7, l8, l9] (.long w :: st) h Q := wp_lload_n rfl rfl
theorem s148_1 : mm_wp d 148 1 ls st h Q ↔ mm_wp d 148 2 ls (.long (0 : Int64) :: st) h Q := wp_lconst rfl rfl
theorem s148_2 : mm_wp d 148 2 ls (.long w2 :: .long w :: st) h Q ↔ mm_wp d 148 3 ls (.int (if w2 < w then 1 else if w = w2 then 0 else -1) :: st) h Q := wp_lcmp rfl
theorem s148_3 : mm_wp d 148 3 ls (.int x :: st) h Q ↔ if 0 ≤ x then mm_wp d 148 11 ls st h Q else mm_wp d 148 6 ls st h Q := wp_ifge rfl rfl
theorem s148_6 : mm_wp d 148 6 [.long w, l1, l2, l3, l4, l5, l6, l7, l8, l9] st h Q ↔ mm_wp d 148 7 [.long w, l1, l2, l3, l4, l5, l6, l7, l8, l9] (.long w :: st) h Q := wp_lload_n rfl rfl
theorem s148_7 : mm_wp d 148 7 ls (.long w :: st) h Q ↔ mm_wp d 148 8 ls (.long (-w) :: st) h Q := wp_lneg rfl
theorem s148_8 : mm_wp d 148 8 ls st h Q ↔ mm_wp d 148 12 ls st h Q := wp_goto rfl rfl
theorem s148_11 : mm_wp d 148 11 [.long w, l1, l2, l3, l4, l5, l6, l7, l8, l9] st h Q ↔ mm_wp d 148 12 [.long w, l1, l2, l3, l4, l5, l6, l7, l8, l9] (.long w :: st) h Q := wp_lload_n rfl rfl
theorem s148_12 : mm_wp d 148 12 [l0, l1, l2, l3, l4, l5, l6, l7, l8, l9] (.long w :: st) h Q ↔ mm_wp d 148 14 [l0, l1, l2, l3, .long w, mm_j, l6, l7, l8, l9] st h Q := wp_lstore rfl rfl
theorem s148_14 : mm_wp d 148 14 [l0, l1, .long w, l3, l4, l5, l6, l7, l8, l9] st h Q ↔ mm_wp d 148 15 [l0, l1, .long w, l3, l4, l5, l6, l7, l8, l9] (.long w :: st) h Q := wp_lload_n rfl rfl
theorem s148_15 : mm_wp d 148 15 [l0, l1, l2, l3, l4, l5, l6, l7, l8, l9] (.long w :: st) h Q ↔ mm_wp d 148 17 [l0, l1, l2, l3, l4, l5, .long w, mm_j, l8, l9] st h Q := wp_lstore rfl rfl
theorem s148_17 : mm_wp d 148 17 [l0, l1, l2, l3, l4, l5, .long w, l7, l8, l9] st h Q ↔ mm_wp d 148 19 [l0, l1, l2, l3, l4, l5, .long w, l7, l8, l9] (.long w :: st) h Q := wp_lload rfl rfl
theorem s148_19 : mm_wp d 148 19 ls st h Q ↔ mm_wp d 148 20 ls (.long (0 : Int64) :: st) h Q := wp_lconst rfl rfl
theorem s148_20 : mm_wp d 148 20 ls (.long w2 :: .long w :: st) h Q ↔ mm_wp d 148 21 ls (.int (if w2 < w then 1 else if w = w2 then 0 else -1) :: st) h Q := wp_lcmp rfl
theorem s148_21 : mm_wp d 148 21 ls (.int x :: st) h Q ↔ if x = 0 then mm_wp d 148 42 ls st h Q else mm_wp d 148 24 ls st h Q := wp_ifeq rfl rfl
theorem s148_24 : mm_wp d 148 24 [l0, l1, l2, l3, .long w, l5, l6, l7, l8, l9] st h Q ↔ mm_wp d 148 26 [l0, l1, l2, l3, .long w, l5, l6, l7, l8, l9] (.long w :: st) h Q := wp_lload rfl rfl
theorem s148_26 : mm_wp d 148 26 [l0, l1, l2, l3, l4, l5, .long w, l7, l8, l9] st h Q ↔ mm_wp d 148 28 [l0, l1, l2, l3, l4, l5, .long w, l7, l8, l9] (.long w :: st) h Q := wp_lload rfl rfl
theorem s148_28 : mm_wp d 148 28 ls (.long w2 :: .long w :: st) h Q ↔ ¬ w2 = 0 ∧ mm_wp d 148 29 ls (.long (w - w / w2 * w2) :: st) h Q := wp_lrem rfl
theorem s148_29 : mm_wp d 148 29 [l0, l1, l2, l3, l4, l5, l6, l7, l8, l9] (.long w :: st) h Q ↔ mm_wp d 148 31 [l0, l1, l2, l3, l4, l5, l6, l7, .long w, mm_j] st h Q := wp_lstore rfl rfl
theorem s148_31 : mm_wp d 148 31 [l0, l1, l2, l3, l4, l5, .long w, l7, l8, l9] st h Q ↔ mm_wp d 148 33 [l0, l1, l2, l3, l4, l5, .long w, l7, l8, l9] (.long w :: st) h Q := wp_lload rfl rfl
theorem s148_33 : mm_wp d 148 33 [l0, l1, l2, l3, l4, l5, l6, l7, l8, l9] (.long w :: st) h Q ↔ mm_wp d 148 35 [l0, l1, l2, l3, .long w, mm_j, l6, l7, l8, l9] st h Q := wp_lstore rfl rfl
theorem s148_35 : mm_wp d 148 35 [l0, l1, l2, l3, l4, l5, l6, l7, .long w, l9] st h Q ↔ mm_wp d 148 37 [l0, l1, l2, l3, l4, l5, l6, l7, .long w, l9] (.long w :: st) h Q := wp_lload rfl rfl
theorem s148_37 : mm_wp d 148 37 [l0, l1, l2, l3, l4, l5, l6, l7, l8, l9] (.long w :: st) h Q ↔ mm_wp d 148 39 [l0, l1, l2, l3, l4, l5, .long w, mm_j, l8, l9] st h Q := wp_lstore rfl rfl
theorem s148_39 : mm_wp d 148 39 ls st h Q ↔ mm_wp d 148 17 ls st h Q := wp_goto rfl rfl
theorem s148_42 : mm_wp d 148 42 [l0, l1, l2, l3, .long w, l5, l6, l7, l8, l9] st h Q ↔ mm_wp d 148 44 [l0, l1, l2, l3, .long w, l5, l6, l7, l8, l9] (.long w :: st) h Q := wp_lload rfl rfl
theorem s148_44 : mm_wp d 148 44 ls (.long w :: st) h Q ↔ Q (.inl (some (.long w))) h := wp_lret rfl rfl
end
