/-! THE SKELETON: shapes and references of the cells that the constructors make; they stay as they are -/
def kSl : List (Nat × Nat) := [(15, 0), (9, 4), (1, 3), (2, 2), (23, 8), (5, 10), (22, 6), (5, 10), (22, 6), (5, 10), (22, 6), (5, 10), (22, 6), (5, 10), (22, 6), (5, 10), (22, 6), (5, 10), (22, 6), (5, 10), (22, 6), (8, 11), (7, 4), (24, 8), (6, 16), (6, 16), (6, 16), (6, 16), (6, 16), (6, 16), (6, 16), (6, 16), (7, 4), (24, 8), (6, 16), (6, 16), (6, 16), (6, 16), (6, 16), (6, 16), (6, 16), (6, 16), (3, 2), (26, 8), (20, 8), (20, 8), (20, 8), (20, 8), (20, 8), (20, 8), (20, 8), (20, 8), (20, 8), (3, 2), (26, 8), (20, 8), (20, 8), (20, 8), (20, 8), (20, 8), (20, 8), (20, 8), (20, 8), (20, 8), (3, 2), (26, 8), (20, 8), (20, 8), (20, 8), (20, 8), (20, 8), (20, 8), (20, 8), (20, 8), (20, 8), (25, 64), (4, 6), (4, 6), (4, 6), (4, 6), (4, 6), (4, 6), (4, 6), (4, 6), (4, 6), (4, 6), (4, 6), (4, 6), (4, 6), (4, 6), (4, 6), (4, 6), (4, 6), (4, 6), (4, 6), (4, 6), (4, 6), (4, 6), (4, 6), (4, 6), (4, 6), (4, 6), (4, 6), (4, 6), (4, 6), (4, 6), (4, 6), (4, 6), (4, 6), (4, 6), (4, 6), (4, 6), (4, 6), (4, 6), (4, 6), (4, 6), (4, 6), (4, 6), (4, 6), (4, 6), (4, 6), (4, 6), (4, 6), (4, 6), (4, 6), (4, 6), (4, 6), (4, 6), (4, 6), (4, 6), (4, 6), (4, 6), (4, 6), (4, 6), (4, 6), (4, 6), (4, 6), (4, 6), (4, 6), (4, 6), (0, 2), (20, 6), (10, 34), (20, 3), (20, 24), (20, 8), (20, 8), (20, 8), (20, 8), (20, 8), (20, 8), (20, 24), (20, 24), (20, 8), (22, 8), (20, 9), (20, 9), (20, 9), (20, 243), (20, 27), (20, 8), (20, 8), (20, 24), (20, 24), (20, 8), (20, 6), (20, 3), (21, 1)]
def kRl : List (List (Option Nat)) := [[], [some 2, some 3, some 21, some 140], [], [some 4], [some 5, some 7, some 9, some 11, some 13, some 15, some 17, some 19], [some 2, some 6], [], [some 2, some 8], [], [some 2, some 10], [], [some 2, some 12], [], [some 2, some 14], [], [some 2, some 16], [], [some 2, some 18], [], [some 2, some 20], [], [some 2, some 3, some 22, some 32, some 42, some 53, some 64, some 75], [some 23], [some 24, some 25, some 26, some 27, some 28, some 29, some 30, some 31], [], [], [], [], [], [], [], [], [some 33], [some 34, some 35, some 36, some 37, some 38, some 39, some 40, some 41], [], [], [], [], [], [], [], [], [some 43, some 52], [some 44, some 45, some 46, some 47, some 48, some 49, some 50, some 51], [], [], [], [], [], [], [], [], [], [some 54, some 63], [some 55, some 56, some 57, some 58, some 59, some 60, some 61, some 62], [], [], [], [], [], [], [], [], [], [some 65, some 74], [some 66, some 67, some 68, some 69, some 70, some 71, some 72, some 73], [], [], [], [], [], [], [], [], [], [some 76, some 77, some 78, some 79, some 80, some 81, some 82, some 83, some 84, some 85, some 86, some 87, some 88, some 89, some 90, some 91, some 92, some 93, some 94, some 95, some 96, some 97, some 98, some 99, some 100, some 101, some 102, some 103, some 104, some 105, some 106, some 107, some 108, some 109, some 110, some 111, some 112, some 113, some 114, some 115, some 116, some 117, some 118, some 119, some 120, some 121, some 122, some 123, some 124, some 125, some 126, some 127, some 128, some 129, some 130, some 131, some 132, some 133, some 134, some 135, some 136, some 137, some 138, some 139], [], [], [], [], [], [], [], [], [], [], [], [], [], [], [], [], [], [], [], [], [], [], [], [], [], [], [], [], [], [], [], [], [], [], [], [], [], [], [], [], [], [], [], [], [], [], [], [], [], [], [], [], [], [], [], [], [], [], [], [], [], [], [], [], [some 141], [], [none, some 143, none, some 144, some 145, some 146, some 147, some 148, none, some 149, some 150, some 151, some 152, some 153, some 154, some 155, some 156, some 157, some 158, some 159, none, none, none, none, none, none, some 160, some 161, some 162, some 163, some 164, none, some 165, some 166], [], [], [], [], [], [], [], [], [], [], [], [], [], [], [], [], [], [], [], [], [], [], [], [], []]
def kS (a : Nat) : Nat × Nat := kSl.getD a (15, 0)
def kR (a k : Nat) : Option Nat := (kRl.getD a []).getD k none
def zSK (h : mm_H) : Prop := 168 ≤ mm_n h ∧ (∀ a, 1 ≤ a → a < 168 → mm_s h a = kS a) ∧ ∀ a k b, kR a k = some b → mm_r h a k = some b
section
variable {h h' : mm_H}
theorem kS1 (H : zSK h) : mm_s h 1 = (9, 4) := H.2.1 1 (by decide) (by decide)
theorem kS2 (H : zSK h) : mm_s h 2 = (1, 3) := H.2.1 2 (by decide) (by decide)
theorem kS3 (H : zSK h) : mm_s h 3 = (2, 2) := H.2.1 3 (by decide) (by decide)
theorem kS4 (H : zSK h) : mm_s h 4 = (23, 8) := H.2.1 4 (by decide) (by decide)
theorem kS21 (H : zSK h) : mm_s h 21 = (8, 11) := H.2.1 21 (by decide) (by decide)
theorem kS22 (H : zSK h) : mm_s h 22 = (7, 4) := H.2.1 22 (by decide) (by decide)
theorem kS23 (H : zSK h) : mm_s h 23 = (24, 8) := H.2.1 23 (by decide) (by decide)
theorem kS32 (H : zSK h) : mm_s h 32 = (7, 4) := H.2.1 32 (by decide) (by decide)
theorem kS33 (H : zSK h) : mm_s h 33 = (24, 8) := H.2.1 33 (by decide) (by decide)
theorem kS42 (H : zSK h) : mm_s h 42 = (3, 2) := H.2.1 42 (by decide) (by decide)
theorem kS43 (H : zSK h) : mm_s h 43 = (26, 8) := H.2.1 43 (by decide) (by decide)
theorem kS52 (H : zSK h) : mm_s h 52 = (20, 8) := H.2.1 52 (by decide) (by decide)
theorem kS53 (H : zSK h) : mm_s h 53 = (3, 2) := H.2.1 53 (by decide) (by decide)
theorem kS54 (H : zSK h) : mm_s h 54 = (26, 8) := H.2.1 54 (by decide) (by decide)
theorem kS63 (H : zSK h) : mm_s h 63 = (20, 8) := H.2.1 63 (by decide) (by decide)
theorem kS64 (H : zSK h) : mm_s h 64 = (3, 2) := H.2.1 64 (by decide) (by decide)
theorem kS65 (H : zSK h) : mm_s h 65 = (26, 8) := H.2.1 65 (by decide) (by decide)
theorem kS74 (H : zSK h) : mm_s h 74 = (20, 8) := H.2.1 74 (by decide) (by decide)
theorem kS75 (H : zSK h) : mm_s h 75 = (25, 64) := H.2.1 75 (by decide) (by decide)
theorem kS140 (H : zSK h) : mm_s h 140 = (0, 2) := H.2.1 140 (by decide) (by decide)
theorem kS141 (H : zSK h) : mm_s h 141 = (20, 6) := H.2.1 141 (by decide) (by decide)
theorem kS142 (H : zSK h) : mm_s h 142 = (10, 34) := H.2.1 142 (by decide) (by decide)
theorem kS143 (H : zSK h) : mm_s h 143 = (20, 3) := H.2.1 143 (by decide) (by decide)
theorem kS144 (H : zSK h) : mm_s h 144 = (20, 24) := H.2.1 144 (by decide) (by decide)
theorem kS145 (H : zSK h) : mm_s h 145 = (20, 8) := H.2.1 145 (by decide) (by decide)
theorem kS146 (H : zSK h) : mm_s h 146 = (20, 8) := H.2.1 146 (by decide) (by decide)
theorem kS147 (H : zSK h) : mm_s h 147 = (20, 8) := H.2.1 147 (by decide) (by decide)
theorem kS148 (H : zSK h) : mm_s h 148 = (20, 8) := H.2.1 148 (by decide) (by decide)
theorem kS149 (H : zSK h) : mm_s h 149 = (20, 8) := H.2.1 149 (by decide) (by decide)
theorem kS150 (H : zSK h) : mm_s h 150 = (20, 8) := H.2.1 150 (by decide) (by decide)
theorem kS151 (H : zSK h) : mm_s h 151 = (20, 24) := H.2.1 151 (by decide) (by decide)
theorem kS152 (H : zSK h) : mm_s h 152 = (20, 24) := H.2.1 152 (by decide) (by decide)
theorem kS153 (H : zSK h) : mm_s h 153 = (20, 8) := H.2.1 153 (by decide) (by decide)
theorem kS154 (H : zSK h) : mm_s h 154 = (22, 8) := H.2.1 154 (by decide) (by decide)
theorem kS155 (H : zSK h) : mm_s h 155 = (20, 9) := H.2.1 155 (by decide) (by decide)
theorem kS156 (H : zSK h) : mm_s h 156 = (20, 9) := H.2.1 156 (by decide) (by decide)
theorem kS157 (H : zSK h) : mm_s h 157 = (20, 9) := H.2.1 157 (by decide) (by decide)
theorem kS158 (H : zSK h) : mm_s h 158 = (20, 243) := H.2.1 158 (by decide) (by decide)
theorem kS159 (H : zSK h) : mm_s h 159 = (20, 27) := H.2.1 159 (by decide) (by decide)
theorem kS160 (H : zSK h) : mm_s h 160 = (20, 8) := H.2.1 160 (by decide) (by decide)
theorem kS161 (H : zSK h) : mm_s h 161 = (20, 8) := H.2.1 161 (by decide) (by decide)
theorem kS162 (H : zSK h) : mm_s h 162 = (20, 24) := H.2.1 162 (by decide) (by decide)
theorem kS163 (H : zSK h) : mm_s h 163 = (20, 24) := H.2.1 163 (by decide) (by decide)
theorem kS164 (H : zSK h) : mm_s h 164 = (20, 8) := H.2.1 164 (by decide) (by decide)
theorem kS165 (H : zSK h) : mm_s h 165 = (20, 6) := H.2.1 165 (by decide) (by decide)
theorem kS166 (H : zSK h) : mm_s h 166 = (20, 3) := H.2.1 166 (by decide) (by decide)
theorem kS167 (H : zSK h) : mm_s h 167 = (21, 1) := H.2.1 167 (by decide) (by decide)
theorem kR1_0 (H : zSK h) : mm_r h 1 0 = some 2 := H.2.2 1 0 2 rfl
theorem kR1_1 (H : zSK h) : mm_r h 1 1 = some 3 := H.2.2 1 1 3 rfl
theorem kR1_2 (H : zSK h) : mm_r h 1 2 = some 21 := H.2.2 1 2 21 rfl
theorem kR1_3 (H : zSK h) : mm_r h 1 3 = some 140 := H.2.2 1 3 140 rfl
theorem kR3_0 (H : zSK h) : mm_r h 3 0 = some 4 := H.2.2 3 0 4 rfl
theorem kR21_0 (H : zSK h) : mm_r h 21 0 = some 2 := H.2.2 21 0 2 rfl
theorem kR21_1 (H : zSK h) : mm_r h 21 1 = some 3 := H.2.2 21 1 3 rfl
theorem kR21_2 (H : zSK h) : mm_r h 21 2 = some 22 := H.2.2 21 2 22 rfl
theorem kR21_3 (H : zSK h) : mm_r h 21 3 = some 32 := H.2.2 21 3 32 rfl
theorem kR21_4 (H : zSK h) : mm_r h 21 4 = some 42 := H.2.2 21 4 42 rfl
theorem kR21_5 (H : zSK h) : mm_r h 21 5 = some 53 := H.2.2 21 5 53 rfl
theorem kR21_6 (H : zSK h) : mm_r h 21 6 = some 64 := H.2.2 21 6 64 rfl
theorem kR21_7 (H : zSK h) : mm_r h 21 7 = some 75 := H.2.2 21 7 75 rfl
theorem kR22_0 (H : zSK h) : mm_r h 22 0 = some 23 := H.2.2 22 0 23 rfl
theorem kR32_0 (H : zSK h) : mm_r h 32 0 = some 33 := H.2.2 32 0 33 rfl
theorem kR42_0 (H : zSK h) : mm_r h 42 0 = some 43 := H.2.2 42 0 43 rfl
theorem kR42_1 (H : zSK h) : mm_r h 42 1 = some 52 := H.2.2 42 1 52 rfl
theorem kR53_0 (H : zSK h) : mm_r h 53 0 = some 54 := H.2.2 53 0 54 rfl
theorem kR53_1 (H : zSK h) : mm_r h 53 1 = some 63 := H.2.2 53 1 63 rfl
theorem kR64_0 (H : zSK h) : mm_r h 64 0 = some 65 := H.2.2 64 0 65 rfl
theorem kR64_1 (H : zSK h) : mm_r h 64 1 = some 74 := H.2.2 64 1 74 rfl
theorem kR140_0 (H : zSK h) : mm_r h 140 0 = some 141 := H.2.2 140 0 141 rfl
theorem kR142_1 (H : zSK h) : mm_r h 142 1 = some 143 := H.2.2 142 1 143 rfl
theorem kR142_3 (H : zSK h) : mm_r h 142 3 = some 144 := H.2.2 142 3 144 rfl
theorem kR142_4 (H : zSK h) : mm_r h 142 4 = some 145 := H.2.2 142 4 145 rfl
theorem kR142_5 (H : zSK h) : mm_r h 142 5 = some 146 := H.2.2 142 5 146 rfl
theorem kR142_6 (H : zSK h) : mm_r h 142 6 = some 147 := H.2.2 142 6 147 rfl
theorem kR142_7 (H : zSK h) : mm_r h 142 7 = some 148 := H.2.2 142 7 148 rfl
theorem kR142_9 (H : zSK h) : mm_r h 142 9 = some 149 := H.2.2 142 9 149 rfl
theorem kR142_10 (H : zSK h) : mm_r h 142 10 = some 150 := H.2.2 142 10 150 rfl
theorem kR142_11 (H : zSK h) : mm_r h 142 11 = some 151 := H.2.2 142 11 151 rfl
theorem kR142_12 (H : zSK h) : mm_r h 142 12 = some 152 := H.2.2 142 12 152 rfl
theorem kR142_13 (H : zSK h) : mm_r h 142 13 = some 153 := H.2.2 142 13 153 rfl
theorem kR142_14 (H : zSK h) : mm_r h 142 14 = some 154 := H.2.2 142 14 154 rfl
theorem kR142_15 (H : zSK h) : mm_r h 142 15 = some 155 := H.2.2 142 15 155 rfl
theorem kR142_16 (H : zSK h) : mm_r h 142 16 = some 156 := H.2.2 142 16 156 rfl
theorem kR142_17 (H : zSK h) : mm_r h 142 17 = some 157 := H.2.2 142 17 157 rfl
theorem kR142_18 (H : zSK h) : mm_r h 142 18 = some 158 := H.2.2 142 18 158 rfl
theorem kR142_19 (H : zSK h) : mm_r h 142 19 = some 159 := H.2.2 142 19 159 rfl
theorem kR142_26 (H : zSK h) : mm_r h 142 26 = some 160 := H.2.2 142 26 160 rfl
theorem kR142_27 (H : zSK h) : mm_r h 142 27 = some 161 := H.2.2 142 27 161 rfl
theorem kR142_28 (H : zSK h) : mm_r h 142 28 = some 162 := H.2.2 142 28 162 rfl
theorem kR142_29 (H : zSK h) : mm_r h 142 29 = some 163 := H.2.2 142 29 163 rfl
theorem kR142_30 (H : zSK h) : mm_r h 142 30 = some 164 := H.2.2 142 30 164 rfl
theorem kR142_32 (H : zSK h) : mm_r h 142 32 = some 165 := H.2.2 142 32 165 rfl
theorem kR142_33 (H : zSK h) : mm_r h 142 33 = some 166 := H.2.2 142 33 166 rfl
theorem kS_piece (H : zSK h) {i : Nat} (hi : i < 8) : mm_s h (5 + 2 * i) = (5, 10) := (H.2.1 (5 + 2 * i) (by omega) (by omega)).trans ((show ∀ i, i < 8 → kS (5 + 2 * i) = (5, 10) by decide) i hi)
theorem kS_good (H : zSK h) {i : Nat} (hi : i < 8) : mm_s h (6 + 2 * i) = (22, 6) := (H.2.1 (6 + 2 * i) (by omega) (by omega)).trans ((show ∀ i, i < 8 → kS (6 + 2 * i) = (22, 6) by decide) i hi)
theorem kR_pieces (H : zSK h) {i : Nat} (hi : i < 8) : mm_r h 4 i = some (5 + 2 * i) := H.2.2 4 i (5 + 2 * i) ((show ∀ i, i < 8 → kR 4 i = some (5 + 2 * i) by decide) i hi)
theorem kS_slot (H : zSK h) {i : Nat} (hi : i < 8) : mm_s h (24 + i) = (6, 16) := (H.2.1 (24 + i) (by omega) (by omega)).trans ((show ∀ i, i < 8 → kS (24 + i) = (6, 16) by decide) i hi)
theorem kR_slots (H : zSK h) {i : Nat} (hi : i < 8) : mm_r h 23 i = some (24 + i) := H.2.2 23 i (24 + i) ((show ∀ i, i < 8 → kR 23 i = some (24 + i) by decide) i hi)
theorem kS_bslot (H : zSK h) {i : Nat} (hi : i < 8) : mm_s h (34 + i) = (6, 16) := (H.2.1 (34 + i) (by omega) (by omega)).trans ((show ∀ i, i < 8 → kS (34 + i) = (6, 16) by decide) i hi)
theorem kR_bslots (H : zSK h) {i : Nat} (hi : i < 8) : mm_r h 33 i = some (34 + i) := H.2.2 33 i (34 + i) ((show ∀ i, i < 8 → kR 33 i = some (34 + i) by decide) i hi)
theorem kS_rights (H : zSK h) {i : Nat} (hi : i < 8) : mm_s h (44 + i) = (20, 8) := (H.2.1 (44 + i) (by omega) (by omega)).trans ((show ∀ i, i < 8 → kS (44 + i) = (20, 8) by decide) i hi)
theorem kR_rights (H : zSK h) {i : Nat} (hi : i < 8) : mm_r h 43 i = some (44 + i) := H.2.2 43 i (44 + i) ((show ∀ i, i < 8 → kR 43 i = some (44 + i) by decide) i hi)
theorem kS_tops (H : zSK h) {i : Nat} (hi : i < 8) : mm_s h (55 + i) = (20, 8) := (H.2.1 (55 + i) (by omega) (by omega)).trans ((show ∀ i, i < 8 → kS (55 + i) = (20, 8) by decide) i hi)
theorem kR_tops (H : zSK h) {i : Nat} (hi : i < 8) : mm_r h 54 i = some (55 + i) := H.2.2 54 i (55 + i) ((show ∀ i, i < 8 → kR 54 i = some (55 + i) by decide) i hi)
theorem kS_fronts (H : zSK h) {i : Nat} (hi : i < 8) : mm_s h (66 + i) = (20, 8) := (H.2.1 (66 + i) (by omega) (by omega)).trans ((show ∀ i, i < 8 → kS (66 + i) = (20, 8) by decide) i hi)
theorem kR_fronts (H : zSK h) {i : Nat} (hi : i < 8) : mm_r h 65 i = some (66 + i) := H.2.2 65 i (66 + i) ((show ∀ i, i < 8 → kR 65 i = some (66 + i) by decide) i hi)
theorem kS_floor (H : zSK h) {i : Nat} (hi : i < 64) : mm_s h (76 + i) = (4, 6) := (H.2.1 (76 + i) (by omega) (by omega)).trans ((show ∀ i, i < 64 → kS (76 + i) = (4, 6) by decide) i hi)
theorem kR_floors (H : zSK h) {i : Nat} (hi : i < 64) : mm_r h 75 i = some (76 + i) := H.2.2 75 i (76 + i) ((show ∀ i, i < 64 → kR 75 i = some (76 + i) by decide) i hi)
theorem kR_pbox (H : zSK h) {i : Nat} (hi : i < 8) : mm_r h (5 + 2 * i) 0 = some 2 := H.2.2 (5 + 2 * i) 0 2 ((show ∀ i, i < 8 → kR (5 + 2 * i) 0 = some 2 by decide) i hi)
theorem kR_pgood (H : zSK h) {i : Nat} (hi : i < 8) : mm_r h (5 + 2 * i) 1 = some (6 + 2 * i) := H.2.2 (5 + 2 * i) 1 (6 + 2 * i) ((show ∀ i, i < 8 → kR (5 + 2 * i) 1 = some (6 + 2 * i) by decide) i hi)
theorem kSk_row (H : zSK h) : zSk h 22 := ⟨by rw [kS22 H], kR22_0 H, kS23 H, fun i hi => ⟨kR_slots H hi, by rw [show 22 + 2 + i = 24 + i from rfl, kS_slot H hi]⟩⟩
theorem kSk_best (H : zSK h) : zSk h 32 := ⟨by rw [kS32 H], kR32_0 H, kS33 H, fun i hi => ⟨kR_bslots H hi, by rw [show 32 + 2 + i = 34 + i from rfl, kS_bslot H hi]⟩⟩
/-- what a run of methods that make nothing leaves: all but the numbers of the cells of T -/
def zFr (T : Nat → Prop) (h h' : mm_H) : Prop := mm_n h' = mm_n h ∧ mm_z h' = mm_z h ∧ mm_s h' = mm_s h ∧ mm_r h' = mm_r h ∧ ∀ a, ¬ T a → ∀ k, mm_i h' a k = mm_i h a k ∧ mm_l h' a k = mm_l h a k
theorem zFr.sk {T : Nat → Prop} (H : zSK h) (F : zFr T h h') : zSK h' := ⟨by rw [F.1]; exact H.1, by rw [F.2.2.1]; exact H.2.1, by rw [F.2.2.2.1]; exact H.2.2⟩
end
section
variable {h h' h'' : mm_H} {T T' : Nat → Prop}
theorem zFr.refl : zFr T h h := ⟨rfl, rfl, rfl, rfl, fun _ _ _ => ⟨rfl, rfl⟩⟩
theorem zFr.trans (F : zFr T h h') (G : zFr T h' h'') : zFr T h h'' := ⟨G.1.trans F.1, G.2.1.trans F.2.1, G.2.2.1.trans F.2.2.1, G.2.2.2.1.trans F.2.2.2.1, fun a ha k => ⟨(G.2.2.2.2 a ha k).1.trans (F.2.2.2.2 a ha k).1, (G.2.2.2.2 a ha k).2.trans (F.2.2.2.2 a ha k).2⟩⟩
theorem zFr.mono (F : zFr T h h') (hT : ∀ a, T a → T' a) : zFr T' h h' := ⟨F.1, F.2.1, F.2.2.1, F.2.2.2.1, fun a ha k => F.2.2.2.2 a (fun t => ha (hT a t)) k⟩
theorem zFr.i (F : zFr T h h') {a : Nat} (ha : ¬ T a) (k : Nat) : mm_i h' a k = mm_i h a k := (F.2.2.2.2 a ha k).1
theorem zFr.l (F : zFr T h h') {a : Nat} (ha : ¬ T a) (k : Nat) : mm_l h' a k = mm_l h a k := (F.2.2.2.2 a ha k).2
theorem zFr.pi {a k : Nat} {v : Int32} (ha : T a) : zFr T h (mm_pi h a k v) := ⟨rfl, rfl, rfl, rfl, fun b hb j => ⟨by rw [mm_i_pi, if_neg (fun (e : b = a ∧ j = k) => hb (by rw [e.1]; exact ha))], rfl⟩⟩
theorem zFr.pl {a k : Nat} {v : Int64} (ha : T a) : zFr T h (mm_pl h a k v) := ⟨rfl, rfl, rfl, rfl, fun b hb j => ⟨rfl, by rw [mm_l_pl, if_neg (fun (e : b = a ∧ j = k) => hb (by rw [e.1]; exact ha))]⟩⟩
end
