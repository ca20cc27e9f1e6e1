/-! THE LAW -/
section
variable {d : Nat} {h h' h0 : mm_H} {Q : mm_Q} {n na bL c i len j k : Nat} {w0 w1 w2 : Int32}
theorem lw_loop {Z : Nat} (hl : mm_s h0 0 = (20, len)) (hlen : len < 2 ^ 31) : ∀ m i c h (v5 v6 v7 : Value), len < i + 5 + 5 * m → i ≤ len + 5 → i < 2 ^ 31 → zLw Z h0 h c → (∀ h' c', c' ≤ c + m → zLw Z h0 h' c' → Q (.inl (some (.int 1))) h') → mm_wp (d + 40) 0 53 [.ref 0, .ref 1, .ref 142, .ref 167, .int (nI i), v5, v6, v7] [] h Q := by
  have e5 : nI len - (5 : Int32) = zI ((len : Int) - 5) := by rw [zI_n, show (5 : Int32) = zI 5 from rfl, zI_sub]
  have r5 : zr ((len : Int) - 5) := by simp only [zr]; omega
  intro m
  induction m with
  | zero =>
    intro i c h v5 v6 v7 hm h1 h2 L K
    have L0 := L
    obtain ⟨W, n, P, mk, sp, bL, bR, na, A, S, C, M, l1, l2, l3, l4⟩ := L
    have s0 : mm_s h 0 = (20, len) := l1.trans hl
    have ri : zr (i : Int) := by simp only [zr]; omega
    have c1 : zI ((len : Int) - 5) < nI i := by rw [zI_n, zI_lt r5 ri]; omega
    rw [s0_53]
    simp only [s0_55, s0_55o, s0_55n, s0_56, s0_57, s0_58, s0_59, s0_866, s0_867, or_true, true_or, true_and, and_true, mm_o_some, mm_o_none, mm_bk_v, mm_bk_n, Nat.reduceAdd, s0, Nat.reduceLeDiff, e5, if_pos c1]
    exact K h c (by omega) L0
  | succ m ih =>
    intro i c h v5 v6 v7 hm h1 h2 L K
    have L0 := L
    obtain ⟨W, n, P, mk, sp, bL, bR, na, A, S, C, M, l1, l2, l3, l4⟩ := L
    have s0 : mm_s h 0 = (20, len) := l1.trans hl
    have ri : zr (i : Int) := by simp only [zr]; omega
    by_cases hi5 : i + 5 ≤ len
    · have c1 : ¬ zI ((len : Int) - 5) < nI i := by rw [zI_n, zI_lt r5 ri]; omega
      have j0 : mm_in (nI i) len = true := mm_inN (by omega) (by omega)
      have c0 : (nI i).toNatClampNeg = i := nI_clamp (by omega)
      have n5 : nI i + (5 : Int32) = nI (i + 5) := nI_add i 5
      rw [s0_53]
      simp only [s0_55, s0_55o, s0_55n, s0_56, s0_57, s0_58, s0_59, s0_62, s0_62o, s0_62n, s0_63, s0_65, s0_66, s0_68, or_true, true_or, true_and, and_true, mm_o_some, mm_o_none, mm_bk_v, mm_bk_n, Nat.reduceAdd, s0, Nat.reduceLeDiff, e5, if_neg c1, j0, c0]
      have nxt : ∀ h' (v5 v6 v7 : Value), zLw Z h0 h' (c + 1) → mm_wp (d + 40) 0 860 [.ref 0, .ref 1, .ref 142, .ref 167, .int (nI i), v5, v6, v7] [] h' Q := by
        intro h' v5 v6 v7 L'
        simp only [s0_860, s0_863, n5]
        exact ih (i + 5) (c + 1) h' v5 v6 v7 (by omega) (by omega) (by omega) L' (fun h'' c' hc => K h'' c' (by omega))
      generalize mm_i h 0 i &&& (15 : Int32) = v
      have L := L0
      by_cases gd : v.toInt < 0 ∨ 13 < v.toInt
      · rw [s0_69d gd]
        refine nxt h v5 v6 v7 ?_
        obtain ⟨W, n, P, mk, sp, bL, bR, na, A, S, C, M, l1, l2, l3, l4⟩ := L
        exact ⟨W, n, P, mk, sp, bL, bR, na, A, S, C, M, l1, l2, by omega, by omega⟩
      · have h14 : v.toInt = 0 ∨ v.toInt = 1 ∨ v.toInt = 2 ∨ v.toInt = 3 ∨ v.toInt = 4 ∨ v.toInt = 5 ∨ v.toInt = 6 ∨ v.toInt = 7 ∨ v.toInt = 8 ∨ v.toInt = 9 ∨ v.toInt = 10 ∨ v.toInt = 11 ∨ v.toInt = 12 ∨ v.toInt = 13 := by omega
        rcases h14 with g | g | g | g | g | g | g | g | g | g | g | g | g | g
        · have ev : v = (0 : Int32) := by rw [← zI_x v, g]; rfl
          rw [ev, s0_69_0]
          exact lw_piece L hl hlen hi5 v5 v6 v7 nxt
        · have ev : v = (1 : Int32) := by rw [← zI_x v, g]; rfl
          rw [ev, s0_69_1]
          exact lw_turn L hl hlen hi5 v5 v6 v7 nxt
        · have ev : v = (2 : Int32) := by rw [← zI_x v, g]; rfl
          rw [ev, s0_69_2]
          exact lw_order L hl hlen hi5 v5 v6 v7 nxt
        · have ev : v = (3 : Int32) := by rw [← zI_x v, g]; rfl
          rw [ev, s0_69_3]
          exact lw_limit L hl hlen hi5 v5 v6 v7 nxt
        · have ev : v = (4 : Int32) := by rw [← zI_x v, g]; rfl
          rw [ev, s0_69_4]
          exact lw_fits L hl hlen hi5 v5 v6 v7 nxt
        · have ev : v = (5 : Int32) := by rw [← zI_x v, g]; rfl
          rw [ev, s0_69_5]
          exact lw_pack L hl hlen hi5 v5 v6 v7 nxt
        · have ev : v = (6 : Int32) := by rw [← zI_x v, g]; rfl
          rw [ev, s0_69_6]
          exact lw_exact L hl hlen hi5 v5 v6 v7 nxt
        · have ev : v = (7 : Int32) := by rw [← zI_x v, g]; rfl
          rw [ev, s0_69_7]
          exact lw_steps L hl hlen hi5 v5 v6 v7 nxt
        · have ev : v = (8 : Int32) := by rw [← zI_x v, g]; rfl
          rw [ev, s0_69_8]
          exact lw_bound L hl hlen hi5 v5 v6 v7 nxt
        · have ev : v = (9 : Int32) := by rw [← zI_x v, g]; rfl
          rw [ev, s0_69_9]
          exact lw_at L hl hlen hi5 v5 v6 v7 nxt
        · have ev : v = (10 : Int32) := by rw [← zI_x v, g]; rfl
          rw [ev, s0_69_10]
          exact lw_moment L hl hlen hi5 v5 v6 v7 nxt
        · have ev : v = (11 : Int32) := by rw [← zI_x v, g]; rfl
          rw [ev, s0_69_11]
          exact lw_touch L hl hlen hi5 v5 v6 v7 nxt
        · have ev : v = (12 : Int32) := by rw [← zI_x v, g]; rfl
          rw [ev, s0_69_12]
          exact lw_axle L hl hlen hi5 v5 v6 v7 nxt
        · have ev : v = (13 : Int32) := by rw [← zI_x v, g]; rfl
          rw [ev, s0_69_13]
          exact lw_load L hl hlen hi5 v5 v6 v7 nxt
    · have c1 : zI ((len : Int) - 5) < nI i := by rw [zI_n, zI_lt r5 ri]; omega
      rw [s0_53]
      simp only [s0_55, s0_55o, s0_55n, s0_56, s0_57, s0_58, s0_59, s0_866, s0_867, or_true, true_or, true_and, and_true, mm_o_some, mm_o_none, mm_bk_v, mm_bk_n, Nat.reduceAdd, s0, Nat.reduceLeDiff, e5, if_pos c1]
      exact K h c (by omega) L0
theorem c21z (hs : mm_s h 0 = (20, len)) (hlen : len < 2 ^ 31) (hk : k < 3) : mm_wp d 21 0 [.ref 0, .int (nI k)] [] h Q ↔ Q (.inl (some (.int (if k < len then mm_i h 0 k else 0)))) h := by
  by_cases g : k < len
  · have c1 : ¬ nI len ≤ nI k := nI_ge g hlen
    have j0 : mm_in (nI k) len = true := mm_inN g hlen
    have c0 : (nI k).toNatClampNeg = k := nI_clamp (by omega)
    simp only [s21_0, s21_1, s21_1o, s21_1n, s21_2, s21_3, s21_6, s21_6o, s21_6n, s21_7, s21_8, s21_9, s21_12, s21_13, or_true, true_or, true_and, and_true, mm_o_some, mm_o_none, mm_bk_v, mm_bk_n, Nat.reduceAdd, hs, Nat.reduceLeDiff, if_neg c1, j0, c0, if_pos g]
  · have c1 : nI len ≤ nI k := nI_le (by omega) (by omega)
    simp only [s21_0, s21_1, s21_1o, s21_1n, s21_2, s21_3, s21_6, s21_6o, s21_6n, s21_7, s21_8, s21_9, s21_12, s21_13, or_true, true_or, true_and, and_true, mm_o_some, mm_o_none, mm_bk_v, mm_bk_n, Nat.reduceAdd, hs, Nat.reduceLeDiff, if_pos c1, if_neg g]
/-- all is made -/
theorem zBI.sk {z : Nat} (H : zBI w0 w1 w2 h0 h 168 z (fun _ _ => False) (fun _ _ => False)) : zSK h := ⟨by rw [H.1]; omega, fun a a1 a2 => H.s a1 a2, fun a k b e => H.re (by
    have := kR_p e
    rw [kRP_iff] at this
    omega) (kR_lt a k b e) e (fun q => q)⟩
theorem zBI.v {z a : Nat} (H : zBI w0 w1 w2 h0 h 168 z (fun _ _ => False) (fun _ _ => False)) (a1 : 1 ≤ a) (a2 : a < 168) (k : Nat) : mm_i h a k = kV w0 w1 w2 a k := H.2.2.2.2.2.1 a k a1 a2 (fun q => q)
theorem zBI.v0 {z a : Nat} (H : zBI w0 w1 w2 h0 h 168 z (fun _ _ => False) (fun _ _ => False)) (a1 : 1 ≤ a) (a2 : a < 168) {k : Nat} (h1 : ¬ (a = 2 ∨ a = 143)) (h2 : ¬ (a = 21 ∧ k = 9)) (h3 : ¬ (24 ≤ a ∧ a < 32 ∧ k = 0)) (h4 : ¬ (34 ≤ a ∧ a < 42 ∧ k = 0)) (h5 : ¬ ((a = 52 ∨ a = 63 ∨ a = 74) ∧ k = 0)) : mm_i h a k = 0 := (H.v a1 a2 k).trans (kV_0 h1 h2 h3 h4 h5)
theorem zLw_0 {z : Nat} {x x2 x3 : Int32} (H : zBI (zI (max 1 (min 200 x.toInt))) (zI (max 1 (min 200 x2.toInt))) (zI (max 1 (min 200 x3.toInt))) h0 h 168 z (fun _ _ => False) (fun _ _ => False)) : zLw z h0 h 0 := by
  have K := H.sk
  have l0 : ∀ a k, 1 ≤ a → a < 168 → mm_l h a k = 0 := fun a k a1 a2 => H.2.2.2.2.2.2.1 a k a1 a2
  refine ⟨fun k => if k = 0 then max 1 (min 200 x.toInt) else if k = 1 then max 1 (min 200 x2.toInt) else max 1 (min 200 x3.toInt), 0, fun _ _ => 0, -1, false, 0, zR0, 0, fun _ => 0, ?_, ?_, ?_, H.2.2.2.2.2.2.2.1, H.2.2.2.2.2.2.2.2, by rw [H.1]; omega, by rw [H.2.1]; omega⟩
  · refine ⟨?_, by omega, fun p hp => absurd hp (Nat.not_lt_zero p), by simp only [zr]; omega, fun i hi => absurd hi (Nat.not_lt_zero i), fun k hk => absurd hk (Nat.not_lt_zero k), by omega, fun i hi => absurd hi (Nat.not_lt_zero i), fun i hi => by omega⟩
    simp only [zWok, Nat.reduceEqDiff, reduceIte]
    omega
  · refine ⟨K, ⟨fun k hk => ?_, H.v0 (by omega) (by omega) (by omega) (by omega) (by omega) (by omega) (by omega), fun p hp => absurd hp (Nat.not_lt_zero p), fun p t hp => absurd hp (Nat.not_lt_zero p)⟩, fun p hp => absurd hp (Nat.not_lt_zero p), ⟨⟨kSk_best K, by omega, H.v0 (by omega) (by omega) (by omega) (by omega) (by omega) (by omega) (by omega), fun i hi => absurd hi (Nat.not_lt_zero i)⟩, H.v0 (by omega) (by omega) (by omega) (by omega) (by omega) (by omega) (by omega), l0 32 3 (by omega) (by omega)⟩, fun j j1 j2 => ?_, fun i hi => ⟨?_, ?_⟩, ?_, H.v0 (by omega) (by omega) (by omega) (by omega) (by omega) (by omega) (by omega), H.v0 (by omega) (by omega) (by omega) (by omega) (by omega) (by omega) (by omega), fun i hi => absurd hi (Nat.not_lt_zero i)⟩
    · rw [H.v (by omega) (by omega), kV, if_pos (Or.inl rfl)]
      have : k = 0 ∨ k = 1 ∨ k = 2 := by omega
      rcases this with rfl | rfl | rfl <;> rfl
    · obtain rfl : j = 0 := by omega
      have ed : ∀ e, (e = 42 ∨ e = 53 ∨ e = 64) → zEd h e 0 [0] := by
        intro e he
        refine ⟨?_, by decide, fun i hi => ?_⟩
        · rw [H.v (by omega) (by omega), kV, if_neg (by omega), if_neg (by omega), if_neg (by omega), if_neg (by omega), if_pos (by omega)]; rfl
        · obtain rfl : i = 0 := by simpa using hi
          rw [H.v0 (by omega) (by omega) (by omega) (by omega) (by omega) (by omega) (by omega)]; rfl
      exact ⟨ed 42 (by omega), ed 53 (by omega), ed 64 (by omega)⟩
    · rw [H.v (by omega) (by omega), kV, if_neg (by omega), if_neg (by omega), if_pos (by omega), show 24 + i - 24 = i by omega]
    · rw [H.v (by omega) (by omega), kV, if_neg (by omega), if_neg (by omega), if_neg (by omega), if_pos (by omega), show 34 + i - 34 = i by omega]
    · rw [H.v (by omega) (by omega), kV, if_neg (by omega), if_pos ⟨rfl, rfl⟩]; rfl
  · have z0 : ∀ k, mm_i h 142 k = 0 := fun k => H.v0 (by omega) (by omega) (by omega) (by omega) (by omega) (by omega) (by omega)
    refine ⟨K, ⟨fun k hk => ?_, z0 2, fun p hp => absurd hp (Nat.not_lt_zero p)⟩, ⟨z0 23, by omega, l0 142 24 (by omega) (by omega), l0 142 25 (by omega) (by omega), fun k hk => absurd hk (Nat.not_lt_zero k)⟩, z0 20, z0 21, fun q => absurd rfl q, z0 31, fun i hi => absurd hi (Nat.not_lt_zero i)⟩
    rw [H.v (by omega) (by omega), kV, if_pos (Or.inr rfl)]
    have : k = 0 ∨ k = 1 ∨ k = 2 := by omega
    rcases this with rfl | rfl | rfl <;> rfl
/-- THE LAW: whatever the script, the answer is true -/
theorem lw_law (hn : mm_n h0 = 1) (hl : mm_s h0 0 = (20, len)) (hlen : len < 2 ^ 31) (K : ∀ h', mm_n h' ≤ 168 + len / 5 → mm_z h' ≤ mm_z h0 + 1690 + 6 * (len / 5) → Q (.inl (some (.int 1))) h') : mm_wp (d + 40) 0 0 [.ref 0, mm_j, mm_j, mm_j, mm_j, mm_j, mm_j, mm_j] [] h0 Q := by
  generalize ex : (if 0 < len then mm_i h0 0 0 else (0 : Int32)) = x
  generalize ex2 : (if 1 < len then mm_i h0 0 1 else (0 : Int32)) = x2
  generalize ex3 : (if 2 < len then mm_i h0 0 2 else (0 : Int32)) = x3
  have B0 : zBI (zI (max 1 (min 200 x.toInt))) (zI (max 1 (min 200 x2.toInt))) (zI (max 1 (min 200 x3.toInt))) h0 h0 1 0 (fun _ _ => False) (fun _ _ => False) := ⟨hn, by omega, by omega, fun a a1 a2 => by omega, fun a k b a1 a2 => by omega, fun a k a1 a2 => by omega, fun a k a1 a2 => by omega, rfl, fun _ => rfl⟩
  have B1 := (B0.nw (sl := 4) (kd := 9) (len := 4) rfl).mono (S' := fun a k => a = 1 ∧ k < 4) (T' := fun _ _ => False) (fun a k ha q => by
    rcases q with q | ⟨q, e⟩
    · exact q.elim
    · obtain ⟨b, e⟩ := kR_w e
      rw [kRP_iff] at e
      omega) (fun a k ha q => by
    rcases q with q | ⟨q, e⟩
    · exact q
    · exact e (kV_0 (by omega) (by omega) (by omega) (by omega) (by omega)))
  have hs1 : mm_s (mm_nw h0 9 4 4) 0 = (20, len) := by rw [B1.2.2.2.2.2.2.2.1]; exact hl
  have hv1 := B1.2.2.2.2.2.2.2.2
  have d0 : ∀ (Q : mm_Q) (d : Nat), mm_wp d 21 0 [.ref 0, .int 0] [] (mm_nw h0 9 4 4) Q ↔ Q (.inl (some (.int x))) (mm_nw h0 9 4 4) := fun Q d => by
    have := c21z (d := d) (Q := Q) (k := 0) hs1 hlen (by omega)
    rw [hv1, ex] at this
    exact this
  have d1 : ∀ (Q : mm_Q) (d : Nat), mm_wp d 21 0 [.ref 0, .int 1] [] (mm_nw h0 9 4 4) Q ↔ Q (.inl (some (.int x2))) (mm_nw h0 9 4 4) := fun Q d => by
    have := c21z (d := d) (Q := Q) (k := 1) hs1 hlen (by omega)
    rw [hv1, ex2] at this
    exact this
  have d2 : ∀ (Q : mm_Q) (d : Nat), mm_wp d 21 0 [.ref 0, .int 2] [] (mm_nw h0 9 4 4) Q ↔ Q (.inl (some (.int x3))) (mm_nw h0 9 4 4) := fun Q d => by
    have := c21z (d := d) (Q := Q) (k := 2) hs1 hlen (by omega)
    rw [hv1, ex3] at this
    exact this
  simp only [s0_0, s0_3, s0_4, s0_4o, s0_4n, s0_5, s0_6, s0_9, s0_9o, s0_9n, s0_10, s0_11, s0_14, s0_14o, s0_14n, s0_15, s0_16, s0_19, or_true, true_or, true_and, and_true, mm_o_some, mm_o_none, mm_bk_v, mm_bk_n, Nat.reduceAdd, hn, d0, d1, d2]
  refine c1z B1 rfl rfl rfl (fun h1 C1 => ?_)
  have B2 := (C1.nw (sl := 34) (kd := 10) (len := 34) rfl).mono (S' := fun a k => a = 142 ∧ ∃ b, kR 142 k = some b ∧ 143 ≤ b) (T' := fun _ _ => False) (fun a k ha q => by
    rcases q with q | ⟨q, e⟩
    · exact q.elim
    · cases e' : kR 142 k with
      | none => exact absurd e' e
      | some b =>
        have := kR_p e'
        rw [kRP_iff] at this
        exact ⟨q, b, rfl, by omega⟩) (fun a k ha q => by
    rcases q with q | ⟨q, e⟩
    · exact q
    · exact e (kV_0 (by omega) (by omega) (by omega) (by omega) (by omega)))
  have hs2 : mm_s (mm_nw h1 10 34 34) 0 = (20, len) := by rw [B2.2.2.2.2.2.2.2.1]; exact hl
  have hv2 := B2.2.2.2.2.2.2.2.2
  have f0 : ∀ (Q : mm_Q) (d : Nat), mm_wp d 21 0 [.ref 0, .int 0] [] (mm_nw h1 10 34 34) Q ↔ Q (.inl (some (.int x))) (mm_nw h1 10 34 34) := fun Q d => by
    have := c21z (d := d) (Q := Q) (k := 0) hs2 hlen (by omega)
    rw [hv2, ex] at this
    exact this
  have f1 : ∀ (Q : mm_Q) (d : Nat), mm_wp d 21 0 [.ref 0, .int 1] [] (mm_nw h1 10 34 34) Q ↔ Q (.inl (some (.int x2))) (mm_nw h1 10 34 34) := fun Q d => by
    have := c21z (d := d) (Q := Q) (k := 1) hs2 hlen (by omega)
    rw [hv2, ex2] at this
    exact this
  have f2 : ∀ (Q : mm_Q) (d : Nat), mm_wp d 21 0 [.ref 0, .int 2] [] (mm_nw h1 10 34 34) Q ↔ Q (.inl (some (.int x3))) (mm_nw h1 10 34 34) := fun Q d => by
    have := c21z (d := d) (Q := Q) (k := 2) hs2 hlen (by omega)
    rw [hv2, ex3] at this
    exact this
  simp only [s0_22, s0_22o, s0_22n, s0_23, s0_26, s0_27, s0_27o, s0_27n, s0_28, s0_29, s0_32, s0_32o, s0_32n, s0_33, s0_34, s0_37, s0_37o, s0_37n, s0_38, s0_39, s0_42, or_true, true_or, true_and, and_true, mm_o_some, mm_o_none, mm_bk_v, mm_bk_n, Nat.reduceAdd, C1.1, f0, f1, f2]
  refine c108z B2 rfl rfl rfl (fun h2 C2 => ?_)
  have B3 := C2.nw0 (sl := 1) (kd := 21) (len := 1) rfl (fun k => kR_no (fun b => by simp only [kRP, kRP1, kRP2, kRP3, kRP4, Bool.or_eq_false_iff, decide_eq_false_iff_not]; omega)) (fun k => kV_0 (by omega) (by omega) (by omega) (by omega) (by omega))
  have L := zLw_0 B3
  have lit1 : (0 : Int32) ≤ 1 ∧ (1 : Int32) ≤ 1000 := by decide
  simp only [s0_45, s0_45o, s0_45n, s0_46, s0_47, s0_49, s0_49o, s0_49n, s0_50, s0_51, or_true, true_or, true_and, and_true, mm_o_some, mm_o_none, mm_bk_v, mm_bk_n, Nat.reduceAdd, C2.1, lit1, show (1 : Int32).toNatClampNeg = 1 from rfl]
  generalize mm_nw h2 21 1 1 = h3 at *
  rw [show (3 : Int32) = nI 3 from rfl]
  refine lw_loop hl hlen (len / 5) 3 0 h3 _ _ _ (by omega) (by omega) (by omega) L (fun h' c' hc L' => ?_)
  obtain ⟨W, n, P, mk, sp, bL, bR, na, A, S, C, M, l1, l2, l3, l4⟩ := L'
  exact K h' (by omega) (by omega)
end
