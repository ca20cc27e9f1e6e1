/-! MAKING THE CLASS AND THE REFERENCE -/
section
variable {d : Nat} {h h' h0 : mm_H} {Q : mm_Q} {N z a b k r e i : Nat} {S S' T T' : Nat → Nat → Prop} {w0 w1 w2 : Int32}
theorem lit_3 : ((0 : Int32) ≤ 3 ∧ (3 : Int32) ≤ 1000) = True := by decide
theorem cln_3 : (3 : Int32).toNatClampNeg = 3 := rfl
theorem lit_6 : ((0 : Int32) ≤ 6 ∧ (6 : Int32) ≤ 1000) = True := by decide
theorem cln_6 : (6 : Int32).toNatClampNeg = 6 := rfl
theorem lit_8 : ((0 : Int32) ≤ 8 ∧ (8 : Int32) ≤ 1000) = True := by decide
theorem cln_8 : (8 : Int32).toNatClampNeg = 8 := rfl
theorem lit_9 : ((0 : Int32) ≤ 9 ∧ (9 : Int32) ≤ 1000) = True := by decide
theorem cln_9 : (9 : Int32).toNatClampNeg = 9 := rfl
theorem lit_24 : ((0 : Int32) ≤ 24 ∧ (24 : Int32) ≤ 1000) = True := by decide
theorem cln_24 : (24 : Int32).toNatClampNeg = 24 := rfl
theorem lit_27 : ((0 : Int32) ≤ 27 ∧ (27 : Int32) ≤ 1000) = True := by decide
theorem cln_27 : (27 : Int32).toNatClampNeg = 27 := rfl
theorem lit_243 : ((0 : Int32) ≤ 243 ∧ (243 : Int32) ≤ 1000) = True := by decide
theorem cln_243 : (243 : Int32).toNatClampNeg = 243 := rfl
theorem c13z (hN : mm_n h = a + 1) (hs : (mm_s h a).1 = 0) : mm_wp d 13 0 [.ref a] [] h Q ↔ Q (.inl none) (mm_pr (mm_nw h 20 6 6) a 0 (some (a + 1))) := by
  have e1 : (mm_s (mm_nw h 20 6 6) a).1 = 0 := by rw [mm_s_nw, if_neg (by omega)]; exact hs
  simp only [s13_0, s13_1, s13_4, s13_5, s13_7, s13_9, s13_12, or_true, true_or, true_and, and_true, mm_o_some, mm_o_none, mm_bk_v, mm_bk_n, Nat.reduceAdd, lit_6, cln_6, hN, e1]
theorem c8z (H0 : zBI w0 w1 w2 h0 h 22 z (fun a k => (a = 1 ∧ 2 ≤ k ∧ k < 4) ∨ (a = 21 ∧ k < 8)) (fun a k => a = 21 ∧ k = 9)) (v3 : Value) (K : ∀ h', zBI w0 w1 w2 h0 h' 140 (z + 974) (fun a k => a = 1 ∧ 2 ≤ k ∧ k < 4) (fun _ _ => False) → Q (.inl none) h') : mm_wp (d + 2) 8 0 [.ref 21, .ref 2, .ref 3, v3] [] h Q := by
  have A1 : zBI w0 w1 w2 h0 (mm_nw h 7 4 4) (22 + 1) (z + 4) (fun a k => ((fun a k => (a = 1 ∧ 2 ≤ k ∧ k < 4) ∨ (a = 21 ∧ k < 8)) a k) ∨ (a = 22 ∧ k = 0)) (fun a k => a = 21 ∧ k = 9) := (H0.nw (sl := 4) (kd := 7) (len := 4) rfl).mono (fun a k ha q => by
    rcases q with q | ⟨q, e⟩
    · omega
    · obtain ⟨b, e⟩ := kR_w e
      rw [kRP_iff] at e
      omega) (fun a k ha q => by
    rcases q with q | ⟨q, e⟩
    · omega
    · by_cases e9 : a = 21 ∧ k = 9
      · omega
      · subst q
        exact absurd (kV_0 (by omega) (by omega) (by omega) (by omega) (by omega)) e)
  simp only [s8_0, s8_1, s8_4, s8_5, s8_8, s8_9, or_true, true_or, true_and, and_true, mm_o_some, mm_o_none, mm_bk_v, mm_bk_n, Nat.reduceAdd, H0.1]
  refine c9z (S := (fun a k => (a = 1 ∧ 2 ≤ k ∧ k < 4) ∨ (a = 21 ∧ k < 8))) (r := 22) (by omega) A1 (fun a k ha q => by omega) (fun a k ha q => by omega) _ (fun g1 B1 => ?_)
  have B1' : zBI w0 w1 w2 h0 g1 32 (z + 140) (fun a k => (a = 1 ∧ 2 ≤ k ∧ k < 4) ∨ (a = 21 ∧ k < 8)) (fun a k => a = 21 ∧ k = 9) := B1
  have t1 : mm_s g1 21 = (8, 11) := B1'.s (by omega) (by omega)
  have H1 : zBI w0 w1 w2 h0 (mm_pr g1 21 2 (some 22)) 32 (z + 140) (fun a k => (a = 1 ∧ 2 ≤ k ∧ k < 4) ∨ (a = 21 ∧ k < 8 ∧ ¬ k = 2)) (fun a k => a = 21 ∧ k = 9) := (B1'.pr (a := 21) (k := 2) (b := 22) (by omega) rfl).mono (fun a k ha q => by omega) (fun a k ha q => q)
  simp only [s8_12, or_true, true_or, true_and, and_true, mm_o_some, mm_o_none, mm_bk_v, mm_bk_n, Nat.reduceAdd, t1]
  generalize mm_pr g1 21 2 (some 22) = f1 at *
  have A2 : zBI w0 w1 w2 h0 (mm_nw f1 7 4 4) (32 + 1) (z + 144) (fun a k => ((fun a k => (a = 1 ∧ 2 ≤ k ∧ k < 4) ∨ (a = 21 ∧ k < 8 ∧ ¬ k = 2)) a k) ∨ (a = 32 ∧ k = 0)) (fun a k => a = 21 ∧ k = 9) := (H1.nw (sl := 4) (kd := 7) (len := 4) rfl).mono (fun a k ha q => by
    rcases q with q | ⟨q, e⟩
    · omega
    · obtain ⟨b, e⟩ := kR_w e
      rw [kRP_iff] at e
      omega) (fun a k ha q => by
    rcases q with q | ⟨q, e⟩
    · omega
    · by_cases e9 : a = 21 ∧ k = 9
      · omega
      · subst q
        exact absurd (kV_0 (by omega) (by omega) (by omega) (by omega) (by omega)) e)
  simp only [s8_15, s8_16, s8_19, s8_20, or_true, true_or, true_and, and_true, mm_o_some, mm_o_none, mm_bk_v, mm_bk_n, Nat.reduceAdd, H1.1]
  refine c9z (S := (fun a k => (a = 1 ∧ 2 ≤ k ∧ k < 4) ∨ (a = 21 ∧ k < 8 ∧ ¬ k = 2))) (r := 32) (by omega) A2 (fun a k ha q => by omega) (fun a k ha q => by omega) _ (fun g2 B2 => ?_)
  have B2' : zBI w0 w1 w2 h0 g2 42 (z + 280) (fun a k => (a = 1 ∧ 2 ≤ k ∧ k < 4) ∨ (a = 21 ∧ k < 8 ∧ ¬ k = 2)) (fun a k => a = 21 ∧ k = 9) := B2
  have t2 : mm_s g2 21 = (8, 11) := B2'.s (by omega) (by omega)
  have H2 : zBI w0 w1 w2 h0 (mm_pr g2 21 3 (some 32)) 42 (z + 280) (fun a k => (a = 1 ∧ 2 ≤ k ∧ k < 4) ∨ (a = 21 ∧ k < 8 ∧ ¬ k = 2 ∧ ¬ k = 3)) (fun a k => a = 21 ∧ k = 9) := (B2'.pr (a := 21) (k := 3) (b := 32) (by omega) rfl).mono (fun a k ha q => by omega) (fun a k ha q => q)
  simp only [s8_23, or_true, true_or, true_and, and_true, mm_o_some, mm_o_none, mm_bk_v, mm_bk_n, Nat.reduceAdd, t2]
  generalize mm_pr g2 21 3 (some 32) = f2 at *
  have A3 : zBI w0 w1 w2 h0 (mm_nw f2 3 2 2) (42 + 1) (z + 282) (fun a k => ((fun a k => (a = 1 ∧ 2 ≤ k ∧ k < 4) ∨ (a = 21 ∧ k < 8 ∧ ¬ k = 2 ∧ ¬ k = 3)) a k) ∨ (a = 42 ∧ k < 2)) (fun a k => a = 21 ∧ k = 9) := (H2.nw (sl := 2) (kd := 3) (len := 2) rfl).mono (fun a k ha q => by
    rcases q with q | ⟨q, e⟩
    · omega
    · obtain ⟨b, e⟩ := kR_w e
      rw [kRP_iff] at e
      omega) (fun a k ha q => by
    rcases q with q | ⟨q, e⟩
    · omega
    · by_cases e9 : a = 21 ∧ k = 9
      · omega
      · subst q
        exact absurd (kV_0 (by omega) (by omega) (by omega) (by omega) (by omega)) e)
  simp only [s8_26, s8_27, s8_30, s8_31, or_true, true_or, true_and, and_true, mm_o_some, mm_o_none, mm_bk_v, mm_bk_n, Nat.reduceAdd, H2.1]
  refine c11z (S := (fun a k => (a = 1 ∧ 2 ≤ k ∧ k < 4) ∨ (a = 21 ∧ k < 8 ∧ ¬ k = 2 ∧ ¬ k = 3))) (e := 42) (by omega) A3 (fun a k ha q => by omega) (fun a k ha q => by omega) (fun g3 B3 => ?_)
  have B3' : zBI w0 w1 w2 h0 g3 53 (z + 362) (fun a k => (a = 1 ∧ 2 ≤ k ∧ k < 4) ∨ (a = 21 ∧ k < 8 ∧ ¬ k = 2 ∧ ¬ k = 3)) (fun a k => a = 21 ∧ k = 9) := B3
  have t3 : mm_s g3 21 = (8, 11) := B3'.s (by omega) (by omega)
  have H3 : zBI w0 w1 w2 h0 (mm_pr g3 21 4 (some 42)) 53 (z + 362) (fun a k => (a = 1 ∧ 2 ≤ k ∧ k < 4) ∨ (a = 21 ∧ k < 8 ∧ ¬ k = 2 ∧ ¬ k = 3 ∧ ¬ k = 4)) (fun a k => a = 21 ∧ k = 9) := (B3'.pr (a := 21) (k := 4) (b := 42) (by omega) rfl).mono (fun a k ha q => by omega) (fun a k ha q => q)
  simp only [s8_34, or_true, true_or, true_and, and_true, mm_o_some, mm_o_none, mm_bk_v, mm_bk_n, Nat.reduceAdd, t3]
  generalize mm_pr g3 21 4 (some 42) = f3 at *
  have A4 : zBI w0 w1 w2 h0 (mm_nw f3 3 2 2) (53 + 1) (z + 364) (fun a k => ((fun a k => (a = 1 ∧ 2 ≤ k ∧ k < 4) ∨ (a = 21 ∧ k < 8 ∧ ¬ k = 2 ∧ ¬ k = 3 ∧ ¬ k = 4)) a k) ∨ (a = 53 ∧ k < 2)) (fun a k => a = 21 ∧ k = 9) := (H3.nw (sl := 2) (kd := 3) (len := 2) rfl).mono (fun a k ha q => by
    rcases q with q | ⟨q, e⟩
    · omega
    · obtain ⟨b, e⟩ := kR_w e
      rw [kRP_iff] at e
      omega) (fun a k ha q => by
    rcases q with q | ⟨q, e⟩
    · omega
    · by_cases e9 : a = 21 ∧ k = 9
      · omega
      · subst q
        exact absurd (kV_0 (by omega) (by omega) (by omega) (by omega) (by omega)) e)
  simp only [s8_37, s8_38, s8_41, s8_42, or_true, true_or, true_and, and_true, mm_o_some, mm_o_none, mm_bk_v, mm_bk_n, Nat.reduceAdd, H3.1]
  refine c11z (S := (fun a k => (a = 1 ∧ 2 ≤ k ∧ k < 4) ∨ (a = 21 ∧ k < 8 ∧ ¬ k = 2 ∧ ¬ k = 3 ∧ ¬ k = 4))) (e := 53) (by omega) A4 (fun a k ha q => by omega) (fun a k ha q => by omega) (fun g4 B4 => ?_)
  have B4' : zBI w0 w1 w2 h0 g4 64 (z + 444) (fun a k => (a = 1 ∧ 2 ≤ k ∧ k < 4) ∨ (a = 21 ∧ k < 8 ∧ ¬ k = 2 ∧ ¬ k = 3 ∧ ¬ k = 4)) (fun a k => a = 21 ∧ k = 9) := B4
  have t4 : mm_s g4 21 = (8, 11) := B4'.s (by omega) (by omega)
  have H4 : zBI w0 w1 w2 h0 (mm_pr g4 21 5 (some 53)) 64 (z + 444) (fun a k => (a = 1 ∧ 2 ≤ k ∧ k < 4) ∨ (a = 21 ∧ k < 8 ∧ ¬ k = 2 ∧ ¬ k = 3 ∧ ¬ k = 4 ∧ ¬ k = 5)) (fun a k => a = 21 ∧ k = 9) := (B4'.pr (a := 21) (k := 5) (b := 53) (by omega) rfl).mono (fun a k ha q => by omega) (fun a k ha q => q)
  simp only [s8_45, or_true, true_or, true_and, and_true, mm_o_some, mm_o_none, mm_bk_v, mm_bk_n, Nat.reduceAdd, t4]
  generalize mm_pr g4 21 5 (some 53) = f4 at *
  have A5 : zBI w0 w1 w2 h0 (mm_nw f4 3 2 2) (64 + 1) (z + 446) (fun a k => ((fun a k => (a = 1 ∧ 2 ≤ k ∧ k < 4) ∨ (a = 21 ∧ k < 8 ∧ ¬ k = 2 ∧ ¬ k = 3 ∧ ¬ k = 4 ∧ ¬ k = 5)) a k) ∨ (a = 64 ∧ k < 2)) (fun a k => a = 21 ∧ k = 9) := (H4.nw (sl := 2) (kd := 3) (len := 2) rfl).mono (fun a k ha q => by
    rcases q with q | ⟨q, e⟩
    · omega
    · obtain ⟨b, e⟩ := kR_w e
      rw [kRP_iff] at e
      omega) (fun a k ha q => by
    rcases q with q | ⟨q, e⟩
    · omega
    · by_cases e9 : a = 21 ∧ k = 9
      · omega
      · subst q
        exact absurd (kV_0 (by omega) (by omega) (by omega) (by omega) (by omega)) e)
  simp only [s8_48, s8_49, s8_52, s8_53, or_true, true_or, true_and, and_true, mm_o_some, mm_o_none, mm_bk_v, mm_bk_n, Nat.reduceAdd, H4.1]
  refine c11z (S := (fun a k => (a = 1 ∧ 2 ≤ k ∧ k < 4) ∨ (a = 21 ∧ k < 8 ∧ ¬ k = 2 ∧ ¬ k = 3 ∧ ¬ k = 4 ∧ ¬ k = 5))) (e := 64) (by omega) A5 (fun a k ha q => by omega) (fun a k ha q => by omega) (fun g5 B5 => ?_)
  have B5' : zBI w0 w1 w2 h0 g5 75 (z + 526) (fun a k => (a = 1 ∧ 2 ≤ k ∧ k < 4) ∨ (a = 21 ∧ k < 8 ∧ ¬ k = 2 ∧ ¬ k = 3 ∧ ¬ k = 4 ∧ ¬ k = 5)) (fun a k => a = 21 ∧ k = 9) := B5
  have t5 : mm_s g5 21 = (8, 11) := B5'.s (by omega) (by omega)
  have H5 : zBI w0 w1 w2 h0 (mm_pr g5 21 6 (some 64)) 75 (z + 526) (fun a k => (a = 1 ∧ 2 ≤ k ∧ k < 4) ∨ (a = 21 ∧ k < 8 ∧ ¬ k = 2 ∧ ¬ k = 3 ∧ ¬ k = 4 ∧ ¬ k = 5 ∧ ¬ k = 6)) (fun a k => a = 21 ∧ k = 9) := (B5'.pr (a := 21) (k := 6) (b := 64) (by omega) rfl).mono (fun a k ha q => by omega) (fun a k ha q => q)
  simp only [s8_56, or_true, true_or, true_and, and_true, mm_o_some, mm_o_none, mm_bk_v, mm_bk_n, Nat.reduceAdd, t5]
  generalize mm_pr g5 21 6 (some 64) = f5 at *
  have A6 : zBI w0 w1 w2 h0 (mm_nw f5 25 64 64) 76 (z + 590) (fun a k => ((fun a k => (a = 1 ∧ 2 ≤ k ∧ k < 4) ∨ (a = 21 ∧ k < 8 ∧ ¬ k = 2 ∧ ¬ k = 3 ∧ ¬ k = 4 ∧ ¬ k = 5 ∧ ¬ k = 6)) a k) ∨ (a = 75 ∧ 0 ≤ k ∧ k < 64)) (fun a k => a = 21 ∧ k = 9) := (H5.nw (sl := 64) (kd := 25) (len := 64) rfl).mono (fun a k ha q => by
    rcases q with q | ⟨q, e⟩
    · omega
    · obtain ⟨b, e⟩ := kR_w e
      rw [kRP_iff] at e
      omega) (fun a k ha q => by
    rcases q with q | ⟨q, e⟩
    · omega
    · by_cases e9 : a = 21 ∧ k = 9
      · omega
      · subst q
        exact absurd (kV_0 (by omega) (by omega) (by omega) (by omega) (by omega)) e)
  have t6 : mm_s (mm_nw f5 25 64 64) 21 = (8, 11) := A6.s (by omega) (by omega)
  have l1 : (0 : Int32) ≤ 64 ∧ (64 : Int32) ≤ 1000 := by decide
  simp only [s8_59, s8_60, s8_62, s8_65, s8_68, s8_69, s8_70, s8_73, s8_74, s8_74o, s8_74n, s8_75, s8_78, s8_79, s8_79o, s8_79n, s8_80, s8_83, s8_84, or_true, true_or, true_and, and_true, mm_o_some, mm_o_none, mm_bk_v, mm_bk_n, Nat.reduceAdd, H5.1, l1, show (64 : Int32).toNatClampNeg = 64 from rfl, t6, mm_s_pr, mm_s_pi]
  have v9 : kV w0 w1 w2 21 9 = -1 := by rw [kV, if_neg (by omega), if_pos ⟨rfl, rfl⟩]
  have H6 := ((((A6.pr (a := 21) (k := 7) (b := 75) (by omega) rfl).pi (a := 21) (k := 9) (by omega) v9).pr (a := 21) (k := 0) (b := 2) (by omega) rfl).pr (a := 21) (k := 1) (b := 3) (by omega) rfl)
  have H7 : zBI w0 w1 w2 h0 (mm_pr (mm_pr (mm_pi (mm_pr (mm_nw f5 25 64 64) 21 7 (some 75)) 21 9 (-1)) 21 0 (some 2)) 21 1 (some 3)) (76 + 0) (z + 590) (fun a k => (a = 1 ∧ 2 ≤ k ∧ k < 4) ∨ (a = 75 ∧ 0 ≤ k ∧ k < 64)) (fun _ _ => False) := H6.mono (fun a k ha q => by omega) (fun a k ha q => by omega)
  generalize mm_pr (mm_pr (mm_pi (mm_pr (mm_nw f5 25 64 64) 21 7 (some 75)) 21 9 (-1)) 21 0 (some 2)) 21 1 (some 3) = f6 at *
  rw [← nI_lit0]
  exact c8_loop (S := fun a k => a = 1 ∧ 2 ≤ k ∧ k < 4) 64 0 f6 (z + 590) (by omega) H7 (fun a k ha q => by omega) (fun h' H' => K h' H') _ _
theorem kR_ge {f : Nat} (hu : ∀ k, k < 64 → kR 142 k = some N → k = f) : ∀ k, kR 142 k = some N → k = f := by
  intro k e
  by_cases hk : k < 64
  · exact hu k hk e
  · rw [kR_64 (by omega)] at e; exact absurd e (by simp)
/-- one array more of the reference -/
theorem zBI.md {kd len f : Nat} (H : zBI w0 w1 w2 h0 h N z (fun a k => a = 142 ∧ ∃ b, kR 142 k = some b ∧ N ≤ b) T) (hN : 144 ≤ N ∧ N < 167) (hk : kS N = (kd, len)) (hf : kR 142 f = some N) (hu : ∀ k, k < 64 → kR 142 k = some N → k = f) : zBI w0 w1 w2 h0 (mm_pr (mm_nw h kd len len) 142 f (some N)) (N + 1) (z + len) (fun a k => a = 142 ∧ ∃ b, kR 142 k = some b ∧ N + 1 ≤ b) T := by
  have A := H.nw0 (sl := len) hk (fun k => kR_no (fun b => by simp only [kRP, kRP1, kRP2, kRP3, kRP4, Bool.or_eq_false_iff, decide_eq_false_iff_not]; omega)) (fun k => kV_0 (by omega) (by omega) (by omega) (by omega) (by omega))
  refine (A.pr (a := 142) (k := f) (b := N) (by omega) hf).mono (fun a k ha q => ?_) (fun _ _ _ q => q)
  obtain ⟨⟨p, b, e, hb⟩, q2⟩ := q
  refine ⟨p, b, e, ?_⟩
  by_cases eb : b = N
  · subst eb
    exact absurd ⟨p, kR_ge hu k e⟩ q2
  · omega
theorem c108z {x x2 x3 : Int32} (H : zBI w0 w1 w2 h0 h 143 z (fun a k => a = 142 ∧ ∃ b, kR 142 k = some b ∧ 143 ≤ b) (fun _ _ => False)) (e0 : w0 = zI (max 1 (min 200 x.toInt))) (e1 : w1 = zI (max 1 (min 200 x2.toInt))) (e2 : w2 = zI (max 1 (min 200 x3.toInt))) (K : ∀ h', zBI w0 w1 w2 h0 h' 167 (z + 517) (fun _ _ => False) (fun _ _ => False) → Q (.inl none) h') : mm_wp (d + 1) 108 0 [.ref 142, .int x, .int x2, .int x3] [] h Q := by
  have A1 := H.nw (sl := 3) (kd := 20) (len := 3) rfl
  have t1 : mm_s (mm_nw h 20 3 3) 142 = (10, 34) := A1.s (by omega) (by omega)
  have H1 : zBI w0 w1 w2 h0 (mm_pr (mm_nw h 20 3 3) 142 1 (some 143)) 144 (z + 3) (fun a k => a = 142 ∧ ∃ b, kR 142 k = some b ∧ 144 ≤ b) (fun a k => a = 143 ∧ k < 3) := by
    refine (A1.pr (a := 142) (k := 1) (b := 143) (by omega) rfl).mono (fun a k ha q => ?_) (fun a k ha q => ?_)
    · obtain ⟨q1, q2⟩ := q
      rcases q1 with ⟨p, b, e, hb⟩ | ⟨p, e⟩
      · refine ⟨p, b, e, ?_⟩
        by_cases eb : b = 143
        · subst eb
          exact absurd ⟨p, kR_ge (f := 1) (by decide) k e⟩ q2
        · omega
      · exact absurd (show kR 143 k = none from kR_no (fun b => by simp only [kRP, kRP1, kRP2, kRP3, kRP4, Bool.or_eq_false_iff, decide_eq_false_iff_not]; omega)) e
    · rcases q with q | ⟨p, e⟩
      · exact q.elim
      · refine ⟨p, ?_⟩
        by_cases hk : k < 3
        · exact hk
        · exfalso
          apply e
          rw [kV, if_pos (Or.inr rfl), if_neg (by omega), if_neg (by omega), if_neg (by omega)]
  simp only [s108_0, s108_1, s108_4, s108_5, s108_6, s108_8, or_true, true_or, true_and, and_true, mm_o_some, mm_o_none, mm_bk_v, mm_bk_n, Nat.reduceAdd, H.1, lit_3, cln_3, t1]
  generalize mm_pr (mm_nw h 20 3 3) 142 1 (some 143) = f1 at *
  have t2 : mm_s (mm_nw f1 20 24 24) 142 = (10, 34) := by rw [mm_s_nw, if_neg (by rw [H1.1]; omega)]; exact H1.s (by omega) (by omega)
  have H2 := H1.md (kd := 20) (len := 24) (f := 3) (by omega) rfl rfl (by decide)
  simp only [s108_11, s108_12, s108_14, s108_16, or_true, true_or, true_and, and_true, mm_o_some, mm_o_none, mm_bk_v, mm_bk_n, Nat.reduceAdd, H1.1, lit_24, cln_24, t2]
  generalize mm_pr (mm_nw f1 20 24 24) 142 3 (some 144) = f2 at *
  have t3 : mm_s (mm_nw f2 20 8 8) 142 = (10, 34) := by rw [mm_s_nw, if_neg (by rw [H2.1]; omega)]; exact H2.s (by omega) (by omega)
  have H3 := H2.md (kd := 20) (len := 8) (f := 4) (by omega) rfl rfl (by decide)
  simp only [s108_19, s108_20, s108_22, s108_24, or_true, true_or, true_and, and_true, mm_o_some, mm_o_none, mm_bk_v, mm_bk_n, Nat.reduceAdd, H2.1, lit_8, cln_8, t3]
  generalize mm_pr (mm_nw f2 20 8 8) 142 4 (some 145) = f3 at *
  have t4 : mm_s (mm_nw f3 20 8 8) 142 = (10, 34) := by rw [mm_s_nw, if_neg (by rw [H3.1]; omega)]; exact H3.s (by omega) (by omega)
  have H4 := H3.md (kd := 20) (len := 8) (f := 5) (by omega) rfl rfl (by decide)
  simp only [s108_27, s108_28, s108_30, s108_32, or_true, true_or, true_and, and_true, mm_o_some, mm_o_none, mm_bk_v, mm_bk_n, Nat.reduceAdd, H3.1, lit_8, cln_8, t4]
  generalize mm_pr (mm_nw f3 20 8 8) 142 5 (some 146) = f4 at *
  have t5 : mm_s (mm_nw f4 20 8 8) 142 = (10, 34) := by rw [mm_s_nw, if_neg (by rw [H4.1]; omega)]; exact H4.s (by omega) (by omega)
  have H5 := H4.md (kd := 20) (len := 8) (f := 6) (by omega) rfl rfl (by decide)
  simp only [s108_35, s108_36, s108_38, s108_40, or_true, true_or, true_and, and_true, mm_o_some, mm_o_none, mm_bk_v, mm_bk_n, Nat.reduceAdd, H4.1, lit_8, cln_8, t5]
  generalize mm_pr (mm_nw f4 20 8 8) 142 6 (some 147) = f5 at *
  have t6 : mm_s (mm_nw f5 20 8 8) 142 = (10, 34) := by rw [mm_s_nw, if_neg (by rw [H5.1]; omega)]; exact H5.s (by omega) (by omega)
  have H6 := H5.md (kd := 20) (len := 8) (f := 7) (by omega) rfl rfl (by decide)
  simp only [s108_43, s108_44, s108_46, s108_48, or_true, true_or, true_and, and_true, mm_o_some, mm_o_none, mm_bk_v, mm_bk_n, Nat.reduceAdd, H5.1, lit_8, cln_8, t6]
  generalize mm_pr (mm_nw f5 20 8 8) 142 7 (some 148) = f6 at *
  have t7 : mm_s (mm_nw f6 20 8 8) 142 = (10, 34) := by rw [mm_s_nw, if_neg (by rw [H6.1]; omega)]; exact H6.s (by omega) (by omega)
  have H7 := H6.md (kd := 20) (len := 8) (f := 9) (by omega) rfl rfl (by decide)
  simp only [s108_51, s108_52, s108_54, s108_56, or_true, true_or, true_and, and_true, mm_o_some, mm_o_none, mm_bk_v, mm_bk_n, Nat.reduceAdd, H6.1, lit_8, cln_8, t7]
  generalize mm_pr (mm_nw f6 20 8 8) 142 9 (some 149) = f7 at *
  have t8 : mm_s (mm_nw f7 20 8 8) 142 = (10, 34) := by rw [mm_s_nw, if_neg (by rw [H7.1]; omega)]; exact H7.s (by omega) (by omega)
  have H8 := H7.md (kd := 20) (len := 8) (f := 10) (by omega) rfl rfl (by decide)
  simp only [s108_59, s108_60, s108_62, s108_64, or_true, true_or, true_and, and_true, mm_o_some, mm_o_none, mm_bk_v, mm_bk_n, Nat.reduceAdd, H7.1, lit_8, cln_8, t8]
  generalize mm_pr (mm_nw f7 20 8 8) 142 10 (some 150) = f8 at *
  have t9 : mm_s (mm_nw f8 20 24 24) 142 = (10, 34) := by rw [mm_s_nw, if_neg (by rw [H8.1]; omega)]; exact H8.s (by omega) (by omega)
  have H9 := H8.md (kd := 20) (len := 24) (f := 11) (by omega) rfl rfl (by decide)
  simp only [s108_67, s108_68, s108_70, s108_72, or_true, true_or, true_and, and_true, mm_o_some, mm_o_none, mm_bk_v, mm_bk_n, Nat.reduceAdd, H8.1, lit_24, cln_24, t9]
  generalize mm_pr (mm_nw f8 20 24 24) 142 11 (some 151) = f9 at *
  have t10 : mm_s (mm_nw f9 20 24 24) 142 = (10, 34) := by rw [mm_s_nw, if_neg (by rw [H9.1]; omega)]; exact H9.s (by omega) (by omega)
  have H10 := H9.md (kd := 20) (len := 24) (f := 12) (by omega) rfl rfl (by decide)
  simp only [s108_75, s108_76, s108_78, s108_80, or_true, true_or, true_and, and_true, mm_o_some, mm_o_none, mm_bk_v, mm_bk_n, Nat.reduceAdd, H9.1, lit_24, cln_24, t10]
  generalize mm_pr (mm_nw f9 20 24 24) 142 12 (some 152) = f10 at *
  have t11 : mm_s (mm_nw f10 20 8 8) 142 = (10, 34) := by rw [mm_s_nw, if_neg (by rw [H10.1]; omega)]; exact H10.s (by omega) (by omega)
  have H11 := H10.md (kd := 20) (len := 8) (f := 13) (by omega) rfl rfl (by decide)
  simp only [s108_83, s108_84, s108_86, s108_88, or_true, true_or, true_and, and_true, mm_o_some, mm_o_none, mm_bk_v, mm_bk_n, Nat.reduceAdd, H10.1, lit_8, cln_8, t11]
  generalize mm_pr (mm_nw f10 20 8 8) 142 13 (some 153) = f11 at *
  have t12 : mm_s (mm_nw f11 22 8 8) 142 = (10, 34) := by rw [mm_s_nw, if_neg (by rw [H11.1]; omega)]; exact H11.s (by omega) (by omega)
  have H12 := H11.md (kd := 22) (len := 8) (f := 14) (by omega) rfl rfl (by decide)
  simp only [s108_91, s108_92, s108_94, s108_96, or_true, true_or, true_and, and_true, mm_o_some, mm_o_none, mm_bk_v, mm_bk_n, Nat.reduceAdd, H11.1, lit_8, cln_8, t12]
  generalize mm_pr (mm_nw f11 22 8 8) 142 14 (some 154) = f12 at *
  have t13 : mm_s (mm_nw f12 20 9 9) 142 = (10, 34) := by rw [mm_s_nw, if_neg (by rw [H12.1]; omega)]; exact H12.s (by omega) (by omega)
  have H13 := H12.md (kd := 20) (len := 9) (f := 15) (by omega) rfl rfl (by decide)
  simp only [s108_99, s108_100, s108_102, s108_104, or_true, true_or, true_and, and_true, mm_o_some, mm_o_none, mm_bk_v, mm_bk_n, Nat.reduceAdd, H12.1, lit_9, cln_9, t13]
  generalize mm_pr (mm_nw f12 20 9 9) 142 15 (some 155) = f13 at *
  have t14 : mm_s (mm_nw f13 20 9 9) 142 = (10, 34) := by rw [mm_s_nw, if_neg (by rw [H13.1]; omega)]; exact H13.s (by omega) (by omega)
  have H14 := H13.md (kd := 20) (len := 9) (f := 16) (by omega) rfl rfl (by decide)
  simp only [s108_107, s108_108, s108_110, s108_112, or_true, true_or, true_and, and_true, mm_o_some, mm_o_none, mm_bk_v, mm_bk_n, Nat.reduceAdd, H13.1, lit_9, cln_9, t14]
  generalize mm_pr (mm_nw f13 20 9 9) 142 16 (some 156) = f14 at *
  have t15 : mm_s (mm_nw f14 20 9 9) 142 = (10, 34) := by rw [mm_s_nw, if_neg (by rw [H14.1]; omega)]; exact H14.s (by omega) (by omega)
  have H15 := H14.md (kd := 20) (len := 9) (f := 17) (by omega) rfl rfl (by decide)
  simp only [s108_115, s108_116, s108_118, s108_120, or_true, true_or, true_and, and_true, mm_o_some, mm_o_none, mm_bk_v, mm_bk_n, Nat.reduceAdd, H14.1, lit_9, cln_9, t15]
  generalize mm_pr (mm_nw f14 20 9 9) 142 17 (some 157) = f15 at *
  have t16 : mm_s (mm_nw f15 20 243 243) 142 = (10, 34) := by rw [mm_s_nw, if_neg (by rw [H15.1]; omega)]; exact H15.s (by omega) (by omega)
  have H16 := H15.md (kd := 20) (len := 243) (f := 18) (by omega) rfl rfl (by decide)
  simp only [s108_123, s108_124, s108_127, s108_129, or_true, true_or, true_and, and_true, mm_o_some, mm_o_none, mm_bk_v, mm_bk_n, Nat.reduceAdd, H15.1, lit_243, cln_243, t16]
  generalize mm_pr (mm_nw f15 20 243 243) 142 18 (some 158) = f16 at *
  have t17 : mm_s (mm_nw f16 20 27 27) 142 = (10, 34) := by rw [mm_s_nw, if_neg (by rw [H16.1]; omega)]; exact H16.s (by omega) (by omega)
  have H17 := H16.md (kd := 20) (len := 27) (f := 19) (by omega) rfl rfl (by decide)
  simp only [s108_132, s108_133, s108_135, s108_137, or_true, true_or, true_and, and_true, mm_o_some, mm_o_none, mm_bk_v, mm_bk_n, Nat.reduceAdd, H16.1, lit_27, cln_27, t17]
  generalize mm_pr (mm_nw f16 20 27 27) 142 19 (some 159) = f17 at *
  have t18 : mm_s (mm_nw f17 20 8 8) 142 = (10, 34) := by rw [mm_s_nw, if_neg (by rw [H17.1]; omega)]; exact H17.s (by omega) (by omega)
  have H18 := H17.md (kd := 20) (len := 8) (f := 26) (by omega) rfl rfl (by decide)
  simp only [s108_140, s108_141, s108_143, s108_145, or_true, true_or, true_and, and_true, mm_o_some, mm_o_none, mm_bk_v, mm_bk_n, Nat.reduceAdd, H17.1, lit_8, cln_8, t18]
  generalize mm_pr (mm_nw f17 20 8 8) 142 26 (some 160) = f18 at *
  have t19 : mm_s (mm_nw f18 20 8 8) 142 = (10, 34) := by rw [mm_s_nw, if_neg (by rw [H18.1]; omega)]; exact H18.s (by omega) (by omega)
  have H19 := H18.md (kd := 20) (len := 8) (f := 27) (by omega) rfl rfl (by decide)
  simp only [s108_148, s108_149, s108_151, s108_153, or_true, true_or, true_and, and_true, mm_o_some, mm_o_none, mm_bk_v, mm_bk_n, Nat.reduceAdd, H18.1, lit_8, cln_8, t19]
  generalize mm_pr (mm_nw f18 20 8 8) 142 27 (some 161) = f19 at *
  have t20 : mm_s (mm_nw f19 20 24 24) 142 = (10, 34) := by rw [mm_s_nw, if_neg (by rw [H19.1]; omega)]; exact H19.s (by omega) (by omega)
  have H20 := H19.md (kd := 20) (len := 24) (f := 28) (by omega) rfl rfl (by decide)
  simp only [s108_156, s108_157, s108_159, s108_161, or_true, true_or, true_and, and_true, mm_o_some, mm_o_none, mm_bk_v, mm_bk_n, Nat.reduceAdd, H19.1, lit_24, cln_24, t20]
  generalize mm_pr (mm_nw f19 20 24 24) 142 28 (some 162) = f20 at *
  have t21 : mm_s (mm_nw f20 20 24 24) 142 = (10, 34) := by rw [mm_s_nw, if_neg (by rw [H20.1]; omega)]; exact H20.s (by omega) (by omega)
  have H21 := H20.md (kd := 20) (len := 24) (f := 29) (by omega) rfl rfl (by decide)
  simp only [s108_164, s108_165, s108_167, s108_169, or_true, true_or, true_and, and_true, mm_o_some, mm_o_none, mm_bk_v, mm_bk_n, Nat.reduceAdd, H20.1, lit_24, cln_24, t21]
  generalize mm_pr (mm_nw f20 20 24 24) 142 29 (some 163) = f21 at *
  have t22 : mm_s (mm_nw f21 20 8 8) 142 = (10, 34) := by rw [mm_s_nw, if_neg (by rw [H21.1]; omega)]; exact H21.s (by omega) (by omega)
  have H22 := H21.md (kd := 20) (len := 8) (f := 30) (by omega) rfl rfl (by decide)
  simp only [s108_172, s108_173, s108_175, s108_177, or_true, true_or, true_and, and_true, mm_o_some, mm_o_none, mm_bk_v, mm_bk_n, Nat.reduceAdd, H21.1, lit_8, cln_8, t22]
  generalize mm_pr (mm_nw f21 20 8 8) 142 30 (some 164) = f22 at *
  have t23 : mm_s (mm_nw f22 20 6 6) 142 = (10, 34) := by rw [mm_s_nw, if_neg (by rw [H22.1]; omega)]; exact H22.s (by omega) (by omega)
  have H23 := H22.md (kd := 20) (len := 6) (f := 32) (by omega) rfl rfl (by decide)
  simp only [s108_180, s108_181, s108_183, s108_185, or_true, true_or, true_and, and_true, mm_o_some, mm_o_none, mm_bk_v, mm_bk_n, Nat.reduceAdd, H22.1, lit_6, cln_6, t23]
  generalize mm_pr (mm_nw f22 20 6 6) 142 32 (some 165) = f23 at *
  have t24 : mm_s (mm_nw f23 20 3 3) 142 = (10, 34) := by rw [mm_s_nw, if_neg (by rw [H23.1]; omega)]; exact H23.s (by omega) (by omega)
  have H24 := H23.md (kd := 20) (len := 3) (f := 33) (by omega) rfl rfl (by decide)
  simp only [s108_188, s108_189, s108_190, s108_192, or_true, true_or, true_and, and_true, mm_o_some, mm_o_none, mm_bk_v, mm_bk_n, Nat.reduceAdd, H23.1, lit_3, cln_3, t24]
  generalize mm_pr (mm_nw f23 20 3 3) 142 33 (some 166) = f24 at *
  have r1 : mm_r f24 142 1 = some 143 := H24.re (by omega) (by omega) rfl (fun q => by obtain ⟨_, b, e, hb⟩ := q; rw [show kR 142 1 = some 143 from rfl] at e; simp at e; omega)
  have s143 : mm_s f24 143 = (20, 3) := H24.s (by omega) (by omega)
  have s142 : mm_s f24 142 = (10, 34) := H24.s (by omega) (by omega)
  have v0 : kV w0 w1 w2 143 0 = w0 := by rw [kV, if_pos (Or.inr rfl), if_pos rfl]
  have v1 : kV w0 w1 w2 143 1 = w1 := by rw [kV, if_pos (Or.inr rfl), if_neg (by omega), if_pos rfl]
  have v2 : kV w0 w1 w2 143 2 = w2 := by rw [kV, if_pos (Or.inr rfl), if_neg (by omega), if_neg (by omega), if_pos rfl]
  simp only [s108_195, s108_196, s108_199, s108_200, s108_201, s108_204, s108_205, s108_206, s108_209, s108_210, s108_211, s108_214, s108_215, s108_216, s108_219, s108_220, s108_221, s108_224, s108_225, or_true, true_or, true_and, and_true, mm_o_some, mm_o_none, mm_bk_v, mm_bk_n, Nat.reduceAdd, s142, r1, c109z, s143, in3_0, in3_1, in3_2, cl_0, cl_1, cl_2, mm_s_pi, mm_r_pi, Nat.reduceEqDiff, not_false_eq_true]
  rw [← e0, ← e1, ← e2]
  exact K _ ((((H24.pi (a := 143) (k := 0) (by omega) v0).pi (a := 143) (k := 1) (by omega) v1).pi (a := 143) (k := 2) (by omega) v2).mono (fun a k ha q => by
    obtain ⟨p, b, e, hb⟩ := q
    have := kR_p e
    rw [kRP_iff] at this
    omega) (fun a k ha q => by omega))
theorem c1z {x x2 x3 : Int32} (H : zBI w0 w1 w2 h0 h 2 z (fun a k => a = 1 ∧ k < 4) (fun _ _ => False)) (e0 : w0 = zI (max 1 (min 200 x.toInt))) (e1 : w1 = zI (max 1 (min 200 x2.toInt))) (e2 : w2 = zI (max 1 (min 200 x3.toInt))) (K : ∀ h', zBI w0 w1 w2 h0 h' 142 (z + 1134) (fun _ _ => False) (fun _ _ => False) → Q (.inl none) h') : mm_wp (d + 3) 1 0 [.ref 1, .int x, .int x2, .int x3] [] h Q := by
  have A1 := H.nw (sl := 3) (kd := 1) (len := 3) rfl
  have sb : (mm_s (mm_nw h 1 3 3) 2).1 = 1 := by rw [A1.s (by omega) (by omega)]; rfl
  have v0 : kV w0 w1 w2 2 0 = w0 := by rw [kV, if_pos (Or.inl rfl), if_pos rfl]
  have v1 : kV w0 w1 w2 2 1 = w1 := by rw [kV, if_pos (Or.inl rfl), if_neg (by omega), if_pos rfl]
  have v2 : kV w0 w1 w2 2 2 = w2 := by rw [kV, if_pos (Or.inl rfl), if_neg (by omega), if_neg (by omega), if_pos rfl]
  have B1 := ((A1.pi (a := 2) (k := 0) (by omega) v0).pi (a := 2) (k := 1) (by omega) v1).pi (a := 2) (k := 2) (by omega) v2
  have s1 : mm_s (mm_pi (mm_pi (mm_pi (mm_nw h 1 3 3) 2 0 w0) 2 1 w1) 2 2 w2) 1 = (9, 4) := B1.s (by omega) (by omega)
  have H1 : zBI w0 w1 w2 h0 (mm_pr (mm_pi (mm_pi (mm_pi (mm_nw h 1 3 3) 2 0 w0) 2 1 w1) 2 2 w2) 1 0 (some 2)) 3 (z + 3) (fun a k => a = 1 ∧ 1 ≤ k ∧ k < 4) (fun _ _ => False) := by
    refine (B1.pr (a := 1) (k := 0) (b := 2) (by omega) rfl).mono (fun a k ha q => ?_) (fun a k ha q => ?_)
    · rcases q.1 with p | ⟨p, e⟩
      · have := q.2
        omega
      · obtain ⟨b, e⟩ := kR_w e
        rw [kRP_iff] at e
        omega
    · obtain ⟨⟨⟨q1, n0⟩, n1⟩, n2⟩ := q
      rcases q1 with q1 | ⟨p, e⟩
      · exact q1
      · apply e
        rw [kV, if_pos (Or.inl rfl), if_neg (by omega), if_neg (by omega), if_neg (by omega)]
  simp only [s1_0, s1_1, s1_4, s1_5, s1_8, s1_9, s1_10, s1_13, s1_14, s1_17, s1_18, s1_21, s1_24, or_true, true_or, true_and, and_true, mm_o_some, mm_o_none, mm_bk_v, mm_bk_n, Nat.reduceAdd, H.1, c2z, ← e0, ← e1, ← e2, c5z sb, s1]
  generalize mm_pr (mm_pi (mm_pi (mm_pi (mm_nw h 1 3 3) 2 0 w0) 2 1 w1) 2 2 w2) 1 0 (some 2) = f1 at *
  have A2 : zBI w0 w1 w2 h0 (mm_nw f1 2 2 2) 4 (z + 5) (fun a k => (a = 1 ∧ 1 ≤ k ∧ k < 4) ∨ (a = 3 ∧ k = 0)) (fun _ _ => False) := (H1.nw (sl := 2) (kd := 2) (len := 2) rfl).mono (fun a k ha q => by
    rcases q with q | ⟨q, e⟩
    · omega
    · obtain ⟨b, e⟩ := kR_w e
      rw [kRP_iff] at e
      omega) (fun a k ha q => by
    rcases q with q | ⟨q, e⟩
    · exact q
    · exact e (kV_0 (by omega) (by omega) (by omega) (by omega) (by omega)))
  have s2 : mm_s (mm_nw f1 2 2 2) 1 = (9, 4) := A2.s (by omega) (by omega)
  have r2 : mm_r (mm_nw f1 2 2 2) 1 0 = some 2 := A2.re (by omega) (by omega) rfl (fun q => by omega)
  simp only [s1_27, s1_28, s1_31, s1_32, s1_33, s1_36, or_true, true_or, true_and, and_true, mm_o_some, mm_o_none, mm_bk_v, mm_bk_n, Nat.reduceAdd, H1.1, s2, r2]
  refine c6z (S := fun a k => a = 1 ∧ 1 ≤ k ∧ k < 4) A2 (fun a k ha q => by omega) _ (fun g2 B2 => ?_)
  have t2 : mm_s g2 1 = (9, 4) := B2.s (by omega) (by omega)
  have H2 : zBI w0 w1 w2 h0 (mm_pr g2 1 1 (some 3)) 21 (z + 141) (fun a k => a = 1 ∧ 2 ≤ k ∧ k < 4) (fun _ _ => False) := (B2.pr (a := 1) (k := 1) (b := 3) (by omega) rfl).mono (fun a k ha q => by omega) (fun _ _ _ q => q)
  simp only [s1_39, or_true, true_or, true_and, and_true, mm_o_some, mm_o_none, mm_bk_v, mm_bk_n, Nat.reduceAdd, t2]
  generalize mm_pr g2 1 1 (some 3) = f2 at *
  have A3 : zBI w0 w1 w2 h0 (mm_nw f2 8 11 11) 22 (z + 152) (fun a k => (a = 1 ∧ 2 ≤ k ∧ k < 4) ∨ (a = 21 ∧ k < 8)) (fun a k => a = 21 ∧ k = 9) := (H2.nw (sl := 11) (kd := 8) (len := 11) rfl).mono (fun a k ha q => by
    rcases q with q | ⟨q, e⟩
    · omega
    · obtain ⟨b, e⟩ := kR_w e
      rw [kRP_iff] at e
      omega) (fun a k ha q => by
    rcases q with q | ⟨q, e⟩
    · exact q.elim
    · by_cases e9 : k = 9
      · exact ⟨q, e9⟩
      · exact absurd (kV_0 (by omega) (by omega) (by omega) (by omega) (by omega)) e)
  have s3 : mm_s (mm_nw f2 8 11 11) 1 = (9, 4) := A3.s (by omega) (by omega)
  have r30 : mm_r (mm_nw f2 8 11 11) 1 0 = some 2 := A3.re (by omega) (by omega) rfl (fun q => by omega)
  have r31 : mm_r (mm_nw f2 8 11 11) 1 1 = some 3 := A3.re (by omega) (by omega) rfl (fun q => by omega)
  simp only [s1_42, s1_43, s1_46, s1_47, s1_48, s1_51, s1_52, s1_55, or_true, true_or, true_and, and_true, mm_o_some, mm_o_none, mm_bk_v, mm_bk_n, Nat.reduceAdd, H2.1, s3, r30, r31]
  refine c8z A3 _ (fun g3 B3 => ?_)
  have t3 : mm_s g3 1 = (9, 4) := B3.s (by omega) (by omega)
  have H3 : zBI w0 w1 w2 h0 (mm_pr g3 1 2 (some 21)) 140 (z + 152 + 974) (fun a k => a = 1 ∧ k = 3) (fun _ _ => False) := (B3.pr (a := 1) (k := 2) (b := 21) (by omega) rfl).mono (fun a k ha q => by omega) (fun _ _ _ q => q)
  simp only [s1_58, or_true, true_or, true_and, and_true, mm_o_some, mm_o_none, mm_bk_v, mm_bk_n, Nat.reduceAdd, t3]
  generalize mm_pr g3 1 2 (some 21) = f3 at *
  have A4 := H3.nw (sl := 2) (kd := 0) (len := 2) rfl
  have n4 : mm_n (mm_nw f3 0 2 2) = 140 + 1 := A4.1
  have s4 : (mm_s (mm_nw f3 0 2 2) 140).1 = 0 := by rw [A4.s (by omega) (by omega)]; rfl
  have B4 := A4.nw0 (sl := 6) (kd := 20) (len := 6) rfl (fun k => kR_no (fun b => by simp only [kRP, kRP1, kRP2, kRP3, kRP4, Bool.or_eq_false_iff, decide_eq_false_iff_not]; omega)) (fun k => kV_0 (by omega) (by omega) (by omega) (by omega) (by omega))
  have C4 := B4.pr (a := 140) (k := 0) (b := 140 + 1) (by omega) rfl
  have t4 : mm_s (mm_pr (mm_nw (mm_nw f3 0 2 2) 20 6 6) 140 0 (some (140 + 1))) 1 = (9, 4) := C4.s (by omega) (by omega)
  have D4 := C4.pr (a := 1) (k := 3) (b := 140) (by omega) rfl
  simp only [s1_61, s1_62, s1_65, s1_66, s1_69, s1_72, or_true, true_or, true_and, and_true, mm_o_some, mm_o_none, mm_bk_v, mm_bk_n, Nat.reduceAdd, H3.1, c13z n4 s4]
  simp only [s1_61, s1_62, s1_65, s1_66, s1_69, s1_72, or_true, true_or, true_and, and_true, mm_o_some, mm_o_none, mm_bk_v, mm_bk_n, Nat.reduceAdd, show (140 + 1 : Nat) = 141 from rfl] at t4 D4 ⊢
  simp only [t4, true_and]
  refine K _ ?_
  have := D4.mono (S' := fun _ _ => False) (T' := fun _ _ => False) (fun a k ha q => by
    obtain ⟨⟨q1, n1⟩, n2⟩ := q
    rcases q1 with q1 | ⟨p, e⟩
    · omega
    · obtain ⟨b, e⟩ := kR_w e
      rw [kRP_iff] at e
      omega) (fun a k ha q => by
    rcases q with q | ⟨q, e⟩
    · exact q
    · exact e (kV_0 (by omega) (by omega) (by omega) (by omega) (by omega)))
  exact this
end
