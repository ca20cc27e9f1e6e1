/-! ENDS GROW -/
section
variable {d : Nat} {h : mm_H} {Q : mm_Q} {e j n f g : Nat} {E : Int} {l : List Int}
theorem c82_tail {s sh : Nat} (hs : zSe h e) (hf : f = e + 2 + j) (hg : g = e + 3 + j) (hj : j < 7) (hn : n = l.length) (hn7 : n ≤ 7) (he : 1 ≤ e) (hsh : sh ≤ 1) (hsn : s ≤ n) (sf : mm_s h f = (20, 8)) (sg : mm_s h g = (20, 8)) (iF : ∀ i, i < n → mm_i h f i = zI (l.getD i 0)) (v8 : Value) (H : ∀ h', zFr (fun a => a = g ∨ a = e + 10) h h' → mm_i h' (e + 10) (j + 1) = nI (n + sh) → (∀ k, ¬ k = j + 1 → mm_i h' (e + 10) k = mm_i h (e + 10) k) → (∀ k, k < s → mm_i h' g k = mm_i h g k) → (sh = 1 → mm_i h' g s = zI E) → (∀ k, s ≤ k → k < n → mm_i h' g (k + sh) = zI (l.getD k 0)) → Q (.inl none) h') : mm_wp d 82 96 [.ref e, .int (nI j), .int (zI E), .ref f, .ref g, .int (nI n), .int (nI s), .int (nI sh), v8] [] h Q := by
  obtain ⟨s1, s2, s3, s4, s5, s6⟩ := hs
  have hin : mm_in (nI s) 8 = true := mm_inN (by omega) (by omega)
  have hcl : (nI s).toNatClampNeg = s := nI_clamp (by omega)
  have hin2 : mm_in (nI (j + 1)) 8 = true := mm_inN (by omega) (by omega)
  have hcl2 : (nI (j + 1)).toNatClampNeg = j + 1 := nI_clamp (by omega)
  have g0 : ¬ g = 0 := by omega
  have e0 : ¬ e + 10 = 0 := by omega
  have fg : ¬ f = g := by omega
  simp only [s82_96, s82_96o, s82_96n, s82_98, s82_100, s82_101, s82_102, s82_104, or_true, true_or, true_and, and_true, mm_o_some, mm_o_none, mm_bk_v, mm_bk_n, Nat.reduceAdd, sg, hin, hcl, g0, not_false_eq_true]
  refine c82_l2 (l := l) hf hg hj hn7 he hsh (n - s) s (mm_pi h g s (zI E)) (by omega) sf sg (fun i hi => by rw [mm_i_pi, if_neg (fun (H : f = g ∧ i = s) => fg H.1)]; exact iF i hi) (fun h' i' a1 a2 a3 => ?_)
  obtain ⟨b1, b2, b3, b4, b5⟩ := a1
  have t1 : mm_s h' = mm_s h := b3
  have t2 : mm_r h' = mm_r h := b4
  simp only [s82_131, s82_132, s82_135, s82_136, s82_137, s82_138, s82_140, s82_142, s82_143, s82_144, or_true, true_or, true_and, and_true, mm_o_some, mm_o_none, mm_bk_v, mm_bk_n, Nat.reduceAdd, t1, t2, s1, s3, s5, hin2, hcl2, e0, not_false_eq_true, nI_1, nI_add]
  have F1 : zFr (fun a => a = g ∨ a = e + 10) h h' := (zFr.trans (zFr.pi rfl) ⟨b1, b2, b3, b4, b5⟩ : zFr (fun a => a = g) h h').mono (fun a ha => Or.inl ha)
  refine H _ (F1.trans (zFr.pi (Or.inr rfl))) ?_ (fun k hk => ?_) (fun k hk => ?_) (fun q => ?_) (fun k k1 k2 => ?_)
  · rw [mm_i_pi, if_pos ⟨rfl, rfl⟩]
  · rw [mm_i_pi, if_neg (fun H => hk H.2), (b5 (e + 10) (by omega) k).1, mm_i_pi, if_neg (by omega)]
  · rw [mm_i_pi, if_neg (by omega), a3 k (by omega), mm_i_pi, if_neg (by omega)]
  · rw [mm_i_pi, if_neg (by omega), a3 s (by omega), mm_i_pi, if_pos ⟨rfl, rfl⟩]
  · rw [mm_i_pi, if_neg (by omega), a2 k k1 k2]
theorem c82z (hs : zSe h e) (he : 1 ≤ e) (hj : j < 7) (hEd : zEd h e j l) (hl7 : l.length ≤ 7) (hE : zr E) (hl : ∀ i, i < l.length → zr (l.getD i 0)) (v3 v4 v5 v6 v7 v8 : Value) (H : ∀ h', zEd h' e (j + 1) (zIns E l) → zFr (fun a => a = e + 3 + j ∨ a = e + 10) h h' → (∀ k, ¬ k = j + 1 → mm_i h' (e + 10) k = mm_i h (e + 10) k) → Q (.inl none) h') : mm_wp (d + 1) 82 0 [.ref e, .int (nI j), .int (zI E), v3, v4, v5, v6, v7, v8] [] h Q := by
  have hs' := hs
  obtain ⟨s1, s2, s3, s4, s5, s6⟩ := hs
  obtain ⟨E1, E2, E3⟩ := hEd
  have c1 : ¬ nI j < 0 := nI_pos (by omega)
  have c2 : nI j < (7 : Int32) := nI_lt (b := 7) hj (by omega)
  have c3' : ¬ (7 : Int32) < nI l.length := nI_nlt (a := 7) hl7 (by omega)
  have hin : mm_in (nI j) 8 = true := mm_inN (by omega) (by omega)
  have hcl : (nI j).toNatClampNeg = j := nI_clamp (by omega)
  have hin2 : mm_in (nI (j + 1)) 8 = true := mm_inN (by omega) (by omega)
  have hcl2 : (nI (j + 1)).toNatClampNeg = j + 1 := nI_clamp (by omega)
  obtain ⟨p1, p2⟩ := s6 j (by omega)
  obtain ⟨q1, q2⟩ := s6 (j + 1) (by omega)
  have eg : e + 2 + (j + 1) = e + 3 + j := by omega
  rw [eg] at q1 q2
  simp only [s82_0, s82_1, s82_4, s82_5, s82_7, s82_10, s82_11, s82_12, s82_15, s82_16, s82_17, s82_17o, s82_17n, s82_18, s82_19, s82_22, s82_23, s82_24, s82_25, s82_26, s82_26o, s82_26n, s82_28, s82_29, s82_32, s82_33, s82_34, s82_36, s82_39, s82_41, s82_42, or_true, true_or, true_and, and_true, mm_o_some, mm_o_none, mm_bk_v, mm_bk_n, Nat.reduceAdd, if_neg c1, if_pos c2, s1, s2, s3, s4, s5, hin, hcl, nI_1, hin2, hcl2, p1, q1, E1, c3, if_neg c3', Nat.reduceLeDiff]
  have z0 : (0 : Int32) = nI 0 := rfl
  rw [z0]
  refine c82_l1 rfl rfl hj rfl hl7 he hE hl l.length 0 h (by omega) p2 q2 E3 (fun i hi => by omega) (fun i hi => by omega) (fun s h' a1 a2 a3 a4 a5 => ?_)
  have A4 : zFr (fun a => a = e + 3 + j ∨ a = e + 10) h h' := zFr.mono a4 (fun a ha => Or.inl ha)
  obtain ⟨b1, b2, b3, b4, b5⟩ := a4
  have sf : mm_s h' (e + 2 + j) = (20, 8) := by rw [b3]; exact p2
  have sg : mm_s h' (e + 3 + j) = (20, 8) := by rw [b3]; exact q2
  have iF : ∀ i, i < l.length → mm_i h' (e + 2 + j) i = zI (l.getD i 0) := fun i hi => by rw [(b5 (e + 2 + j) (by omega) i).1]; exact E3 i hi
  have hs2 : zSe h' e := by simp only [zSe, b3, b4]; exact hs'
  have sp := zIns_spec E l s a1 a2 a3
  have fin : ∀ sh, sh ≤ 1 → (sh = 0 ↔ s < l.length ∧ l.getD s 0 = E) → mm_wp (d + 1) 82 96 [.ref e, .int (nI j), .int (zI E), .ref (e + 2 + j), .ref (e + 3 + j), .int (nI l.length), .int (nI s), .int (nI sh), v8] [] h' Q := by
    intro sh hsh hiff
    refine c82_tail hs2 rfl rfl hj rfl hl7 he hsh a1 sf sg iF v8 (fun h'' t1 t2 t3 t4 t5 t6 => H h'' ?_ (A4.trans t1) (fun k hk => by rw [t3 k hk, (b5 (e + 10) (by omega) k).1]))
    by_cases c : s < l.length ∧ l.getD s 0 = E
    · rw [if_pos c] at sp
      have := hiff.mpr c
      subst this
      rw [sp]
      refine ⟨t2, by omega, fun i hi => ?_⟩
      rw [eg]
      by_cases ci : i < s
      · rw [t4 i ci, a5 i ci]
      · exact t6 i (by omega) hi
    · rw [if_neg c] at sp
      have : sh = 1 := by
        have : ¬ sh = 0 := fun H => c (hiff.mp H)
        omega
      subst this
      have len : (zIns E l).length = l.length + 1 := by
        rw [sp, List.length_append, List.length_cons, List.length_take, List.length_drop]
        omega
      refine ⟨by rw [len]; exact t2, by omega, fun i hi => ?_⟩
      rw [eg, sp]
      by_cases ci : i < s
      · rw [t4 i ci, a5 i ci]
        simp only [List.getD_eq_getElem?_getD]
        rw [List.getElem?_append_left (by rw [List.length_take]; omega), List.getElem?_take_of_lt ci]
      · by_cases cs : i = s
        · rw [cs, t5 rfl]
          simp only [List.getD_eq_getElem?_getD]
          rw [List.getElem?_append_right (by rw [List.length_take]; omega), List.length_take, show s - min s l.length = 0 by omega]
          rfl
        · obtain ⟨k, rfl⟩ : ∃ k, i = k + 1 := ⟨i - 1, by omega⟩
          rw [t6 k (by omega) (by omega)]
          simp only [List.getD_eq_getElem?_getD]
          rw [List.getElem?_append_right (by rw [List.length_take]; omega), List.length_take, show k + 1 - min s l.length = (k - s) + 1 by omega, List.getElem?_cons_succ, List.getElem?_drop, show s + (k - s) = k by omega]
  by_cases d1 : s < l.length
  · have c4 : ¬ nI l.length ≤ nI s := nI_ge d1 (by omega)
    have hin3 : mm_in (nI s) 8 = true := mm_inN (by omega) (by omega)
    have hcl3 : (nI s).toNatClampNeg = s := nI_clamp (by omega)
    have c5 := zI_eq (hl s d1) hE
    simp only [s82_74, s82_76, s82_78, s82_81, s82_81o, s82_81n, s82_82, s82_84, s82_85, s82_86, s82_89, s82_90, s82_93, s82_94, or_true, true_or, true_and, and_true, mm_o_some, mm_o_none, mm_bk_v, mm_bk_n, Nat.reduceAdd, if_neg c4, sf, hin3, hcl3, iF s d1, c5]
    by_cases c : l.getD s 0 = E
    · rw [if_pos c]
      exact fin 0 (by omega) ⟨fun _ => ⟨d1, c⟩, fun _ => rfl⟩
    · rw [if_neg c]
      exact fin 1 (by omega) ⟨fun H => by omega, fun H => absurd H.2 c⟩
  · have c4 : nI l.length ≤ nI s := by rw [show s = l.length by omega]; exact Int32.le_refl _
    simp only [s82_74, s82_76, s82_78, s82_81, s82_81o, s82_81n, s82_82, s82_84, s82_85, s82_86, s82_89, s82_90, s82_93, s82_94, or_true, true_or, true_and, and_true, mm_o_some, mm_o_none, mm_bk_v, mm_bk_n, Nat.reduceAdd, if_pos c4]
    exact fin 1 (by omega) ⟨fun H => by omega, fun H => absurd H.1 d1⟩
end
