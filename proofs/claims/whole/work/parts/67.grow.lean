/-! AN END COMES INTO THE ENDS -/
theorem zIns_spec (E : Int) : ∀ (l : List Int) (s : Nat), s ≤ l.length → (∀ i, i < s → l.getD i 0 < E) → (s < l.length → E ≤ l.getD s 0) → zIns E l = if s < l.length ∧ l.getD s 0 = E then l else l.take s ++ E :: l.drop s := by
  intro l
  induction l with
  | nil =>
    intro s hs _ _
    have : s = 0 := by simpa using hs
    subst this
    rfl
  | cons a l ih =>
    intro s hs h1 h2
    cases s with
    | zero =>
      have h2' : E ≤ a := h2 (by simp)
      simp only [zIns, if_neg (show ¬ a < E by omega)]
      by_cases e : a = E
      · rw [if_pos e, if_pos ⟨by simp, e⟩]
      · rw [if_neg e, if_neg (fun H => e H.2)]
        rfl
    | succ s =>
      have h1' : a < E := h1 0 (by omega)
      simp only [zIns, if_pos h1']
      rw [ih s (by simpa using hs) (fun i hi => h1 (i + 1) (by omega)) (fun hl => h2 (by simpa using hl))]
      by_cases c : s < l.length ∧ l.getD s 0 = E
      · rw [if_pos c, if_pos ⟨by simpa using c.1, c.2⟩]
      · rw [if_neg c, if_neg (fun H => c ⟨by simpa using H.1, H.2⟩)]
        rfl
theorem zIns_len (E : Int) : ∀ l : List Int, (zIns E l).length ≤ l.length + 1 ∧ l.length ≤ (zIns E l).length := by
  intro l
  induction l with
  | nil => exact ⟨Nat.le_refl _, Nat.zero_le _⟩
  | cons a l ih =>
    simp only [zIns]
    split
    · simp only [List.length_cons]; omega
    · split <;> simp only [List.length_cons] <;> omega
section
variable {d : Nat} {Q : mm_Q} {e j n f g : Nat} {E : Int} {l : List Int} {v7 v8 : Value}
theorem c82_l1 (hf : f = e + 2 + j) (hg : g = e + 3 + j) (hj : j < 7) (hn : n = l.length) (hn7 : n ≤ 7) (he : 1 ≤ e) (hE : zr E) (hl : ∀ i, i < n → zr (l.getD i 0)) : ∀ m s h, s + m = n → mm_s h f = (20, 8) → mm_s h g = (20, 8) → (∀ i, i < n → mm_i h f i = zI (l.getD i 0)) → (∀ i, i < s → mm_i h g i = zI (l.getD i 0)) → (∀ i, i < s → l.getD i 0 < E) → (∀ s' h', s' ≤ n → (∀ i, i < s' → l.getD i 0 < E) → (s' < n → E ≤ l.getD s' 0) → zFr (fun a => a = g) h h' → (∀ i, i < s' → mm_i h' g i = zI (l.getD i 0)) → mm_wp d 82 74 [.ref e, .int (nI j), .int (zI E), .ref f, .ref g, .int (nI n), .int (nI s'), v7, v8] [] h' Q) → mm_wp d 82 44 [.ref e, .int (nI j), .int (zI E), .ref f, .ref g, .int (nI n), .int (nI s), v7, v8] [] h Q := by
  intro m
  induction m with
  | zero =>
    intro s h hs sf sg iF iG hlt H
    have c : nI n ≤ nI s := by rw [show s = n by omega]; exact Int32.le_refl _
    rw [s82_44]
    simp only [s82_0, s82_1, s82_4, s82_5, s82_7, s82_10, s82_11, s82_12, s82_15, s82_16, s82_17, s82_17o, s82_17n, s82_18, s82_19, s82_22, s82_23, s82_24, s82_25, s82_26, s82_26o, s82_26n, s82_28, s82_29, s82_32, s82_33, s82_34, s82_36, s82_39, s82_41, s82_42, s82_46, s82_48, s82_51, s82_51o, s82_51n, s82_52, s82_54, s82_55, s82_56, s82_59, s82_59o, s82_59n, s82_61, s82_63, s82_63o, s82_63n, s82_64, s82_66, s82_67, s82_68, s82_71, or_true, true_or, true_and, and_true, mm_o_some, mm_o_none, mm_bk_v, mm_bk_n, Nat.reduceAdd, if_pos c]
    exact H s h (by omega) hlt (by omega) zFr.refl iG
  | succ m ih =>
    intro s h hs sf sg iF iG hlt H
    have c : ¬ nI n ≤ nI s := nI_ge (by omega) (by omega)
    have hin : mm_in (nI s) 8 = true := mm_inN (by omega) (by omega)
    have hcl : (nI s).toNatClampNeg = s := nI_clamp (by omega)
    have g0 : ¬ g = 0 := by omega
    have fg : ¬ f = g := by omega
    have cE := zI_le hE (hl s (by omega))
    rw [s82_44]
    simp only [s82_0, s82_1, s82_4, s82_5, s82_7, s82_10, s82_11, s82_12, s82_15, s82_16, s82_17, s82_17o, s82_17n, s82_18, s82_19, s82_22, s82_23, s82_24, s82_25, s82_26, s82_26o, s82_26n, s82_28, s82_29, s82_32, s82_33, s82_34, s82_36, s82_39, s82_41, s82_42, s82_46, s82_48, s82_51, s82_51o, s82_51n, s82_52, s82_54, s82_55, s82_56, s82_59, s82_59o, s82_59n, s82_61, s82_63, s82_63o, s82_63n, s82_64, s82_66, s82_67, s82_68, s82_71, or_true, true_or, true_and, and_true, mm_o_some, mm_o_none, mm_bk_v, mm_bk_n, Nat.reduceAdd, if_neg c, sf, sg, hin, hcl, iF s (by omega), cE, g0, not_false_eq_true, nI_1]
    by_cases c2 : E ≤ l.getD s 0
    · rw [if_pos c2]
      exact H s h (by omega) hlt (fun _ => c2) zFr.refl iG
    · rw [if_neg c2]
      refine ih (s + 1) (mm_pi h g s (zI (l.getD s 0))) (by omega) sf sg (fun i hi => by rw [mm_i_pi, if_neg (fun (H : f = g ∧ i = s) => fg H.1)]; exact iF i hi) (fun i hi => ?_) (fun i hi => ?_) (fun s' h' a1 a2 a3 a4 a5 => H s' h' a1 a2 a3 (zFr.trans (zFr.pi rfl) a4) a5)
      · rw [mm_i_pi]
        by_cases ei : i = s
        · rw [if_pos ⟨rfl, ei⟩, ei]
        · rw [if_neg (fun H => ei H.2)]; exact iG i (by omega)
      · by_cases ei : i = s
        · rw [ei]; omega
        · exact hlt i (by omega)

theorem c82_l2 {s sh : Nat} (hf : f = e + 2 + j) (hg : g = e + 3 + j) (hj : j < 7) (hn7 : n ≤ 7) (he : 1 ≤ e) (hsh : sh ≤ 1) : ∀ m i h, i + m = n → mm_s h f = (20, 8) → mm_s h g = (20, 8) → (∀ i, i < n → mm_i h f i = zI (l.getD i 0)) → (∀ h' i', zFr (fun a => a = g) h h' → (∀ k, i ≤ k → k < n → mm_i h' g (k + sh) = zI (l.getD k 0)) → (∀ k, k < i + sh → mm_i h' g k = mm_i h g k) → mm_wp d 82 131 [.ref e, .int (nI j), .int (zI E), .ref f, .ref g, .int (nI n), .int (nI s), .int (nI sh), .int (nI i')] [] h' Q) → mm_wp d 82 106 [.ref e, .int (nI j), .int (zI E), .ref f, .ref g, .int (nI n), .int (nI s), .int (nI sh), .int (nI i)] [] h Q := by
  intro m
  induction m with
  | zero =>
    intro i h hi sf sg iF H
    have c : nI n ≤ nI i := by rw [show i = n by omega]; exact Int32.le_refl _
    rw [s82_106]
    simp only [s82_0, s82_1, s82_4, s82_5, s82_7, s82_10, s82_11, s82_12, s82_15, s82_16, s82_17, s82_17o, s82_17n, s82_18, s82_19, s82_22, s82_23, s82_24, s82_25, s82_26, s82_26o, s82_26n, s82_28, s82_29, s82_32, s82_33, s82_34, s82_36, s82_39, s82_41, s82_42, s82_44, s82_46, s82_48, s82_51, s82_51o, s82_51n, s82_52, s82_54, s82_55, s82_56, s82_59, s82_59o, s82_59n, s82_61, s82_63, s82_63o, s82_63n, s82_64, s82_66, s82_67, s82_68, s82_71, s82_74, s82_76, s82_78, s82_81, s82_81o, s82_81n, s82_82, s82_84, s82_85, s82_86, s82_89, s82_90, s82_93, s82_94, s82_96, s82_96o, s82_96n, s82_98, s82_100, s82_101, s82_102, s82_104, s82_108, s82_110, s82_113, s82_113o, s82_113n, s82_115, s82_117, s82_119, s82_120, s82_120o, s82_120n, s82_121, s82_123, s82_124, s82_125, s82_128, or_true, true_or, true_and, and_true, mm_o_some, mm_o_none, mm_bk_v, mm_bk_n, Nat.reduceAdd, if_pos c]
    exact H h i zFr.refl (fun k k1 k2 => by omega) (fun _ _ => rfl)
  | succ m ih =>
    intro i h hi sf sg iF H
    have c : ¬ nI n ≤ nI i := nI_ge (by omega) (by omega)
    have hin : mm_in (nI i) 8 = true := mm_inN (by omega) (by omega)
    have hcl : (nI i).toNatClampNeg = i := nI_clamp (by omega)
    have hin2 : mm_in (nI (i + sh)) 8 = true := mm_inN (by omega) (by omega)
    have hcl2 : (nI (i + sh)).toNatClampNeg = i + sh := nI_clamp (by omega)
    have g0 : ¬ g = 0 := by omega
    have fg : ¬ f = g := by omega
    rw [s82_106]
    simp only [s82_0, s82_1, s82_4, s82_5, s82_7, s82_10, s82_11, s82_12, s82_15, s82_16, s82_17, s82_17o, s82_17n, s82_18, s82_19, s82_22, s82_23, s82_24, s82_25, s82_26, s82_26o, s82_26n, s82_28, s82_29, s82_32, s82_33, s82_34, s82_36, s82_39, s82_41, s82_42, s82_44, s82_46, s82_48, s82_51, s82_51o, s82_51n, s82_52, s82_54, s82_55, s82_56, s82_59, s82_59o, s82_59n, s82_61, s82_63, s82_63o, s82_63n, s82_64, s82_66, s82_67, s82_68, s82_71, s82_74, s82_76, s82_78, s82_81, s82_81o, s82_81n, s82_82, s82_84, s82_85, s82_86, s82_89, s82_90, s82_93, s82_94, s82_96, s82_96o, s82_96n, s82_98, s82_100, s82_101, s82_102, s82_104, s82_108, s82_110, s82_113, s82_113o, s82_113n, s82_115, s82_117, s82_119, s82_120, s82_120o, s82_120n, s82_121, s82_123, s82_124, s82_125, s82_128, or_true, true_or, true_and, and_true, mm_o_some, mm_o_none, mm_bk_v, mm_bk_n, Nat.reduceAdd, if_neg c, sf, sg, hin, hcl, iF i (by omega), g0, not_false_eq_true, nI_1, nI_add, hin2, hcl2]
    refine ih (i + 1) (mm_pi h g (i + sh) (zI (l.getD i 0))) (by omega) sf sg (fun k hk => by rw [mm_i_pi, if_neg (fun (H : f = g ∧ k = i + sh) => fg H.1)]; exact iF k hk) (fun h' i' a1 a2 a3 => H h' i' (zFr.trans (zFr.pi rfl) a1) (fun k k1 k2 => ?_) (fun k hk => ?_))
    · by_cases ek : k = i
      · rw [a3 (k + sh) (by omega), mm_i_pi, if_pos ⟨rfl, by omega⟩, ek]
      · exact a2 k (by omega) k2
    · rw [a3 k (by omega), mm_i_pi, if_neg (by omega)]

end
