/-! THE SEARCH: what it keeps, and as loops in loops -/
section
variable {W : Nat → Int} {L n told p t : Nat} {R : zR} {P : Nat → Nat → Int} {s : zS} {G : Nat → zR → zS → zS} {C : Nat → Int} {x y z : Int}
theorem zEnds_w (H : zInv W L R) (hW : zWok W) {k m : Nat} {v : Int} (hk : k = 6 ∨ k = 7 ∨ k = 8) (hm : m ≤ L) (hv : v ∈ zEnds R k m) : 0 ≤ v ∧ v ≤ 200 := by
  rcases zEnds_mem m hv with e | ⟨j, hj, e⟩
  · rw [e]; omega
  · have o := H.2.1 j (by omega)
    have o1 := o.1
    simp only [zOk] at o1
    simp only [zWok] at hW
    rw [e]
    rcases hk with rfl | rfl | rfl <;> omega
theorem zW_r (hp : zPok (P p)) : (1 ≤ zW (P p) t ∧ zW (P p) t ≤ 200) ∧ (1 ≤ zH (P p) t ∧ zH (P p) t ≤ 200) ∧ 1 ≤ zD (P p) t ∧ zD (P p) t ≤ 200 := by
  simp only [zPok] at hp
  refine ⟨?_, ?_, ?_⟩
  · simp only [zW]; split
    · omega
    · split <;> omega
  · simp only [zH]; split
    · omega
    · split <;> omega
  · simp only [zD]; split
    · omega
    · split <;> omega
theorem zC_ok (hp : zPok (P p)) (p8 : p < 8) (t6 : t < 6) (hx : 0 ≤ x ∧ x ≤ 200) (hy : 0 ≤ y ∧ y ≤ 200) (hz : 0 ≤ z ∧ z ≤ 200) : zOk (zC P p t x y z) := by
  have w := zW_r (t := t) hp
  simp only [zPok] at hp
  simp only [zOk, zC, Nat.reduceEqDiff, reduceIte, true_and]
  omega
theorem zC_15 : zC P p t x y z 15 = 0 := rfl
/-- what a state keeps -/
def zSq (told : Nat) (s : zS) : Prop := zSw s ∧ s.1 ≤ told
theorem zCmp_q (hI : zInv W L R) (hs : zSq told s) : zSq told (zCmp L R s) := by
  simp only [zCmp]
  split
  · exact ⟨⟨hI.1, hI.ok, rfl, rfl⟩, hs.2⟩
  · exact hs
theorem zTry_q (hG : ∀ R' s', zInv W (L + 1) R' → zSq told s' → zSq told (G (L + 1) R' s')) (hI : zInv W L R) (h8 : L < 8) (oC : zOk C) (c15 : C 15 = 0) (hs : zSq told s) : zSq told (zTry G told W L R C s) := by
  simp only [zTry]
  split
  · exact hs
  · split
    · rename_i hb
      rw [Bool.and_eq_true] at hb
      split
      · exact hs
      · have hI2 := zInv_push hI h8 oC c15 hb.1 hb.2
        exact hG _ _ hI2 (zCmp_q hI2 ⟨hs.1, show s.1 + 1 ≤ told by omega⟩)
    · exact hs
theorem zFold_q {α : Type} {I : zS → Prop} {g : zS → α → zS} : ∀ (l : List α) (s : zS), (∀ a, a ∈ l → ∀ s, I s → I (g s a)) → I s → I (l.foldl g s) := by
  intro l
  induction l with
  | nil => intro s _ h; exact h
  | cons a l ih => intro s hg h; exact ih _ (fun b hb => hg b (List.mem_cons_of_mem _ hb)) (hg a (List.mem_cons_self ..) s h)
theorem zPl_mem (hc : C ∈ zPl R L P p t) : ∃ x y z, x ∈ zEnds R 6 L ∧ y ∈ zEnds R 7 L ∧ z ∈ zEnds R 8 L ∧ C = zC P p t x y z := by
  simp only [zPl, List.mem_flatMap, List.mem_map] at hc
  obtain ⟨y, hy, z, hz, x, hx, e⟩ := hc
  exact ⟨x, y, z, hx, hy, hz, e.symm⟩
theorem zLv_mem {B : Nat → Int} (hc : C ∈ zLv B n P L R) : ∃ p t, p < n ∧ t < 6 ∧ zHas L R p = false ∧ zGd B (P p) t = true ∧ C ∈ zPl R L P p t := by
  simp only [zLv, List.mem_flatMap, List.mem_range] at hc
  obtain ⟨p, hp, hc⟩ := hc
  split at hc
  · exact absurd hc (by simp)
  · rename_i h1
    simp only [List.mem_flatMap, List.mem_range] at hc
    obtain ⟨t, ht, hc⟩ := hc
    split at hc
    · rename_i h2
      exact ⟨p, t, hp, ht, by simpa using h1, h2, hc⟩
    · exact absurd hc (by simp)
theorem zPl_ok (hW : zWok W) (hp : zPok (P p)) (p8 : p < 8) (t6 : t < 6) (hI : zInv W L R) (hc : C ∈ zPl R L P p t) : zOk C ∧ C 15 = 0 := by
  obtain ⟨x, y, z, hx, hy, hz, rfl⟩ := zPl_mem hc
  exact ⟨zC_ok hp p8 t6 (zEnds_w hI hW (by omega) (Nat.le_refl L) hx) (zEnds_w hI hW (by omega) (Nat.le_refl L) hy) (zEnds_w hI hW (by omega) (Nat.le_refl L) hz), rfl⟩
theorem zGo_q (hW : zWok W) (hP : ∀ p, p < n → zPok (P p)) (hn : n ≤ 8) : ∀ f L R s, f + L = 8 → zInv W L R → zSq told s → zSq told (zGo told W n P f L R s) := by
  intro f
  induction f with
  | zero => intro L R s _ _ h; exact h
  | succ f ih =>
    intro L R s hf hI hs
    simp only [zGo]
    refine zFold_q _ _ (fun C hc s hs => ?_) hs
    obtain ⟨p, t, hp, ht, _, _, hc⟩ := zLv_mem hc
    obtain ⟨oC, c15⟩ := zPl_ok hW (hP p hp) (by omega) ht hI hc
    exact zTry_q (fun R' s' hI' hs' => ih (L + 1) R' s' (by omega) hI' hs') hI (by omega) oC c15 hs
theorem foldl_fm {α β σ : Type} (f : α → List β) (g : σ → β → σ) : ∀ (l : List α) (s : σ), (l.flatMap f).foldl g s = l.foldl (fun s a => (f a).foldl g s) s := by
  intro l
  induction l with
  | nil => intro s; rfl
  | cons a l ih => intro s; rw [List.flatMap_cons, List.foldl_append, ih]; rfl
theorem foldl_mp {α β σ : Type} (f : α → β) (g : σ → β → σ) : ∀ (l : List α) (s : σ), (l.map f).foldl g s = l.foldl (fun s a => g s (f a)) s := by
  intro l
  induction l with
  | nil => intro s; rfl
  | cons a l ih => intro s; rw [List.map_cons, List.foldl_cons, ih]; rfl
theorem foldl_cg {α σ : Type} {g g' : σ → α → σ} : ∀ (l : List α) (s : σ), (∀ a, a ∈ l → ∀ s, g s a = g' s a) → l.foldl g s = l.foldl g' s := by
  intro l
  induction l with
  | nil => intro s _; rfl
  | cons a l ih => intro s h; rw [List.foldl_cons, List.foldl_cons, h a (List.mem_cons_self ..), ih _ (fun b hb => h b (List.mem_cons_of_mem _ hb))]
/-- the loops: over x; over z; over y; over the turns; over the pieces -/
def zFx (G : Nat → zR → zS → zS) (told : Nat) (W : Nat → Int) (L : Nat) (R : zR) (P : Nat → Nat → Int) (p t : Nat) (y z : Int) (l : List Int) (s : zS) : zS := l.foldl (fun s x => zTry G told W L R (zC P p t x y z) s) s
def zFz (G : Nat → zR → zS → zS) (told : Nat) (W : Nat → Int) (L : Nat) (R : zR) (P : Nat → Nat → Int) (p t : Nat) (y : Int) (l : List Int) (s : zS) : zS := l.foldl (fun s z => zFx G told W L R P p t y z (zEnds R 6 L) s) s
def zFy (G : Nat → zR → zS → zS) (told : Nat) (W : Nat → Int) (L : Nat) (R : zR) (P : Nat → Nat → Int) (p t : Nat) (l : List Int) (s : zS) : zS := l.foldl (fun s y => zFz G told W L R P p t y (zEnds R 8 L) s) s
def zFt (G : Nat → zR → zS → zS) (told : Nat) (W : Nat → Int) (L : Nat) (R : zR) (P : Nat → Nat → Int) (p : Nat) (l : List Nat) (s : zS) : zS := l.foldl (fun s t => if zGd W (P p) t = true then zFy G told W L R P p t (zEnds R 7 L) s else s) s
def zFp (G : Nat → zR → zS → zS) (told : Nat) (W : Nat → Int) (L : Nat) (R : zR) (P : Nat → Nat → Int) (l : List Nat) (s : zS) : zS := l.foldl (fun s p => if zHas L R p = true then s else zFt G told W L R P p (List.range 6) s) s
theorem zFy_eq (s : zS) : (zPl R L P p t).foldl (fun s c => zTry G told W L R c s) s = zFy G told W L R P p t (zEnds R 7 L) s := by
  simp only [zPl, foldl_fm, foldl_mp]
  rfl
theorem zFp_eq (f : Nat) (s : zS) : zGo told W n P (f + 1) L R s = zFp (zGo told W n P f) told W L R P (List.range n) s := by
  simp only [zGo, zLv, foldl_fm, zFp]
  refine foldl_cg _ _ (fun p _ s => ?_)
  by_cases h : zHas L R p = true
  · rw [if_pos h, if_pos h]; rfl
  · rw [if_neg h, if_neg h, foldl_fm, zFt]
    refine foldl_cg _ _ (fun t _ s => ?_)
    by_cases g : zGd W (P p) t = true
    · rw [if_pos g, if_pos g, zFy_eq]
    · rw [if_neg g, if_neg g]; rfl
/-- spent: each loop ends -/
theorem fold_id {α : Type} {g : zS → α → zS} {s : zS} : ∀ l : List α, (∀ a, a ∈ l → g s a = s) → l.foldl g s = s := by
  intro l
  induction l with
  | nil => intro _; rfl
  | cons a l ih => intro h; rw [List.foldl_cons, h a (List.mem_cons_self ..)]; exact ih (fun b hb => h b (List.mem_cons_of_mem _ hb))
theorem zFx_sp (h : s.2.1 = true) (l : List Int) : zFx G told W L R P p t y z l s = s := fold_id l (fun _ _ => zTry_spent h)
theorem zFz_sp (h : s.2.1 = true) (l : List Int) : zFz G told W L R P p t y l s = s := fold_id l (fun _ _ => zFx_sp h _)
theorem zFy_sp (h : s.2.1 = true) (l : List Int) : zFy G told W L R P p t l s = s := fold_id l (fun _ _ => zFz_sp h _)
theorem zFt_sp (h : s.2.1 = true) (l : List Nat) : zFt G told W L R P p l s = s := fold_id l (fun t _ => by
  by_cases g : zGd W (P p) t = true
  · rw [if_pos g]; exact zFy_sp h _
  · rw [if_neg g])
theorem zFp_sp (h : s.2.1 = true) (l : List Nat) : zFp G told W L R P l s = s := fold_id l (fun p _ => by
  by_cases g : zHas L R p = true
  · rw [if_pos g]
  · rw [if_neg g]; exact zFt_sp h _)
/-- a place that may not be: nothing happens -/
theorem zTry_no (h : (zInB W C && zAdm L R C) = false) : zTry G told W L R C s = s := by
  simp only [zTry, h, Bool.false_eq_true, if_false]
  split <;> rfl
theorem zFx_no {l : List Int} (h : ∀ x, x ∈ l → (zInB W (zC P p t x y z) && zAdm L R (zC P p t x y z)) = false) : zFx G told W L R P p t y z l s = s := fold_id l (fun x hx => zTry_no (h x hx))
theorem zFz_no {l : List Int} (h : ∀ z, z ∈ l → ∀ x, x ∈ zEnds R 6 L → (zInB W (zC P p t x y z) && zAdm L R (zC P p t x y z)) = false) : zFz G told W L R P p t y l s = s := fold_id l (fun z hz => zFx_no (h z hz))
theorem drop_getD {l : List Int} {i : Nat} (h : i < l.length) : l.drop i = l.getD i 0 :: l.drop (i + 1) := by
  rw [List.drop_eq_getElem_cons h, List.getD_eq_getElem?_getD, List.getElem?_eq_getElem h]
  rfl
/-- the ends begin with 0, and rise -/
theorem zIns_0 {E : Int} (h : 1 ≤ E) (tl : List Int) (ht : ∀ v, v ∈ tl → 1 ≤ v) : ∃ tl', zIns E (0 :: tl) = 0 :: tl' ∧ ∀ v, v ∈ tl' → 1 ≤ v := by
  refine ⟨zIns E tl, by rw [zIns, if_pos (by omega)], fun v hv => ?_⟩
  rcases zIns_mem _ hv with e | e
  · omega
  · exact ht v e
theorem zEnds_0 {k : Nat} : ∀ m, (∀ i, i < m → 1 ≤ R i k) → ∃ tl, zEnds R k m = 0 :: tl ∧ ∀ v, v ∈ tl → 1 ≤ v := by
  intro m
  induction m with
  | zero => intro _; exact ⟨[], rfl, fun v hv => absurd hv (by simp)⟩
  | succ m ih =>
    intro h
    obtain ⟨tl, e, ht⟩ := ih (fun i hi => h i (by omega))
    rw [zEnds, e]
    exact zIns_0 (h m (by omega)) tl ht
/-- the tops: 0 first; each other one is a piece's -/
theorem zTops (hI : zInv W L R) {i : Nat} (hi : i < (zEnds R 7 L).length) : (i = 0 → (zEnds R 7 L).getD i 0 = 0) ∧ (1 ≤ i → ¬ (zEnds R 7 L).getD i 0 = 0 ∧ ∃ j, j < L ∧ R j 7 = (zEnds R 7 L).getD i 0) := by
  have h1 : ∀ j, j < L → 1 ≤ R j 7 := fun j hj => by
    have := hI.ok j hj
    simp only [zOk] at this
    omega
  obtain ⟨tl, e, ht⟩ := zEnds_0 (k := 7) L h1
  constructor
  · intro h0
    rw [e, h0]; rfl
  · intro h0
    have e1 : (zEnds R 7 L).getD i 0 ∈ tl := by
      have hi' := hi
      rw [e] at hi' ⊢
      obtain ⟨q, rfl⟩ : ∃ q, i = q + 1 := ⟨i - 1, by omega⟩
      simp only [List.length_cons] at hi'
      exact getD_mem (l := tl) (i := q) (by omega)
    have v1 := ht _ e1
    refine ⟨by omega, ?_⟩
    rcases zEnds_mem L (getD_mem hi) with q | ⟨j, hj, q⟩
    · omega
    · exact ⟨j, hj, q.symm⟩
end
