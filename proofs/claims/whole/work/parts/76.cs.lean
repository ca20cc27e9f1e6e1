/-! THE STATE OF THE CLASS'S SEARCH -/
/-- what a search's state keeps: the best row's numbers -/
def zSw (s : zS) : Prop := s.2.2.1 ≤ 8 ∧ (∀ i, i < s.2.2.1 → zOk (s.2.2.2.1 i)) ∧ s.2.2.2.2.1 = zVol s.2.2.1 s.2.2.2.1 ∧ s.2.2.2.2.2 = zMom s.2.2.1 s.2.2.2.1
/-- box, cargo, pieces as the class holds them -/
def zCg (h : mm_H) (W : Nat → Int) (n : Nat) (P : Nat → Nat → Int) : Prop := (∀ k, k < 3 → mm_i h 2 k = zI (W k)) ∧ mm_i h 3 1 = nI n ∧ (∀ p, p < n → zPc h (5 + 2 * p) (P p)) ∧ ∀ p t, p < n → t < 6 → mm_i h (6 + 2 * p) t = bI (zGd W (P p) t)
def zEs (h : mm_H) (R : zR) (L : Nat) : Prop := ∀ j, j ≤ L → j < 8 → zEd h 42 j (zEnds R 6 j) ∧ zEd h 53 j (zEnds R 7 j) ∧ zEd h 64 j (zEnds R 8 j)
def zNu (h : mm_H) : Prop := ∀ i, i < 8 → mm_i h (24 + i) 0 = nI i ∧ mm_i h (34 + i) 0 = nI i
def zCS (h : mm_H) (W : Nat → Int) (n : Nat) (P : Nat → Nat → Int) (told L : Nat) (R : zR) (s : zS) : Prop := zSK h ∧ zCg h W n P ∧ zRv h 22 L R ∧ zRv h 32 s.2.2.1 s.2.2.2.1 ∧ zEs h R L ∧ zNu h ∧ mm_i h 21 8 = nI told ∧ mm_i h 21 9 = nI s.1 ∧ mm_i h 21 10 = bI s.2.1
def zT (L : Nat) (x : Nat) : Prop := 21 ≤ x ∧ x < 140 ∧ (x < 76 ∨ 76 + 8 * L ≤ x)
/-- ends: how many, and in range -/
theorem zEnds_len (R : zR) (k : Nat) : ∀ n, 1 ≤ (zEnds R k n).length ∧ (zEnds R k n).length ≤ n + 1 := by
  intro n
  induction n with
  | zero => exact ⟨Nat.le_refl _, Nat.le_refl _⟩
  | succ n ih =>
    have := zIns_len (R n k) (zEnds R k n)
    simp only [zEnds]
    omega
theorem zIns_mem {E v : Int} : ∀ l : List Int, v ∈ zIns E l → v = E ∨ v ∈ l := by
  intro l
  induction l with
  | nil => intro h; simp only [zIns, List.mem_singleton] at h; exact Or.inl h
  | cons a l ih =>
    intro h
    simp only [zIns] at h
    split at h
    · rcases List.mem_cons.mp h with e | e
      · exact Or.inr (e ▸ List.mem_cons_self ..)
      · rcases ih e with q | q
        · exact Or.inl q
        · exact Or.inr (List.mem_cons_of_mem _ q)
    · split at h
      · exact Or.inr h
      · rcases List.mem_cons.mp h with e | e
        · exact Or.inl e
        · exact Or.inr e
theorem zEnds_mem {R : zR} {k : Nat} {v : Int} : ∀ n, v ∈ zEnds R k n → v = 0 ∨ ∃ i, i < n ∧ v = R i k := by
  intro n
  induction n with
  | zero => intro h; simp only [zEnds, List.mem_singleton] at h; exact Or.inl h
  | succ n ih =>
    intro h
    rcases zIns_mem _ h with e | e
    · exact Or.inr ⟨n, by omega, e⟩
    · rcases ih e with q | ⟨i, hi, q⟩
      · exact Or.inl q
      · exact Or.inr ⟨i, by omega, q⟩
theorem zEnds_congr {R R' : zR} {k : Nat} : ∀ n, (∀ i, i < n → R i k = R' i k) → zEnds R k n = zEnds R' k n := by
  intro n
  induction n with
  | zero => intro _; rfl
  | succ n ih => intro h; simp only [zEnds]; rw [ih (fun i hi => h i (by omega)), h n (by omega)]
theorem getD_mem {l : List Int} {i : Nat} (h : i < l.length) : l.getD i 0 ∈ l := by
  rw [List.getD_eq_getElem?_getD, List.getElem?_eq_getElem h]
  exact List.getElem_mem h
theorem zEnds_r {W : Nat → Int} {L : Nat} {R : zR} (H : zInv W L R) {k n i : Nat} (hk : k = 6 ∨ k = 7 ∨ k = 8) (hn : n ≤ L) (hi : i < (zEnds R k n).length) : 0 ≤ (zEnds R k n).getD i 0 ∧ (zEnds R k n).getD i 0 ≤ 600 := by
  rcases zEnds_mem n (getD_mem hi) with e | ⟨j, hj, e⟩
  · rw [e]; omega
  · have o := H.ok j (by omega)
    simp only [zOk] at o
    rw [e]
    rcases hk with rfl | rfl | rfl <;> omega
