/-! MAKING THE OBJECTS -/
section
variable {d : Nat} {h h' h0 : mm_H} {Q : mm_Q} {N z a b k r e i : Nat} {S S' T T' : Nat → Nat → Prop} {w0 w1 w2 : Int32}
/-- the numbers that the cells begin with -/
def kV (w0 w1 w2 : Int32) (a k : Nat) : Int32 := if a = 2 ∨ a = 143 then (if k = 0 then w0 else if k = 1 then w1 else if k = 2 then w2 else 0) else if a = 21 ∧ k = 9 then -1 else if 24 ≤ a ∧ a < 32 ∧ k = 0 then nI (a - 24) else if 34 ≤ a ∧ a < 42 ∧ k = 0 then nI (a - 34) else if (a = 52 ∨ a = 63 ∨ a = 74) ∧ k = 0 then 1 else 0
/-- the cells below N are made; S: references that are still to be set, T: numbers that are still to be set -/
def zBI (w0 w1 w2 : Int32) (h0 h : mm_H) (N z : Nat) (S T : Nat → Nat → Prop) : Prop := mm_n h = N ∧ mm_z h = mm_z h0 + z ∧ 1 ≤ N ∧ (∀ a, 1 ≤ a → a < N → mm_s h a = kS a) ∧ (∀ a k b, 1 ≤ a → a < N → kR a k = some b → ¬ S a k → mm_r h a k = some b) ∧ (∀ a k, 1 ≤ a → a < N → ¬ T a k → mm_i h a k = kV w0 w1 w2 a k) ∧ (∀ a k, 1 ≤ a → a < N → mm_l h a k = 0) ∧ mm_s h 0 = mm_s h0 0 ∧ ∀ k, mm_i h 0 k = mm_i h0 0 k
theorem zBI.s (H : zBI w0 w1 w2 h0 h N z S T) (h1 : 1 ≤ a) (h2 : a < N) : mm_s h a = kS a := H.2.2.2.1 a h1 h2
theorem zBI.re (H : zBI w0 w1 w2 h0 h N z S T) (h1 : 1 ≤ a) (h2 : a < N) (h3 : kR a k = some b) (h4 : ¬ S a k) : mm_r h a k = some b := H.2.2.2.2.1 a k b h1 h2 h3 h4
theorem zBI.mono (H : zBI w0 w1 w2 h0 h N z S T) (hS : ∀ a k, a < N → S a k → S' a k) (hT : ∀ a k, a < N → T a k → T' a k) : zBI w0 w1 w2 h0 h N z S' T' := by
  obtain ⟨h1, h2, h3, h4, h5, h6, h7, h8, h9⟩ := H
  exact ⟨h1, h2, h3, h4, fun a k b a1 a2 e q => h5 a k b a1 a2 e (fun p => q (hS a k a2 p)), fun a k a1 a2 q => h6 a k a1 a2 (fun p => q (hT a k a2 p)), h7, h8, h9⟩
theorem zBI.nw {kd len sl : Nat} (H : zBI w0 w1 w2 h0 h N z S T) (hk : kS N = (kd, len)) : zBI w0 w1 w2 h0 (mm_nw h kd len sl) (N + 1) (z + sl) (fun a k => S a k ∨ (a = N ∧ ¬ kR N k = none)) (fun a k => T a k ∨ (a = N ∧ ¬ kV w0 w1 w2 N k = 0)) := by
  obtain ⟨h1, h2, h3, h4, h5, h6, h7, h8, h9⟩ := H
  refine ⟨by rw [mm_n_nw, h1], by rw [mm_z_nw, h2]; omega, by omega, fun a a1 a2 => ?_, fun a k b a1 a2 e q => ?_, fun a k a1 a2 q => ?_, fun a k a1 a2 => ?_, ?_, fun k => ?_⟩
  · rw [mm_s_nw, h1]
    by_cases e : a = N
    · rw [if_pos e, e, hk]
    · rw [if_neg e]; exact h4 a a1 (by omega)
  · rw [mm_r_nw, h1]
    by_cases e' : a = N
    · subst e'
      exact absurd (Or.inr ⟨rfl, by rw [e]; simp⟩) q
    · rw [if_neg e']; exact h5 a k b a1 (by omega) e (fun p => q (Or.inl p))
  · rw [mm_i_nw, h1]
    by_cases e' : a = N
    · subst e'
      rw [if_pos rfl]
      by_cases e2 : kV w0 w1 w2 a k = 0
      · rw [e2]
      · exact absurd (Or.inr ⟨rfl, e2⟩) q
    · rw [if_neg e']; exact h6 a k a1 (by omega) (fun p => q (Or.inl p))
  · rw [mm_l_nw, h1]
    by_cases e' : a = N
    · rw [if_pos e']
    · rw [if_neg e']; exact h7 a k a1 (by omega)
  · rw [mm_s_nw, h1, if_neg (by omega)]; exact h8
  · rw [mm_i_nw, h1, if_neg (by omega)]; exact h9 k
/-- a cell with neither references nor numbers of its own -/
theorem zBI.nw0 {kd len sl : Nat} (H : zBI w0 w1 w2 h0 h N z S T) (hk : kS N = (kd, len)) (hr : ∀ k, kR N k = none) (hv : ∀ k, kV w0 w1 w2 N k = 0) : zBI w0 w1 w2 h0 (mm_nw h kd len sl) (N + 1) (z + sl) S T := (H.nw (sl := sl) hk).mono (fun a k _ q => q.resolve_right (fun p => p.2 (hr k))) (fun a k _ q => q.resolve_right (fun p => p.2 (hv k)))
theorem zBI.pr (H : zBI w0 w1 w2 h0 h N z S T) (ha : 1 ≤ a) (hk : kR a k = some b) : zBI w0 w1 w2 h0 (mm_pr h a k (some b)) N z (fun x y => S x y ∧ ¬ (x = a ∧ y = k)) T := by
  obtain ⟨h1, h2, h3, h4, h5, h6, h7, h8, h9⟩ := H
  refine ⟨h1, h2, h3, h4, fun x y c a1 a2 e q => ?_, h6, h7, h8, h9⟩
  rw [mm_r_pr]
  by_cases e' : x = a ∧ y = k
  · obtain ⟨rfl, rfl⟩ := e'
    rw [if_pos ⟨rfl, rfl⟩, ← hk, e]
  · rw [if_neg e']; exact h5 x y c a1 a2 e (fun p => q ⟨p, e'⟩)
theorem zBI.pi {v : Int32} (H : zBI w0 w1 w2 h0 h N z S T) (ha : 1 ≤ a) (hk : kV w0 w1 w2 a k = v) : zBI w0 w1 w2 h0 (mm_pi h a k v) N z S (fun x y => T x y ∧ ¬ (x = a ∧ y = k)) := by
  obtain ⟨h1, h2, h3, h4, h5, h6, h7, h8, h9⟩ := H
  refine ⟨h1, h2, h3, h4, h5, fun x y a1 a2 q => ?_, h7, h8, fun k => ?_⟩
  · rw [mm_i_pi]
    by_cases e' : x = a ∧ y = k
    · obtain ⟨rfl, rfl⟩ := e'
      rw [if_pos ⟨rfl, rfl⟩, hk]
    · rw [if_neg e']; exact h6 x y a1 a2 (fun p => q ⟨p, e'⟩)
  · rw [mm_i_pi, if_neg (by omega)]; exact h9 k
theorem zBI.nw2 (H : zBI w0 w1 w2 h0 h N z S T) (hk : kS N = (26, 8)) (hk2 : ∀ i, i < 8 → kS (N + 1 + i) = (20, 8)) (hr : ∀ k b, kR N k = some b → k < 8 ∧ b = N + 1 + k) (hr2 : ∀ i k, i < 8 → kR (N + 1 + i) k = none) (hv : ∀ i k, i < 9 → kV w0 w1 w2 (N + i) k = 0) : zBI w0 w1 w2 h0 (mm_nw2 h 26 20 8 8) (N + 9) (z + 72) S T := by
  obtain ⟨h1, h2, h3, h4, h5, h6, h7, h8, h9⟩ := H
  have n1 : (h.1.1 : Nat) = N := h1
  refine ⟨by show h.1.1 + 1 + 8 = N + 9; omega, by show mm_z h + 8 + 8 * 8 = _; rw [h2]; omega, by omega, fun a a1 a2 => ?_, fun a k b a1 a2 e q => ?_, fun a k a1 a2 q => ?_, fun a k a1 a2 => ?_, ?_, fun k => ?_⟩
  · show (if a = h.1.1 then (26, 8) else if h.1.1 < a ∧ a ≤ h.1.1 + 8 then (20, 8) else mm_s h a) = kS a
    rw [n1]
    by_cases e : a = N
    · rw [if_pos e, e, hk]
    · rw [if_neg e]
      by_cases e2 : N < a ∧ a ≤ N + 8
      · rw [if_pos e2]
        have := hk2 (a - N - 1) (by omega)
        rw [show N + 1 + (a - N - 1) = a by omega] at this
        exact this.symm
      · rw [if_neg e2]; exact h4 a a1 (by omega)
  · show (if a = h.1.1 then (if k < 8 then some (h.1.1 + 1 + k) else none) else if h.1.1 ≤ a ∧ a ≤ h.1.1 + 8 then none else mm_r h a k) = some b
    rw [n1]
    by_cases e1 : a = N
    · subst e1
      obtain ⟨q1, q2⟩ := hr k b e
      rw [if_pos rfl, if_pos q1, q2]
    · rw [if_neg e1]
      by_cases e2 : N ≤ a ∧ a ≤ N + 8
      · have := hr2 (a - N - 1) k (by omega)
        rw [show N + 1 + (a - N - 1) = a by omega, e] at this
        exact absurd this (by simp)
      · rw [if_neg e2]; exact h5 a k b a1 (by omega) e q
  · show (if h.1.1 ≤ a ∧ a ≤ h.1.1 + 8 then 0 else mm_i h a k) = kV w0 w1 w2 a k
    rw [n1]
    by_cases e2 : N ≤ a ∧ a ≤ N + 8
    · have := hv (a - N) k (by omega)
      rw [show N + (a - N) = a by omega] at this
      rw [if_pos e2, this]
    · rw [if_neg e2]; exact h6 a k a1 (by omega) q
  · show (if h.1.1 ≤ a ∧ a ≤ h.1.1 + 8 then 0 else mm_l h a k) = 0
    rw [n1]
    by_cases e2 : N ≤ a ∧ a ≤ N + 8
    · rw [if_pos e2]
    · rw [if_neg e2]; exact h7 a k a1 (by omega)
  · show (if 0 = h.1.1 then (26, 8) else if h.1.1 < 0 ∧ 0 ≤ h.1.1 + 8 then (20, 8) else mm_s h 0) = mm_s h0 0
    rw [n1, if_neg (by omega), if_neg (by omega)]; exact h8
  · show (if h.1.1 ≤ 0 ∧ 0 ≤ h.1.1 + 8 then 0 else mm_i h 0 k) = mm_i h0 0 k
    rw [n1, if_neg (by omega)]; exact h9 k
/-- which references there are -/
def kRP1 (a k b : Nat) : Bool := decide ((a = 1 ∧ (k = 0 ∧ b = 2 ∨ k = 1 ∧ b = 3 ∨ k = 2 ∧ b = 21 ∨ k = 3 ∧ b = 140)) ∨ (a = 3 ∧ k = 0 ∧ b = 4) ∨ (a = 4 ∧ k < 8 ∧ b = 5 + 2 * k) ∨ (5 ≤ a ∧ a < 21 ∧ a % 2 = 1 ∧ (k = 0 ∧ b = 2 ∨ k = 1 ∧ b = a + 1)))
def kRP2 (a k b : Nat) : Bool := decide (a = 21 ∧ (k = 0 ∧ b = 2 ∨ k = 1 ∧ b = 3 ∨ k = 2 ∧ b = 22 ∨ k = 3 ∧ b = 32 ∨ k = 4 ∧ b = 42 ∨ k = 5 ∧ b = 53 ∨ k = 6 ∧ b = 64 ∨ k = 7 ∧ b = 75))
def kRP3 (a k b : Nat) : Bool := decide (((a = 22 ∨ a = 32) ∧ k = 0 ∧ b = a + 1) ∨ ((a = 23 ∨ a = 33) ∧ k < 8 ∧ b = a + 1 + k) ∨ ((a = 42 ∨ a = 53 ∨ a = 64) ∧ (k = 0 ∧ b = a + 1 ∨ k = 1 ∧ b = a + 10)) ∨ ((a = 43 ∨ a = 54 ∨ a = 65) ∧ k < 8 ∧ b = a + 1 + k))
def kRP4 (a k b : Nat) : Bool := decide ((a = 75 ∧ k < 64 ∧ b = 76 + k) ∨ (a = 140 ∧ k = 0 ∧ b = 141) ∨ (a = 142 ∧ 143 ≤ b ∧ b < 167))
def kRP (a k b : Nat) : Bool := kRP1 a k b || (kRP2 a k b || (kRP3 a k b || kRP4 a k b))
theorem kRl_len : ∀ l, l ∈ kRl → l.length ≤ 64 := by decide +kernel
theorem kR_64 (h : 64 ≤ k) : kR a k = none := by
  rw [kR]
  have : (kRl.getD a []).length ≤ 64 := by
    by_cases ha : a < kRl.length
    · rw [List.getD_eq_getElem?_getD, List.getElem?_eq_getElem ha, Option.getD_some]
      exact kRl_len _ (List.getElem_mem ha)
    · rw [List.getD_eq_getElem?_getD, List.getElem?_eq_none (by omega)]; simp
  rw [List.getD_eq_getElem?_getD, List.getElem?_eq_none (by omega)]; rfl
theorem kR_tab : ∀ a, a < 168 → ∀ k, k < 64 → (match kR a k with | none => true | some b => kRP a k b) = true := by decide +kernel
theorem kR_p (e : kR a k = some b) : kRP a k b = true := by
  have ha := kR_lt a k b e
  by_cases hk : k < 64
  · have := kR_tab a ha k hk
    rw [e] at this
    exact this
  · rw [kR_64 (by omega)] at e
    exact absurd e (by simp)
theorem kR_no (h : ∀ b, kRP a k b = false) : kR a k = none := by
  cases e : kR a k with
  | none => rfl
  | some b => have := kR_p e; rw [h b] at this; exact absurd this (by decide)
end
