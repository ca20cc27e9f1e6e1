/-! THE REFERENCE: WHAT IS LEFT OF A LEVEL -/
section
variable {d : Nat} {h h' : mm_H} {Q : mm_Q} {L n a b q t u i r e j k na bL told p : Nat} {W A : Nat → Int} {m mk : Int} {R bR : zR} {P : Nat → Nat → Int} {sp : Bool} {T : Nat → Prop} {x2 x3 x4 : Int32} {l : List Int} {c : Nat} {x y z v w : Int} {C : Nat → Int}
theorem fm_get {α β : Type} {g : α → List β} {N : Nat} (h0 : 0 < N) : ∀ (l : List α), (∀ a, a ∈ l → (g a).length = N) → ∀ c, (l.flatMap g)[c]? = (l[c / N]?).bind (fun a => (g a)[c % N]?) := by
  intro l
  induction l with
  | nil => intro _ c; simp
  | cons a l ih =>
    intro H c
    have ha := H a (List.mem_cons_self ..)
    rw [List.flatMap_cons, List.getElem?_append, ha]
    by_cases hc : c < N
    · rw [if_pos hc, Nat.div_eq_of_lt hc, Nat.mod_eq_of_lt hc]; rfl
    · rw [if_neg hc, ih (fun b hb => H b (List.mem_cons_of_mem _ hb))]
      have e1 : c / N = (c - N) / N + 1 := by rw [Nat.div_eq c N, if_pos ⟨h0, by omega⟩]
      have e2 : c % N = (c - N) % N := by rw [Nat.mod_eq c N, if_pos ⟨h0, by omega⟩]
      rw [e1, e2, List.getElem?_cons_succ]
theorem fm_len {α β : Type} {g : α → List β} {N : Nat} : ∀ (l : List α), (∀ a, a ∈ l → (g a).length = N) → (l.flatMap g).length = l.length * N := by
  intro l
  induction l with
  | nil => intro _; simp
  | cons a l ih =>
    intro H
    rw [List.flatMap_cons, List.length_append, H a (List.mem_cons_self ..), ih (fun b hb => H b (List.mem_cons_of_mem _ hb)), List.length_cons, Nat.succ_mul, Nat.add_comm]
theorem zPl_len : (zPl R L P p t).length = (zEnds R 6 L).length * (zEnds R 7 L).length * (zEnds R 8 L).length := by
  rw [zPl, fm_len (N := (zEnds R 8 L).length * (zEnds R 6 L).length) _ (fun y _ => by rw [fm_len (N := (zEnds R 6 L).length) _ (fun z _ => by rw [List.length_map])])]
  rw [Nat.mul_comm (zEnds R 6 L).length, Nat.mul_assoc, Nat.mul_comm (zEnds R 6 L).length]
/-- the place with the number c -/
def zCn (R : zR) (L : Nat) (P : Nat → Nat → Int) (p t c : Nat) : Nat → Int := zC P p t ((zEnds R 6 L).getD (c % (zEnds R 6 L).length) 0) ((zEnds R 7 L).getD (c / (zEnds R 6 L).length / (zEnds R 8 L).length) 0) ((zEnds R 8 L).getD (c / (zEnds R 6 L).length % (zEnds R 8 L).length) 0)
theorem zPl_get (hc : c < (zPl R L P p t).length) : (zPl R L P p t).drop c = zCn R L P p t c :: (zPl R L P p t).drop (c + 1) := by
  have l6 := zEnds_len R 6 L
  have l7 := zEnds_len R 7 L
  have l8 := zEnds_len R 8 L
  rw [List.drop_eq_getElem_cons hc]
  congr 1
  have e : (zPl R L P p t)[c]? = some (zCn R L P p t c) := by
    rw [zPl_len] at hc
    have hy : c / (zEnds R 6 L).length / (zEnds R 8 L).length < (zEnds R 7 L).length := by
      rw [Nat.div_div_eq_div_mul, Nat.div_lt_iff_lt_mul (Nat.mul_pos (by omega) (by omega))]
      rw [Nat.mul_assoc, Nat.mul_comm (zEnds R 7 L).length, ← Nat.mul_assoc, Nat.mul_comm] at hc
      exact hc
    have hx : c % (zEnds R 6 L).length < (zEnds R 6 L).length := Nat.mod_lt _ (by omega)
    have hz : c / (zEnds R 6 L).length % (zEnds R 8 L).length < (zEnds R 8 L).length := Nat.mod_lt _ (by omega)
    have d1 : c / ((zEnds R 8 L).length * (zEnds R 6 L).length) = c / (zEnds R 6 L).length / (zEnds R 8 L).length := by rw [Nat.div_div_eq_div_mul, Nat.mul_comm]
    have d2 : c % ((zEnds R 8 L).length * (zEnds R 6 L).length) / (zEnds R 6 L).length = c / (zEnds R 6 L).length % (zEnds R 8 L).length := by rw [Nat.mul_comm, Nat.mod_mul_right_div_self]
    have d3 : c % ((zEnds R 8 L).length * (zEnds R 6 L).length) % (zEnds R 6 L).length = c % (zEnds R 6 L).length := Nat.mod_mul_left_mod c (zEnds R 8 L).length (zEnds R 6 L).length
    rw [zPl, fm_get (N := (zEnds R 8 L).length * (zEnds R 6 L).length) (Nat.mul_pos (by omega) (by omega)) _ (fun y _ => by rw [fm_len (N := (zEnds R 6 L).length) _ (fun z _ => by rw [List.length_map])])]
    rw [d1, List.getElem?_eq_getElem hy, Option.bind_some, fm_get (N := (zEnds R 6 L).length) (by omega) _ (fun z _ => by rw [List.length_map])]
    rw [d2, d3, List.getElem?_eq_getElem hz, Option.bind_some, List.getElem?_map, List.getElem?_eq_getElem hx]
    simp only [Option.map_some, zCn, List.getD_eq_getElem?_getD, List.getElem?_eq_getElem hx, List.getElem?_eq_getElem hy, List.getElem?_eq_getElem hz, Option.getD_some]
  rw [List.getElem?_eq_getElem hc] at e
  exact Option.some.inj e
/-- what is left of a level, from the piece p, the turn t, the corner c on -/
def zRt (W : Nat → Int) (P : Nat → Nat → Int) (L : Nat) (R : zR) (p : Nat) (l : List Nat) : List (Nat → Int) := l.flatMap (fun t => if zGd W (P p) t = true then zPl R L P p t else [])
def zRq' (W : Nat → Int) (P : Nat → Nat → Int) (L : Nat) (R : zR) (l : List Nat) : List (Nat → Int) := l.flatMap (fun p => if zHas L R p = true then [] else zRt W P L R p (List.range 6))
def zRm (W : Nat → Int) (n : Nat) (P : Nat → Nat → Int) (L : Nat) (R : zR) (p t c : Nat) : List (Nat → Int) := (if zHas L R p = true then [] else (if t < 6 ∧ zGd W (P p) t = true then (zPl R L P p t).drop c else []) ++ zRt W P L R p ((List.range 6).drop (t + 1))) ++ zRq' W P L R ((List.range n).drop (p + 1))
theorem zRm_all : zRq' W P L R (List.range n) = zLv W n P L R := rfl
theorem zRt_0 : (if (0 : Nat) < 6 ∧ zGd W (P p) 0 = true then (zPl R L P p 0).drop 0 else []) ++ zRt W P L R p ((List.range 6).drop (0 + 1)) = zRt W P L R p (List.range 6) := by
  have e : List.range 6 = 0 :: (List.range 6).drop (0 + 1) := rfl
  conv => rhs; rw [e]
  rw [zRt, zRt, List.flatMap_cons]
  congr 1
  by_cases g : zGd W (P p) 0 = true
  · rw [if_pos ⟨by omega, g⟩, if_pos g, List.drop_zero]
  · rw [if_neg (fun q => g q.2), if_neg g]
/-- the level from its begin -/
theorem zRm_0 (hp : p < n) : zRm W n P L R p 0 0 = zRq' W P L R ((List.range n).drop p) := by
  rw [zRm, zRt_0, range_drop hp]
  rfl
theorem zRm_next (hp : p < n) (h : zHas L R p = true ∨ t = 6) : zRm W n P L R p t c = zRq' W P L R ((List.range n).drop (p + 1)) := by
  rw [zRm]
  rcases h with h | h
  · rw [if_pos h]; rfl
  · subst h
    have e : (List.range 6).drop (6 + 1) = [] := rfl
    rw [e]
    by_cases g : zHas L R p = true
    · rw [if_pos g]; rfl
    · rw [if_neg g, if_neg (fun q => absurd q.1 (by omega))]; rfl
theorem zRm_turn (t6 : t < 6) (h : c = (zPl R L P p t).length ∨ zGd W (P p) t = false) : zRm W n P L R p t c = zRm W n P L R p (t + 1) 0 := by
  rw [zRm, zRm]
  congr 1
  by_cases g : zHas L R p = true
  · rw [if_pos g, if_pos g]
  · rw [if_neg g, if_neg g]
    have e1 : (if t < 6 ∧ zGd W (P p) t = true then (zPl R L P p t).drop c else []) = [] := by
      rcases h with h | h
      · split
        · rw [h, List.drop_length]
        · rfl
      · rw [if_neg (fun q => by rw [h] at q; exact absurd q.2 (by decide))]
    rw [e1, List.nil_append]
    by_cases t5 : t + 1 < 6
    · rw [range_drop t5, zRt, List.flatMap_cons]
      congr 1
      by_cases g2 : zGd W (P p) (t + 1) = true
      · rw [if_pos g2, if_pos (show t + 1 < 6 ∧ zGd W (P p) (t + 1) = true from ⟨t5, g2⟩), List.drop_zero]
      · rw [if_neg g2, if_neg (show ¬ (t + 1 < 6 ∧ zGd W (P p) (t + 1) = true) from fun q => g2 q.2)]
    · obtain rfl : t = 5 := by omega
      rfl
theorem zRm_c (t6 : t < 6) (hg : zGd W (P p) t = true) (hh : zHas L R p = false) (hc : c < (zPl R L P p t).length) : zRm W n P L R p t c = zCn R L P p t c :: zRm W n P L R p t (c + 1) := by
  have nh : ¬ zHas L R p = true := by rw [hh]; decide
  have tg : t < 6 ∧ zGd W (P p) t = true := ⟨t6, hg⟩
  rw [zRm, zRm, if_neg nh, if_neg nh, if_pos tg, if_pos tg, zPl_get hc]
  rfl
/-- places passed over: none of them may be -/
def zSkp (W : Nat → Int) (L : Nat) (R : zR) (l l' : List (Nat → Int)) : Prop := ∃ sk, l = sk ++ l' ∧ ∀ C, C ∈ sk → (zInB W C && zAdm L R C) = false
theorem zSkp.refl {l : List (Nat → Int)} : zSkp W L R l l := ⟨[], rfl, fun C hC => absurd hC (by simp)⟩
theorem zSkp.cons {l l' : List (Nat → Int)} (H : zSkp W L R l l') (hC : (zInB W C && zAdm L R C) = false) : zSkp W L R (C :: l) l' := by
  obtain ⟨sk, e, hs⟩ := H
  refine ⟨C :: sk, by rw [e]; rfl, fun D hD => ?_⟩
  rcases List.mem_cons.mp hD with q | q
  · rw [q]; exact hC
  · exact hs D q
theorem zSkp.fold {G : Nat → zR → zS → zS} {s : zS} {l l' : List (Nat → Int)} (H : zSkp W L R l l') : l.foldl (fun s c => zTry G told W L R c s) s = l'.foldl (fun s c => zTry G told W L R c s) s := by
  obtain ⟨sk, e, hs⟩ := H
  rw [e, List.foldl_append, fold_id sk (fun C hC => zTry_no (hs C hC))]
end
