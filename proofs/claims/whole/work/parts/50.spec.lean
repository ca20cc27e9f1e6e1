/-! THE MATHEMATICS OF THE DOCUMENT, in whole numbers. A record is a function of the field's number, as the class numbers them. -/
/-- a row's slots: fields 1 piece, 2 turn, 3 x, 4 y, 5 z, 6 right, 7 top, 8 front, 9 width, 10 height, 11 depth, 12 weight, 13 stop, 14 limit, 15 bears -/
abbrev zR : Type := Nat → Nat → Int
def zSh (a b : Nat → Int) : Bool := decide ((a 3 < b 6 ∧ b 3 < a 6) ∧ (a 5 < b 8 ∧ b 5 < a 8) ∧ a 4 < b 7 ∧ b 4 < a 7)
def zOv (a b : Nat → Int) : Bool := decide (b 7 ≤ a 4 ∧ (a 3 < b 6 ∧ b 3 < a 6) ∧ a 5 < b 8 ∧ b 5 < a 8)
def zSt (a b : Nat → Int) : Bool := decide (b 13 < a 13 ∧ b 8 ≤ a 5 ∧ (a 3 < b 6 ∧ b 3 < a 6) ∧ a 4 < b 7 ∧ b 4 < a 7)
def zLn (a b c e : Int) : Int := min b e - max a c
def zRe (a b : Nat → Int) : Int := if a 4 = b 7 ∧ 0 < zLn (a 3) (a 6) (b 3) (b 6) ∧ 0 < zLn (a 5) (a 8) (b 5) (b 8) then zLn (a 3) (a 6) (b 3) (b 6) * zLn (a 5) (a 8) (b 5) (b 8) else 0
def zSum (f : Nat → Int) : Nat → Int
  | 0 => 0
  | n + 1 => zSum f n + f n
def zAll (f : Nat → Bool) : Nat → Bool
  | 0 => true
  | n + 1 => zAll f n && f n
def zPast (a b : Nat → Int) : Bool := decide (b 4 < a 4 ∨ a 4 = b 4 ∧ (b 5 < a 5 ∨ a 5 = b 5 ∧ b 3 < a 3))
/-- may the piece c come behind the row of L pieces R -/
def zAdm (L : Nat) (R : zR) (c : Nat → Int) : Bool :=
  (decide (L = 0) || zPast c (R (L - 1))) && (decide (c 4 = 0 ∨ zSum (fun i => zRe c (R i)) L = c 9 * c 11) && (zAll (fun i => !zSh c (R i)) L && (zAll (fun i => !(decide (R i 14 < R i 15 + c 12) && zOv c (R i))) L && zAll (fun i => !(zSt c (R i) || zSt (R i) c)) L)))
def zInB (B : Nat → Int) (c : Nat → Int) : Bool := decide (c 6 ≤ B 0 ∧ c 7 ≤ B 1 ∧ c 8 ≤ B 2)
/-- a piece's spans in a turn; its fields 3 width, 4 height, 5 depth, 6 weight, 7 marks, 8 stop, 9 limit -/
def zW (p : Nat → Int) (t : Nat) : Int := if t = 1 ∨ t = 3 then p 5 else if t = 2 ∨ t = 5 then p 4 else p 3
def zH (p : Nat → Int) (t : Nat) : Int := if t = 2 ∨ t = 3 then p 3 else if t = 4 ∨ t = 5 then p 5 else p 4
def zD (p : Nat → Int) (t : Nat) : Int := if t = 1 ∨ t = 5 then p 3 else if t = 3 ∨ t = 4 then p 4 else p 5
def zAlw (p : Nat → Int) (t : Nat) : Bool := decide (t = 0 ∨ (t = 1 ∧ p 7 % 2 = 1) ∨ (1 < t ∧ 2 ≤ p 7))
def zLk (p : Nat → Int) (t u : Nat) : Bool := decide (zW p t = zW p u ∧ zH p t = zH p u ∧ zD p t = zD p u)
def zGd (B : Nat → Int) (p : Nat → Int) (t : Nat) : Bool :=
  (zAlw p t && zAll (fun u => !(zAlw p u && zLk p u t)) t) && decide (zW p t ≤ B 0 ∧ zH p t ≤ B 1 ∧ zD p t ≤ B 2)
def zFits (B : Nat → Int) (p : Nat → Int) : Int := zSum (fun t => if zGd B p t = true then 1 else 0) 6
def zC (P : Nat → Nat → Int) (p t : Nat) (x y z : Int) : Nat → Int := fun k =>
  if k = 1 then (p : Int) else if k = 2 then (t : Int) else if k = 3 then x else if k = 4 then y else if k = 5 then z
  else if k = 6 then x + zW (P p) t else if k = 7 then y + zH (P p) t else if k = 8 then z + zD (P p) t
  else if k = 9 then zW (P p) t else if k = 10 then zH (P p) t else if k = 11 then zD (P p) t
  else if k = 12 then P p 6 else if k = 13 then P p 8 else if k = 14 then P p 9 else 0
def zPush (L : Nat) (R : zR) (c : Nat → Int) : zR := fun i =>
  if i = L then c else fun k => if k = 15 ∧ i < L ∧ zOv c (R i) = true then R i k + c 12 else R i k
def zVol (L : Nat) (R : zR) : Int := zSum (fun i => R i 9 * R i 10 * R i 11) L
def zMom (L : Nat) (R : zR) : Int := zSum (fun i => R i 12 * (2 * R i 4 + R i 10)) L
/-- the ends on an axis (field k): 0 and the ends of the pieces, rising, each once -/
def zIns (e : Int) : List Int → List Int
  | [] => [e]
  | a :: r => if a < e then a :: zIns e r else if a = e then a :: r else e :: a :: r
def zEnds (R : zR) (k : Nat) : Nat → List Int
  | 0 => [0]
  | n + 1 => zIns (R n k) (zEnds R k n)
/-- a search's state: steps made, spent, the best (length, row, volume, moment) -/
abbrev zS : Type := Nat × Bool × Nat × zR × Int × Int
def zBt (v m v2 m2 : Int) : Bool := decide (v2 < v ∨ v = v2 ∧ m < m2)
def zCmp (L : Nat) (R : zR) (s : zS) : zS := if zBt (zVol L R) (zMom L R) s.2.2.2.2.1 s.2.2.2.2.2 = true then (s.1, s.2.1, L, R, zVol L R, zMom L R) else s
def zHas (L : Nat) (R : zR) (p : Nat) : Bool := !zAll (fun i => !decide (R i 1 = (p : Int))) L
/-- a place of level f (8 - L) tried: go is what searches behind -/
def zTry (go : Nat → zR → zS → zS) (told : Nat) (B : Nat → Int) (L : Nat) (R : zR) (c : Nat → Int) (s : zS) : zS :=
  if s.2.1 = true then s else if (zInB B c && zAdm L R c) = true then
    (if told ≤ s.1 then (s.1, true, s.2.2) else go (L + 1) (zPush L R c) (zCmp (L + 1) (zPush L R c) (s.1 + 1, s.2)))
  else s
/-- the places of a piece as it is turned, in their order: by y, by z, by x -/
def zPl (R : zR) (L : Nat) (P : Nat → Nat → Int) (p t : Nat) : List (Nat → Int) :=
  (zEnds R 7 L).flatMap (fun y => (zEnds R 8 L).flatMap (fun z => (zEnds R 6 L).map (fun x => zC P p t x y z)))
/-- all places of a level, in their order -/
def zLv (B : Nat → Int) (n : Nat) (P : Nat → Nat → Int) (L : Nat) (R : zR) : List (Nat → Int) :=
  (List.range n).flatMap (fun p => if zHas L R p = true then [] else (List.range 6).flatMap (fun t => if zGd B (P p) t = true then zPl R L P p t else []))
def zGo (told : Nat) (B : Nat → Int) (n : Nat) (P : Nat → Nat → Int) : Nat → Nat → zR → zS → zS
  | 0, _, _, s => s
  | f + 1, L, R, s => (zLv B n P L R).foldl (fun s c => zTry (zGo told B n P f) told B L R c s) s
def zPack (told : Nat) (B : Nat → Int) (n : Nat) (P : Nat → Nat → Int) : zS := zGo told B n P 8 0 (fun _ _ => 0) (0, false, 0, (fun _ _ => 0), 0, 0)
/-! sums, and all of them -/
theorem zAll_iff (f : Nat → Bool) : ∀ n, zAll f n = true ↔ ∀ i, i < n → f i = true := by
  intro n
  induction n with
  | zero => exact ⟨fun _ i hi => absurd hi (Nat.not_lt_zero i), fun _ => rfl⟩
  | succ n ih =>
    simp only [zAll, Bool.and_eq_true, ih]
    constructor
    · rintro ⟨h1, h2⟩ i hi
      by_cases e : i = n
      · rw [e]; exact h2
      · exact h1 i (by omega)
    · intro H
      exact ⟨fun i hi => H i (by omega), H n (by omega)⟩
theorem zSum_congr {f g : Nat → Int} : ∀ n, (∀ i, i < n → f i = g i) → zSum f n = zSum g n := by
  intro n
  induction n with
  | zero => intro _; rfl
  | succ n ih =>
    intro H
    simp only [zSum]
    rw [ih (fun i hi => H i (by omega)), H n (by omega)]
theorem zAll_congr {f g : Nat → Bool} : ∀ n, (∀ i, i < n → f i = g i) → zAll f n = zAll g n := by
  intro n
  induction n with
  | zero => intro _; rfl
  | succ n ih =>
    intro H
    simp only [zAll]
    rw [ih (fun i hi => H i (by omega)), H n (by omega)]
theorem zSum_le {f g : Nat → Int} : ∀ n, (∀ i, i < n → f i ≤ g i) → zSum f n ≤ zSum g n := by
  intro n
  induction n with
  | zero => intro _; exact Int.le_refl _
  | succ n ih =>
    intro H
    simp only [zSum]
    have := ih (fun i hi => H i (by omega))
    have := H n (by omega)
    omega
theorem zSum_add (f g : Nat → Int) : ∀ n, zSum (fun i => f i + g i) n = zSum f n + zSum g n := by
  intro n
  induction n with
  | zero => rfl
  | succ n ih => simp only [zSum, ih]; omega
theorem zSum_zero : ∀ n, zSum (fun _ => 0) n = 0 := by
  intro n
  induction n with
  | zero => rfl
  | succ n ih => simp only [zSum, ih]; rfl
theorem zSum_swap (f : Nat → Nat → Int) (m : Nat) : ∀ n, zSum (fun i => zSum (f i) m) n = zSum (fun j => zSum (fun i => f i j) n) m := by
  intro n
  induction n with
  | zero => simp only [zSum]; exact (zSum_zero m).symm
  | succ n ih => simp only [zSum, ih]; exact (zSum_add _ _ m).symm
/-- a search that is spent goes on no more -/
theorem zTry_spent {go : Nat → zR → zS → zS} {told : Nat} {B : Nat → Int} {L : Nat} {R : zR} {c : Nat → Int} {s : zS} (h : s.2.1 = true) : zTry go told B L R c s = s := by
  rw [zTry, if_pos h]
theorem zFold_spent {go : Nat → zR → zS → zS} {told : Nat} {B : Nat → Int} {L : Nat} {R : zR} {s : zS} (h : s.2.1 = true) : ∀ l : List (Nat → Int), l.foldl (fun s c => zTry go told B L R c s) s = s := by
  intro l
  induction l with
  | nil => rfl
  | cons c l ih => rw [List.foldl_cons, zTry_spent h]; exact ih
