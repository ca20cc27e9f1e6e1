/-! AREAS: what lies on faces that do not overlap lies within them -/
theorem zSum_mulL (a : Int) (f : Nat → Int) : ∀ n, zSum (fun i => a * f i) n = a * zSum f n := by
  intro n
  induction n with
  | zero => simp only [zSum, Int.mul_zero]
  | succ n ih => simp only [zSum, ih, Int.mul_add]
theorem zSum_mulR (a : Int) (f : Nat → Int) : ∀ n, zSum (fun i => f i * a) n = zSum f n * a := by
  intro n
  induction n with
  | zero => simp only [zSum, Int.zero_mul]
  | succ n ih => simp only [zSum, ih, Int.add_mul]
theorem zSum_one (a : Int) : ∀ n : Nat, zSum (fun _ => a) n = n * a := by
  intro n
  induction n with
  | zero => simp only [zSum]; omega
  | succ n ih => simp only [zSum, ih]; rw [Int.natCast_succ, Int.add_mul, Int.one_mul]
def zIn (c e v : Int) : Int := if c ≤ v ∧ v < e then 1 else 0
theorem zIn_sum (a c e : Int) : ∀ n : Nat, zSum (fun x => zIn c e (a + x)) n = max 0 (zLn a (a + n) c e) := by
  intro n
  induction n with
  | zero => simp only [zSum, zLn]; omega
  | succ n ih =>
    simp only [zSum]
    rw [ih]
    simp only [zIn, zLn]
    split <;> omega
/-- at most one -/
theorem zSum_most (f : Nat → Int) : ∀ n, (∀ i, i < n → f i = 0 ∨ f i = 1) → (∀ i j, i < n → j < n → f i = 1 → f j = 1 → i = j) → zSum f n ≤ 1 ∧ ((∀ i, i < n → f i = 0) → zSum f n = 0) := by
  intro n
  induction n with
  | zero => intro _ _; exact ⟨by simp only [zSum]; omega, fun _ => rfl⟩
  | succ n ih =>
    intro h1 h2
    obtain ⟨i1, i2⟩ := ih (fun i hi => h1 i (by omega)) (fun i j hi hj => h2 i j (by omega) (by omega))
    simp only [zSum]
    constructor
    · rcases h1 n (by omega) with e | e
      · omega
      · have : zSum f n = 0 := i2 (fun i hi => by
          rcases h1 i (by omega) with g | g
          · exact g
          · have := h2 i n (by omega) (by omega) g e
            omega)
        omega
    · intro H
      rw [i2 (fun i hi => H i (by omega)), H n (by omega)]
      rfl
/-- faces at one height do not overlap -/
def zFlat (L : Nat) (R : zR) (y : Int) : Prop := ∀ i j, i < L → j < L → R i 7 = y → R j 7 = y → i ≠ j → ¬ ((R i 3 < R j 6 ∧ R j 3 < R i 6) ∧ R i 5 < R j 8 ∧ R j 5 < R i 8)
theorem zRe_cells (c b : Nat → Int) (n m : Nat) (hn : c 6 = c 3 + n) (hm : c 8 = c 5 + m) : zRe c b = zSum (fun x => zSum (fun z => (if c 4 = b 7 then 1 else 0) * (zIn (b 3) (b 6) (c 3 + x) * zIn (b 5) (b 8) (c 5 + z))) m) n := by
  have e1 : ∀ x : Nat, zSum (fun z => (if c 4 = b 7 then 1 else 0) * (zIn (b 3) (b 6) (c 3 + x) * zIn (b 5) (b 8) (c 5 + z))) m = (if c 4 = b 7 then 1 else 0) * (zIn (b 3) (b 6) (c 3 + x) * max 0 (zLn (c 5) (c 8) (b 5) (b 8))) := by
    intro x
    rw [zSum_mulL, zSum_mulL (zIn (b 3) (b 6) (c 3 + x)), zIn_sum, hm]
  rw [zSum_congr n (fun x _ => e1 x), zSum_mulL, zSum_mulR, zIn_sum, ← hn]
  simp only [zRe]
  generalize zLn (c 3) (c 6) (b 3) (b 6) = u
  generalize zLn (c 5) (c 8) (b 5) (b 8) = v
  by_cases hy : c 4 = b 7
  · rw [if_pos hy, Int.one_mul]
    by_cases hu : 0 < u
    · by_cases hv : 0 < v
      · rw [if_pos ⟨hy, hu, hv⟩, show max 0 u = u by omega, show max 0 v = v by omega]
      · rw [if_neg (fun H => hv H.2.2), show max 0 v = 0 by omega, Int.mul_zero]
    · rw [if_neg (fun H => hu H.2.1), show max 0 u = 0 by omega, Int.zero_mul]
  · rw [if_neg hy, if_neg (fun H => hy H.1), Int.zero_mul]
theorem zRe_area {L : Nat} {R : zR} {c : Nat → Int} (hf : zFlat L R (c 4)) (h3 : c 3 ≤ c 6) (h5 : c 5 ≤ c 8) : zSum (fun i => zRe c (R i)) L ≤ (c 6 - c 3) * (c 8 - c 5) := by
  obtain ⟨n, hn⟩ := Int.eq_ofNat_of_zero_le (show 0 ≤ c 6 - c 3 by omega)
  obtain ⟨m, hm⟩ := Int.eq_ofNat_of_zero_le (show 0 ≤ c 8 - c 5 by omega)
  rw [zSum_congr L (fun i _ => zRe_cells c (R i) n m (by omega) (by omega)), zSum_swap]
  rw [hn, hm]
  have e : ((n : Int) * (m : Int)) = zSum (fun _ => zSum (fun _ => 1) m) n := by
    rw [zSum_one, zSum_one, Int.mul_one]
  rw [e]
  refine zSum_le n (fun x hx => ?_)
  rw [zSum_swap]
  refine zSum_le m (fun z hz => ?_)
  refine (zSum_most _ L (fun i hi => ?_) (fun i j hi hj h1 h2 => ?_)).1
  · simp only [zIn]
    split <;> split <;> split <;> simp
  · refine Classical.byContradiction (fun hij => ?_)
    simp only [zIn] at h1 h2
    by_cases a1 : c 4 = R i 7
    · by_cases a2 : R i 3 ≤ c 3 + x ∧ c 3 + x < R i 6
      · by_cases a3 : R i 5 ≤ c 5 + z ∧ c 5 + z < R i 8
        · by_cases b1 : c 4 = R j 7
          · by_cases b2 : R j 3 ≤ c 3 + x ∧ c 3 + x < R j 6
            · by_cases b3 : R j 5 ≤ c 5 + z ∧ c 5 + z < R j 8
              · exact hf i j hi hj a1.symm b1.symm hij (by omega)
              · rw [if_neg b3, Int.mul_zero, Int.mul_zero] at h2; omega
            · rw [if_neg b2, Int.zero_mul, Int.mul_zero] at h2; omega
          · rw [if_neg b1, Int.zero_mul] at h2; omega
        · rw [if_neg a3, Int.mul_zero, Int.mul_zero] at h1; omega
      · rw [if_neg a2, Int.zero_mul, Int.mul_zero] at h1; omega
    · rw [if_neg a1, Int.zero_mul] at h1; omega
/-- a field set -/
def zUp (c : Nat → Int) (k : Nat) (v : Int) : Nat → Int := fun j => if j = k then v else c j
/-- what stands whole stands within bounds that all faces keep: each of the four sides -/
theorem zStand {L : Nat} {R : zR} {c : Nat → Int} (hf : zFlat L R (c 4)) (h3 : c 3 < c 6) (h5 : c 5 < c 8) (hs : zSum (fun i => zRe c (R i)) L = (c 6 - c 3) * (c 8 - c 5)) (k : Nat) (hk : k = 3 ∨ k = 5 ∨ k = 6 ∨ k = 8) (b : Int) (hb : ∀ i, i < L → R i 7 = c 4 → if k = 3 ∨ k = 5 then b ≤ R i k else R i k ≤ b) : if k = 3 ∨ k = 5 then b ≤ c k else c k ≤ b := by
  have key : ∀ v : Int, (∀ i, i < L → zRe c (R i) = zRe (zUp c k v) (R i)) → (zUp c k v) 3 ≤ (zUp c k v) 6 → (zUp c k v) 5 ≤ (zUp c k v) 8 → (zUp c k v) 4 = c 4 → ((zUp c k v) 6 - (zUp c k v) 3) * ((zUp c k v) 8 - (zUp c k v) 5) < (c 6 - c 3) * (c 8 - c 5) → False := by
    intro v hv g1 g2 g3 g4
    have := zRe_area (L := L) (R := R) (c := zUp c k v) (by rw [g3]; exact hf) g1 g2
    rw [← zSum_congr L hv, hs] at this
    omega
  have P : 0 < c 6 - c 3 := by omega
  have Q : 0 < c 8 - c 5 := by omega
  rcases hk with rfl | rfl | rfl | rfl
  · have hb' : ∀ i, i < L → R i 7 = c 4 → b ≤ R i 3 := hb
    refine Classical.byContradiction (fun hc0 => ?_)
    have hc : ¬ b ≤ c 3 := hc0
    refine key (min b (c 6)) (fun i hi => ?_) ?_ ?_ rfl ?_
    · have := hb' i hi
      simp only [zRe, show zUp c 3 (min b (c 6)) 3 = (min b (c 6)) from rfl, show zUp c 3 (min b (c 6)) 4 = c 4 from rfl, show zUp c 3 (min b (c 6)) 5 = c 5 from rfl, show zUp c 3 (min b (c 6)) 6 = c 6 from rfl, show zUp c 3 (min b (c 6)) 7 = c 7 from rfl, show zUp c 3 (min b (c 6)) 8 = c 8 from rfl]
      by_cases hy : c 4 = R i 7
      · have hl : 0 < zLn (c 3) (c 6) (R i 3) (R i 6) ↔ 0 < zLn (min b (c 6)) (c 6) (R i 3) (R i 6) := by
          have := this hy.symm
          simp only [zLn]
          omega
        by_cases hq : 0 < zLn (c 3) (c 6) (R i 3) (R i 6)
        · have : zLn (c 3) (c 6) (R i 3) (R i 6) = zLn (min b (c 6)) (c 6) (R i 3) (R i 6) := by
            have := this hy.symm
            simp only [zLn] at hq ⊢
            omega
          rw [this]
        · rw [if_neg (fun H => hq H.2.1), if_neg (fun H => hq (hl.mpr H.2.1))]
      · rw [if_neg (fun H => hy H.1), if_neg (fun H => hy H.1)]
    · simp only [show zUp c 3 (min b (c 6)) 3 = (min b (c 6)) from rfl, show zUp c 3 (min b (c 6)) 4 = c 4 from rfl, show zUp c 3 (min b (c 6)) 5 = c 5 from rfl, show zUp c 3 (min b (c 6)) 6 = c 6 from rfl, show zUp c 3 (min b (c 6)) 7 = c 7 from rfl, show zUp c 3 (min b (c 6)) 8 = c 8 from rfl]; omega
    · simp only [show zUp c 3 (min b (c 6)) 3 = (min b (c 6)) from rfl, show zUp c 3 (min b (c 6)) 4 = c 4 from rfl, show zUp c 3 (min b (c 6)) 5 = c 5 from rfl, show zUp c 3 (min b (c 6)) 6 = c 6 from rfl, show zUp c 3 (min b (c 6)) 7 = c 7 from rfl, show zUp c 3 (min b (c 6)) 8 = c 8 from rfl]; omega
    · simp only [show zUp c 3 (min b (c 6)) 3 = (min b (c 6)) from rfl, show zUp c 3 (min b (c 6)) 4 = c 4 from rfl, show zUp c 3 (min b (c 6)) 5 = c 5 from rfl, show zUp c 3 (min b (c 6)) 6 = c 6 from rfl, show zUp c 3 (min b (c 6)) 7 = c 7 from rfl, show zUp c 3 (min b (c 6)) 8 = c 8 from rfl]
      exact Int.mul_lt_mul_of_pos_right (by omega) Q
  · have hb' : ∀ i, i < L → R i 7 = c 4 → b ≤ R i 5 := hb
    refine Classical.byContradiction (fun hc0 => ?_)
    have hc : ¬ b ≤ c 5 := hc0
    refine key (min b (c 8)) (fun i hi => ?_) ?_ ?_ rfl ?_
    · have := hb' i hi
      simp only [zRe, show zUp c 5 (min b (c 8)) 3 = c 3 from rfl, show zUp c 5 (min b (c 8)) 4 = c 4 from rfl, show zUp c 5 (min b (c 8)) 5 = (min b (c 8)) from rfl, show zUp c 5 (min b (c 8)) 6 = c 6 from rfl, show zUp c 5 (min b (c 8)) 7 = c 7 from rfl, show zUp c 5 (min b (c 8)) 8 = c 8 from rfl]
      by_cases hy : c 4 = R i 7
      · have hl : 0 < zLn (c 5) (c 8) (R i 5) (R i 8) ↔ 0 < zLn (min b (c 8)) (c 8) (R i 5) (R i 8) := by
          have := this hy.symm
          simp only [zLn]
          omega
        by_cases hq : 0 < zLn (c 5) (c 8) (R i 5) (R i 8)
        · have : zLn (c 5) (c 8) (R i 5) (R i 8) = zLn (min b (c 8)) (c 8) (R i 5) (R i 8) := by
            have := this hy.symm
            simp only [zLn] at hq ⊢
            omega
          rw [this]
        · rw [if_neg (fun H => hq H.2.2), if_neg (fun H => hq (hl.mpr H.2.2))]
      · rw [if_neg (fun H => hy H.1), if_neg (fun H => hy H.1)]
    · simp only [show zUp c 5 (min b (c 8)) 3 = c 3 from rfl, show zUp c 5 (min b (c 8)) 4 = c 4 from rfl, show zUp c 5 (min b (c 8)) 5 = (min b (c 8)) from rfl, show zUp c 5 (min b (c 8)) 6 = c 6 from rfl, show zUp c 5 (min b (c 8)) 7 = c 7 from rfl, show zUp c 5 (min b (c 8)) 8 = c 8 from rfl]; omega
    · simp only [show zUp c 5 (min b (c 8)) 3 = c 3 from rfl, show zUp c 5 (min b (c 8)) 4 = c 4 from rfl, show zUp c 5 (min b (c 8)) 5 = (min b (c 8)) from rfl, show zUp c 5 (min b (c 8)) 6 = c 6 from rfl, show zUp c 5 (min b (c 8)) 7 = c 7 from rfl, show zUp c 5 (min b (c 8)) 8 = c 8 from rfl]; omega
    · simp only [show zUp c 5 (min b (c 8)) 3 = c 3 from rfl, show zUp c 5 (min b (c 8)) 4 = c 4 from rfl, show zUp c 5 (min b (c 8)) 5 = (min b (c 8)) from rfl, show zUp c 5 (min b (c 8)) 6 = c 6 from rfl, show zUp c 5 (min b (c 8)) 7 = c 7 from rfl, show zUp c 5 (min b (c 8)) 8 = c 8 from rfl]
      exact Int.mul_lt_mul_of_pos_left (by omega) P
  · have hb' : ∀ i, i < L → R i 7 = c 4 → R i 6 ≤ b := hb
    refine Classical.byContradiction (fun hc0 => ?_)
    have hc : ¬ c 6 ≤ b := hc0
    refine key (max b (c 3)) (fun i hi => ?_) ?_ ?_ rfl ?_
    · have := hb' i hi
      simp only [zRe, show zUp c 6 (max b (c 3)) 3 = c 3 from rfl, show zUp c 6 (max b (c 3)) 4 = c 4 from rfl, show zUp c 6 (max b (c 3)) 5 = c 5 from rfl, show zUp c 6 (max b (c 3)) 6 = (max b (c 3)) from rfl, show zUp c 6 (max b (c 3)) 7 = c 7 from rfl, show zUp c 6 (max b (c 3)) 8 = c 8 from rfl]
      by_cases hy : c 4 = R i 7
      · have hl : 0 < zLn (c 3) (c 6) (R i 3) (R i 6) ↔ 0 < zLn (c 3) (max b (c 3)) (R i 3) (R i 6) := by
          have := this hy.symm
          simp only [zLn]
          omega
        by_cases hq : 0 < zLn (c 3) (c 6) (R i 3) (R i 6)
        · have : zLn (c 3) (c 6) (R i 3) (R i 6) = zLn (c 3) (max b (c 3)) (R i 3) (R i 6) := by
            have := this hy.symm
            simp only [zLn] at hq ⊢
            omega
          rw [this]
        · rw [if_neg (fun H => hq H.2.1), if_neg (fun H => hq (hl.mpr H.2.1))]
      · rw [if_neg (fun H => hy H.1), if_neg (fun H => hy H.1)]
    · simp only [show zUp c 6 (max b (c 3)) 3 = c 3 from rfl, show zUp c 6 (max b (c 3)) 4 = c 4 from rfl, show zUp c 6 (max b (c 3)) 5 = c 5 from rfl, show zUp c 6 (max b (c 3)) 6 = (max b (c 3)) from rfl, show zUp c 6 (max b (c 3)) 7 = c 7 from rfl, show zUp c 6 (max b (c 3)) 8 = c 8 from rfl]; omega
    · simp only [show zUp c 6 (max b (c 3)) 3 = c 3 from rfl, show zUp c 6 (max b (c 3)) 4 = c 4 from rfl, show zUp c 6 (max b (c 3)) 5 = c 5 from rfl, show zUp c 6 (max b (c 3)) 6 = (max b (c 3)) from rfl, show zUp c 6 (max b (c 3)) 7 = c 7 from rfl, show zUp c 6 (max b (c 3)) 8 = c 8 from rfl]; omega
    · simp only [show zUp c 6 (max b (c 3)) 3 = c 3 from rfl, show zUp c 6 (max b (c 3)) 4 = c 4 from rfl, show zUp c 6 (max b (c 3)) 5 = c 5 from rfl, show zUp c 6 (max b (c 3)) 6 = (max b (c 3)) from rfl, show zUp c 6 (max b (c 3)) 7 = c 7 from rfl, show zUp c 6 (max b (c 3)) 8 = c 8 from rfl]
      exact Int.mul_lt_mul_of_pos_right (by omega) Q
  · have hb' : ∀ i, i < L → R i 7 = c 4 → R i 8 ≤ b := hb
    refine Classical.byContradiction (fun hc0 => ?_)
    have hc : ¬ c 8 ≤ b := hc0
    refine key (max b (c 5)) (fun i hi => ?_) ?_ ?_ rfl ?_
    · have := hb' i hi
      simp only [zRe, show zUp c 8 (max b (c 5)) 3 = c 3 from rfl, show zUp c 8 (max b (c 5)) 4 = c 4 from rfl, show zUp c 8 (max b (c 5)) 5 = c 5 from rfl, show zUp c 8 (max b (c 5)) 6 = c 6 from rfl, show zUp c 8 (max b (c 5)) 7 = c 7 from rfl, show zUp c 8 (max b (c 5)) 8 = (max b (c 5)) from rfl]
      by_cases hy : c 4 = R i 7
      · have hl : 0 < zLn (c 5) (c 8) (R i 5) (R i 8) ↔ 0 < zLn (c 5) (max b (c 5)) (R i 5) (R i 8) := by
          have := this hy.symm
          simp only [zLn]
          omega
        by_cases hq : 0 < zLn (c 5) (c 8) (R i 5) (R i 8)
        · have : zLn (c 5) (c 8) (R i 5) (R i 8) = zLn (c 5) (max b (c 5)) (R i 5) (R i 8) := by
            have := this hy.symm
            simp only [zLn] at hq ⊢
            omega
          rw [this]
        · rw [if_neg (fun H => hq H.2.2), if_neg (fun H => hq (hl.mpr H.2.2))]
      · rw [if_neg (fun H => hy H.1), if_neg (fun H => hy H.1)]
    · simp only [show zUp c 8 (max b (c 5)) 3 = c 3 from rfl, show zUp c 8 (max b (c 5)) 4 = c 4 from rfl, show zUp c 8 (max b (c 5)) 5 = c 5 from rfl, show zUp c 8 (max b (c 5)) 6 = c 6 from rfl, show zUp c 8 (max b (c 5)) 7 = c 7 from rfl, show zUp c 8 (max b (c 5)) 8 = (max b (c 5)) from rfl]; omega
    · simp only [show zUp c 8 (max b (c 5)) 3 = c 3 from rfl, show zUp c 8 (max b (c 5)) 4 = c 4 from rfl, show zUp c 8 (max b (c 5)) 5 = c 5 from rfl, show zUp c 8 (max b (c 5)) 6 = c 6 from rfl, show zUp c 8 (max b (c 5)) 7 = c 7 from rfl, show zUp c 8 (max b (c 5)) 8 = (max b (c 5)) from rfl]; omega
    · simp only [show zUp c 8 (max b (c 5)) 3 = c 3 from rfl, show zUp c 8 (max b (c 5)) 4 = c 4 from rfl, show zUp c 8 (max b (c 5)) 5 = c 5 from rfl, show zUp c 8 (max b (c 5)) 6 = c 6 from rfl, show zUp c 8 (max b (c 5)) 7 = c 7 from rfl, show zUp c 8 (max b (c 5)) 8 = (max b (c 5)) from rfl]
      exact Int.mul_lt_mul_of_pos_left (by omega) P
