/-! THE REFERENCE: A LEVEL SEARCHED -/
section
variable {d : Nat} {h h' : mm_H} {Q : mm_Q} {L n a b q t u i r e j k na bL told p : Nat} {W A : Nat → Int} {m mk : Int} {R bR : zR} {P : Nat → Nat → Int} {sp : Bool} {T : Nat → Prop} {x2 x3 x4 : Int32} {l : List Int} {c : Nat} {h'' : mm_H} {s : zS} {x y z v w : Int} {C : Nat → Int}
/-- how many pieces are left -/
def zLf (n L : Nat) (R : zR) : Prop := zSum (fun p => if zHas L R p = true then 0 else 1) n = (n : Int) - (L : Int)
theorem zSum_pt {f g : Nat → Int} (hq : f q = 1) (gq : g q = 0) (e : ∀ i, ¬ i = q → g i = f i) : ∀ n, zSum g n = zSum f n - (if q < n then 1 else 0) := by
  intro n
  induction n with
  | zero => simp [zSum]
  | succ n ih =>
    simp only [zSum, ih]
    by_cases h : n = q
    · subst h
      rw [hq, gq, if_neg (by omega), if_pos (by omega)]; omega
    · rw [e n h]
      by_cases h2 : q < n
      · rw [if_pos h2, if_pos (by omega)]; omega
      · rw [if_neg h2, if_neg (by omega)]; omega
theorem zLf_push (H : zLf n L R) (hq : q < n) (hh : zHas L R q = false) (hC : C 1 = (q : Int)) : zLf n (L + 1) (zPush L R C) := by
  have := zSum_pt (f := fun p => if zHas L R p = true then (0 : Int) else 1) (g := fun p => if zHas (L + 1) (zPush L R C) p = true then (0 : Int) else 1) (q := q) (by rw [hh]; rfl) (by rw [zHas_push, hh, hC, decide_eq_true rfl]; rfl) (fun i hi => by rw [zHas_push, hC, decide_eq_false (by omega), Bool.or_false]) n
  rw [if_pos hq] at this
  simp only [zLf] at *
  omega
theorem zLf_full (H : zLf n L R) (h8 : L = 8) (hn : n ≤ 8) : ∀ p, p < n → zHas L R p = true := by
  have key : ∀ m, (0 ≤ zSum (fun p => if zHas L R p = true then (0 : Int) else 1) m) ∧ (zSum (fun p => if zHas L R p = true then (0 : Int) else 1) m ≤ 0 → ∀ p, p < m → zHas L R p = true) := by
    intro m
    induction m with
    | zero => exact ⟨Int.le_refl _, fun _ p hp => absurd hp (Nat.not_lt_zero p)⟩
    | succ m ih =>
      simp only [zSum]
      by_cases g : zHas L R m = true
      · rw [if_pos g]
        refine ⟨by have := ih.1; omega, fun q p hp => ?_⟩
        by_cases e : p = m
        · rw [e]; exact g
        · exact ih.2 (by omega) p (by omega)
      · rw [if_neg g]
        exact ⟨by have := ih.1; omega, fun q => by have := ih.1; omega⟩
  refine (key n).2 ?_
  simp only [zLf] at H
  omega
theorem zRq_full : ∀ l : List Nat, (∀ p, p ∈ l → zHas L R p = true) → zRq' W P L R l = [] := by
  intro l
  induction l with
  | nil => intro _; rfl
  | cons a l ih =>
    intro H
    rw [zRq', List.flatMap_cons, if_pos (H a (List.mem_cons_self ..)), List.nil_append]
    exact ih (fun p hp => H p (List.mem_cons_of_mem _ hp))
theorem zRr_full (H : ∀ p, p < n → zHas L R p = true) : zRr W n P L R p t c = [] := by
  rw [zRr]
  split
  · rename_i hp
    rw [zRm, if_pos (H p hp), List.nil_append]
    exact zRq_full _ (fun q hq => H q (by have := List.mem_of_mem_drop hq; simpa using this))
  · rfl
theorem zRP_push (H : zRP P n L R) (hq : q < n) (t6 : t < 6) : zRP P n (L + 1) (zPush L R (zC P q t x y z)) := by
  intro k hk
  by_cases e : k = L
  · subst e
    rw [zPush_L]
    exact ⟨q, t, hq, t6, rfl, rfl, rfl, rfl, rfl, rfl, rfl, rfl⟩
  · have hk' : k < L := by omega
    obtain ⟨q', t', h1, h2, h3, h4, h5, h6, h7, h8, h9, h10⟩ := H k hk'
    refine ⟨q', t', h1, h2, ?_, ?_, ?_, ?_, ?_, ?_, ?_, ?_⟩ <;> rw [zPush_k hk' (by decide)] <;> assumption
/-- the frame of a level's search -/
def zFL (L : Nat) (h h' : mm_H) : Prop := zFm (fun k => k = 8 ∨ (21 ≤ k ∧ k < 26)) (fun x => (149 ≤ x ∧ x < 165) ∨ x = 166) h h' ∧ (∀ i, i < 27 * L → mm_i h' 158 i = mm_i h 158 i) ∧ (∀ i, i < 3 * L → mm_i h' 159 i = mm_i h 159 i) ∧ ∀ x, 155 ≤ x → x < 158 → ∀ i, i < L → mm_i h' x i = mm_i h x i
theorem zFL.refl : zFL L h h := ⟨zFm.refl, fun _ _ => rfl, fun _ _ => rfl, fun _ _ _ _ _ => rfl⟩
theorem zFL.trans (F : zFL L h h') (G : zFL L h' h'') : zFL L h h'' := ⟨F.1.trans G.1, fun i hi => (G.2.1 i hi).trans (F.2.1 i hi), fun i hi => (G.2.2.1 i hi).trans (F.2.2.1 i hi), fun x x1 x2 i hi => (G.2.2.2 x x1 x2 i hi).trans (F.2.2.2 x x1 x2 i hi)⟩
theorem zFL.dn (F : zFL (L + 1) h h') : zFL L h h' := ⟨F.1, fun i hi => F.2.1 i (by omega), fun i hi => F.2.2.1 i (by omega), fun x x1 x2 i hi => F.2.2.2 x x1 x2 i (by omega)⟩
theorem zFn.fL (F : zFn L h h') : zFL L h h' := by
  refine ⟨⟨F.1.mono (fun a ha => by omega), fun k _ => ⟨F.1.i (by omega) k, F.1.l (by omega) k⟩⟩, fun i hi => F.1.i (by omega) i, fun i hi => F.1.i (by omega) i, fun x x1 x2 i hi => F.2 x x1 x2 i (by omega)⟩
theorem zFm.fL {K T : Nat → Prop} (F : zFm K T h h') (hK : ∀ k, K k → k = 8 ∨ (21 ≤ k ∧ k < 26)) (hT : ∀ x, T x → 149 ≤ x ∧ x < 165 ∧ ¬ (155 ≤ x ∧ x < 160)) : zFL L h h' := by
  have nt : ∀ x, 155 ≤ x → x < 160 → ¬ (x = 142 ∨ T x) := fun x x1 x2 q => by
    rcases q with q | q
    · omega
    · exact (hT x q).2.2 ⟨x1, x2⟩
  refine ⟨F.mono hK (fun x hx => Or.inl ⟨(hT x hx).1, (hT x hx).2.1⟩), fun i hi => F.1.i (nt _ (by omega) (by omega)) i, fun i hi => F.1.i (nt _ (by omega) (by omega)) i, fun x x1 x2 i hi => F.1.i (nt x x1 (by omega)) i⟩
/-- what the search has found so far, as the reference keeps it -/
def zMz (h : mm_H) (s : zS) : Prop := zMb h s.2.2.1 s.2.2.2.1 ∧ mm_i h 142 22 = nI s.1 ∧ mm_i h 142 21 = bI s.2.1
theorem zMz.fm {K T : Nat → Prop} (H : zMz h s) (F : zFm K T h h') (hK : ∀ k, 21 ≤ k → k < 26 → ¬ K k) (hT : ∀ x, 160 ≤ x → x < 165 → ¬ T x) : zMz h' s := ⟨H.1.fm F ⟨hK 23 (by omega) (by omega), hK 24 (by omega) (by omega), hK 25 (by omega) (by omega)⟩ hT, by rw [(F.2 22 (hK 22 (by omega) (by omega))).1]; exact H.2.1, by rw [(F.2 21 (hK 21 (by omega) (by omega))).1]; exact H.2.2⟩
theorem zMg.fm {K T : Nat → Prop} (H : zMg h W n P) (F : zFm K T h h') (hK : ¬ K 2) (hT : ∀ x, 143 ≤ x → x < 149 → ¬ T x) : zMg h' W n P := H.fr F.1 (fun x x1 x2 q => by rcases q with q | q; omega; exact hT x x1 x2 q) (F.2 2 hK).1
/-- places tried in a level with f levels above -/
def zFo (told : Nat) (W : Nat → Int) (n : Nat) (P : Nat → Nat → Int) (f : Nat) (L : Nat) (R : zR) (l : List (Nat → Int)) (s : zS) : zS := match f with
  | 0 => s
  | f + 1 => l.foldl (fun s c => zTry (zGo told W n P f) told W L R c s) s
theorem zFo_go {f : Nat} : zFo told W n P f L R (zLv W n P L R) s = zGo told W n P f L R s := by
  cases f <;> rfl
theorem zFo_skp {f : Nat} {l l' : List (Nat → Int)} (H : zSkp W L R l l') : zFo told W n P f L R l s = zFo told W n P f L R l' s := by
  cases f
  · rfl
  · exact H.fold
theorem c126_lv (hn : n ≤ 8) (hPk : ∀ p, p < n → zPok (P p)) (wk : zWok W) (ht : told ≤ 1000) : ∀ f L, f + L = 8 → ∀ m R h s p t c (v3 : Value), (zRr W n P L R p t c).length ≤ m → p ≤ n → t ≤ 6 → c ≤ ((zEnds R 6 L).length * (zEnds R 7 L).length * (zEnds R 8 L).length) → zMs h W n P L R → zMn h L p t c → zMz h s → zSq told s → s.2.1 = false → zInv W L R → zRP P n L R → zLf n L R →
    (∀ h' (v3 : Value), (zFo told W n P f L R (zRr W n P L R p t c) s).2.1 = false → zMs h' W n P L R → zMz h' (zFo told W n P f L R (zRr W n P L R p t c) s) → zSq told (zFo told W n P f L R (zRr W n P L R p t c) s) → zFL L h h' → mm_wp (d + 4) 126 179 [.ref 142, .int (nI told), .int 1, v3] [] h' Q) →
    (∀ h' (v3 : Value), (zFo told W n P f L R (zRr W n P L R p t c) s).2.1 = true → zSK h' → zMg h' W n P → zMz h' (zFo told W n P f L R (zRr W n P L R p t c) s) → zFL L h h' → mm_wp (d + 4) 126 80 [.ref 142, .int (nI told), .int 0, v3] [] h' Q) →
    mm_wp (d + 4) 126 80 [.ref 142, .int (nI told), .int 1, v3] [] h Q := by
  intro f
  induction f with
  | zero =>
    intro L hf m R h s p t c v3 hm hp h6 hc hS hN hZ hq hsp hV hRP hLf K1 K2
    have er : zRr W n P L R p t c = [] := zRr_full (zLf_full hLf (by omega) hn)
    rw [s126_80]
    simp only [s126_81, s126_84, s126_85, or_true, true_or, true_and, and_true, mm_o_some, mm_o_none, mm_bk_v, mm_bk_n, Nat.reduceAdd, if_neg n10, kS142 hS.1]
    refine c128z hn hPk wk hV hRP hS hN hp h6 hc _ _ _ _ _ _ (fun h1 p1 t1 c1 F1 N1 a1 a2 a3 T1 a4 a5 a6 sk => ?_) (fun h1 F1 sk => ?_)
    · rw [er] at sk
      obtain ⟨sk, e, _⟩ := sk
      simp at e
    · simp only [s126_88, s126_91, s126_92, s126_95, s126_96, s126_99, s126_100, s126_101, s126_104, s126_105, s126_106, or_true, true_or, true_and, and_true, mm_o_some, mm_o_none, mm_bk_v, mm_bk_n, Nat.reduceAdd, if_true]
      have G1 : zFm (fun _ => False) (fun x => (155 ≤ x ∧ x < 158) ∨ x = 166) h h1 := F1.1.fm (by omega)
      refine K1 h1 _ hsp (hS.fn F1) (hZ.fm G1 (fun _ _ _ q => q) (fun x x1 x2 => by omega)) hq F1.fL
  | succ f ihf =>
    intro L hf m
    have h8 : L < 8 := by omega
    induction m with
    | zero =>
      intro R h s p t c v3 hm hp h6 hc hS hN hZ hq hsp hV hRP hLf K1 K2
      have er : zRr W n P L R p t c = [] := List.eq_nil_of_length_eq_zero (by omega)
      rw [s126_80]
      simp only [s126_81, s126_84, s126_85, or_true, true_or, true_and, and_true, mm_o_some, mm_o_none, mm_bk_v, mm_bk_n, Nat.reduceAdd, if_neg n10, kS142 hS.1]
      refine c128z hn hPk wk hV hRP hS hN hp h6 hc _ _ _ _ _ _ (fun h1 p1 t1 c1 F1 N1 a1 a2 a3 T1 a4 a5 a6 sk => ?_) (fun h1 F1 sk => ?_)
      · rw [er] at sk
        obtain ⟨sk, e, _⟩ := sk
        simp at e
      · simp only [s126_88, s126_91, s126_92, s126_95, s126_96, s126_99, s126_100, s126_101, s126_104, s126_105, s126_106, or_true, true_or, true_and, and_true, mm_o_some, mm_o_none, mm_bk_v, mm_bk_n, Nat.reduceAdd, if_true]
        have G1 : zFm (fun _ => False) (fun x => (155 ≤ x ∧ x < 158) ∨ x = 166) h h1 := F1.1.fm (by omega)
        rw [er] at K1
        refine K1 h1 _ hsp (hS.fn F1) (hZ.fm G1 (fun _ _ _ q => q) (fun x x1 x2 => by omega)) hq F1.fL
    | succ m ihm =>
      intro R h s p t c v3 hm hp h6 hc hS hN hZ hq hsp hV hRP hLf K1 K2
      rw [s126_80]
      simp only [s126_81, s126_84, s126_85, or_true, true_or, true_and, and_true, mm_o_some, mm_o_none, mm_bk_v, mm_bk_n, Nat.reduceAdd, if_neg n10, kS142 hS.1]
      refine c128z hn hPk wk hV hRP hS hN hp h6 hc _ _ _ _ _ _ (fun h1 p1 t1 c1 F1 N1 a1 a2 a3 T1 a4 a5 a6 sk => ?_) (fun h1 F1 sk => ?_)
      · have l6 := zEnds_len R 6 L
        have l7 := zEnds_len R 7 L
        have l8 := zEnds_len R 8 L
        have all9 : ((zEnds R 6 L).length * (zEnds R 7 L).length * (zEnds R 8 L).length) < 1000 := by
          have b1 : (zEnds R 6 L).length * (zEnds R 7 L).length ≤ 9 * 9 := Nat.mul_le_mul (by omega) (by omega)
          have b2 : ((zEnds R 6 L).length * (zEnds R 7 L).length * (zEnds R 8 L).length) ≤ 9 * 9 * 9 := Nat.mul_le_mul b1 (by omega)
          omega
        have S1 := hS.fn F1
        have G1 : zFm (fun _ => False) (fun x => (155 ≤ x ∧ x < 158) ∨ x = 166) h h1 := F1.1.fm (by omega)
        have Z1 := hZ.fm G1 (fun _ _ _ q => q) (fun x x1 x2 => by omega)
        have hl : (zRr W n P L R p1 t1 (c1 + 1)).length ≤ m := by
          obtain ⟨sk', e, _⟩ := sk
          rw [e, List.length_append, List.length_cons] at hm
          omega
        rw [zFo_skp sk] at K1 K2
        have ec : ∀ s, zFo told W n P (f + 1) L R (zCn R L P p1 t1 c1 :: zRr W n P L R p1 t1 (c1 + 1)) s = zFo told W n P (f + 1) L R (zRr W n P L R p1 t1 (c1 + 1)) (zTry (zGo told W n P f) told W L R (zCn R L P p1 t1 c1) s) := fun s => rfl
        rw [ec] at K1 K2
        obtain ⟨k1, g1, r1, me1, i1⟩ := S1
        have hx : c1 % (zEnds R 6 L).length < (zEnds R 6 L).length := Nat.mod_lt _ (by omega)
        have hz : c1 / (zEnds R 6 L).length % (zEnds R 8 L).length < (zEnds R 8 L).length := Nat.mod_lt _ (by omega)
        have hy : c1 / (zEnds R 6 L).length / (zEnds R 8 L).length < (zEnds R 7 L).length := by
          rw [Nat.div_div_eq_div_mul, Nat.div_lt_iff_lt_mul (Nat.mul_pos (by omega) (by omega))]
          have hc2 := a3
          rw [Nat.mul_assoc, Nat.mul_comm (zEnds R 7 L).length, ← Nat.mul_assoc, Nat.mul_comm] at hc2
          exact hc2
        have rx := zEnds_w hV wk (k := 6) (by omega) (Nat.le_refl L) (getD_mem hx)
        have ry := zEnds_w hV wk (k := 7) (by omega) (Nat.le_refl L) (getD_mem hy)
        have rz := zEnds_w hV wk (k := 8) (by omega) (Nat.le_refl L) (getD_mem hz)
        by_cases gT : told ≤ s.1
        · have es : s.1 = told := Nat.le_antisymm hq.2 gT
          have eT : zTry (zGo told W n P f) told W L R (zCn R L P p1 t1 c1) s = (s.1, true, s.2.2) := by
            simp only [zTry, hsp, Bool.false_eq_true, if_false, a6, if_true, if_pos gT]
          rw [eT] at K2
          have eF : zFo told W n P (f + 1) L R (zRr W n P L R p1 t1 (c1 + 1)) (s.1, true, s.2.2) = (s.1, true, s.2.2) := zFold_spent rfl _
          rw [eF] at K2
          have ce : mm_i h1 142 22 = nI told := by rw [Z1.2.1, es]
          simp only [s126_88, s126_91, s126_92, s126_95, s126_96, s126_99, s126_100, s126_101, s126_104, s126_105, s126_106, or_true, true_or, true_and, and_true, mm_o_some, mm_o_none, mm_bk_v, mm_bk_n, Nat.reduceAdd, if_neg n10, kS142 k1, if_pos ce]
          have F2 : zFm (fun k => k = 21) (fun _ => False) h1 (mm_pi h1 142 21 1) := ⟨zFr.pi (Or.inl rfl), fun k hk => ⟨by rw [mm_i_pi, if_neg (fun q => hk q.2)], rfl⟩⟩
          refine K2 _ _ rfl (F2.sk k1) (g1.fm F2 (by decide) (fun _ _ _ q => q)) ⟨Z1.1.fm F2 ⟨by decide, by decide, by decide⟩ (fun _ _ _ q => q), by rw [(F2.2 22 (by decide)).1]; exact Z1.2.1, by rw [mm_i_pi, if_pos ⟨rfl, rfl⟩]; rfl⟩ (F1.fL.trans (F2.fL (fun k hk => by omega) (fun x hx => hx.elim)))
        · have eT : zTry (zGo told W n P f) told W L R (zCn R L P p1 t1 c1) s = zGo told W n P f (L + 1) (zPush L R (zCn R L P p1 t1 c1)) (zCmp (L + 1) (zPush L R (zCn R L P p1 t1 c1)) (s.1 + 1, s.2)) := by
            simp only [zTry, hsp, Bool.false_eq_true, if_false, a6, if_true, if_neg gT]
          rw [eT] at K1 K2
          have ce : ¬ nI s.1 = nI told := by
            have hq2 := hq.2
            rw [nI_eq (by omega) (by omega)]; omega
          have F2 : zFm (fun k => k = 22) (fun _ => False) h1 (mm_pi h1 142 22 (nI (s.1 + 1))) := ⟨zFr.pi (Or.inl rfl), fun k hk => ⟨by rw [mm_i_pi, if_neg (fun q => hk q.2)], rfl⟩⟩
          have i22 : mm_i (mm_pi h1 142 22 (nI (s.1 + 1))) 142 22 = nI (s.1 + 1) := by rw [mm_i_pi, if_pos ⟨rfl, rfl⟩]
          have hinL : mm_in (nI L) 9 = true := mm_inN (by omega) (by omega)
          have hclL : (nI L).toNatClampNeg = L := nI_clamp (by omega)
          simp only [s126_88, s126_91, s126_92, s126_95, s126_96, s126_99, s126_100, s126_101, s126_104, s126_105, s126_106, s126_109, s126_110, s126_111, s126_114, s126_115, s126_116, or_true, true_or, true_and, and_true, mm_o_some, mm_o_none, mm_bk_v, mm_bk_n, Nat.reduceAdd, if_neg n10, kS142 k1, if_neg ce, Z1.2.1, nI_1]
          generalize mm_pi h1 142 22 (nI (s.1 + 1)) = h2 at *
          have k2 := F2.sk k1
          have g2 := g1.fm F2 (by decide) (fun _ _ _ q => q)
          have r2 : zMr h2 L R := r1.fr F2.1 (fun x x1 x2 q => by rcases q with q | q; omega; exact q) (F2.2 8 (by decide)).1
          have me2 : zMe h2 R L := me1.fr F2.1 ⟨fun q => by rcases q with q | q; omega; exact q, fun q => by rcases q with q | q; omega; exact q⟩
          have ni2 : ∀ x, 143 ≤ x → ∀ i, mm_i h2 x i = mm_i h1 x i := fun x hx i => F2.1.i (fun q => by rcases q with q | q; omega; exact q) i
          have i2 : zMi h2 L R := fun p hp => by rw [ni2 _ (by omega)]; exact i1 p hp
          have T2 : zTd h2 (P p1) t1 := fun a ha => by rw [ni2 _ (by omega)]; exact T1 a ha
          have N2 : zMn h2 L p1 t1 (c1 + 1) := ⟨by rw [ni2 _ (by omega)]; exact N1.1, by rw [ni2 _ (by omega)]; exact N1.2.1, by rw [ni2 _ (by omega)]; exact N1.2.2⟩
          have b2 : zMb h2 s.2.2.1 s.2.2.2.1 := Z1.1.fm F2 ⟨by decide, by decide, by decide⟩ (fun _ _ _ q => q)
          have s2 : mm_i h2 142 21 = bI s.2.1 := by rw [(F2.2 21 (by decide)).1]; exact Z1.2.2
          simp only [s126_119, s126_120, s126_123, s126_124, s126_127, s126_128, s126_129, s126_130, s126_131, s126_132, s126_133, s126_136, s126_137, s126_140, s126_141, s126_142, s126_145, s126_146, s126_149, s126_150, s126_151, s126_152, s126_155, s126_156, s126_157, s126_160, s126_161, s126_162, s126_165, or_true, true_or, true_and, and_true, mm_o_some, mm_o_none, mm_bk_v, mm_bk_n, Nat.reduceAdd, kS142 k2, kR142_17 k2, kR142_15 k2, kR142_16 k2, kS155 k2, kS156 k2, kS157 k2, r2.1, hinL, hclL, N2.1, N2.2.1, N2.2.2, nI_pred, c129z k2 r2.1 hV.1 me2 (show c1 < 1000 by omega), c130z k2 r2.1 hV.1 me2 a3 (show c1 < 1000 by omega), c131z k2 r2.1 hV.1 me2 (show c1 < 1000 by omega)]
          have hC : zCn R L P p1 t1 c1 = zC P p1 t1 ((zEnds R 6 L).getD (c1 % (zEnds R 6 L).length) 0) ((zEnds R 7 L).getD (c1 / (zEnds R 6 L).length / (zEnds R 8 L).length) 0) ((zEnds R 8 L).getD (c1 / (zEnds R 6 L).length % (zEnds R 8 L).length) 0) := rfl
          generalize (zEnds R 6 L).getD (c1 % (zEnds R 6 L).length) 0 = x at *
          generalize (zEnds R 7 L).getD (c1 / (zEnds R 6 L).length / (zEnds R 8 L).length) 0 = y at *
          generalize (zEnds R 8 L).getD (c1 / (zEnds R 6 L).length % (zEnds R 8 L).length) 0 = z at *
          rw [hC] at a6 K1 K2
          have oC := zC_ok (P := P) (hPk p1 a1) (show p1 < 8 by omega) a2 rx ry rz
          have a6' := a6
          rw [Bool.and_eq_true] at a6'
          have V1 := zInv_push hV h8 oC rfl a6'.1 a6'.2
          have RP1 := zRP_push (x := x) (y := y) (z := z) hRP a1 a2
          have Lf1 := zLf_push (C := zC P p1 t1 x y z) hLf a1 a4 rfl
          have hb : ∀ i, i < L → R i 15 ≤ 10000 * (L : Int) := fun i hi => (hV.2.1 i hi).2.1
          refine c135z k2 g2 r2 T2 hn a1 a2 (hPk p1 a1) wk hV.ok hRP rx ry rz i2 hb h8 _ _ (fun h3 F3 r3 i3 => ?_)
          have k3 := F3.sk k2
          have g3 := g2.fm F3 (by decide) (fun x x1 x2 => by omega)
          have b3 : zMb h3 s.2.2.1 s.2.2.2.1 := b2.fm F3 ⟨by decide, by decide, by decide⟩ (fun x x1 x2 => by omega)
          simp only [s126_168, s126_169, or_true, true_or, true_and, and_true, mm_o_some, mm_o_none, mm_bk_v, mm_bk_n, Nat.reduceAdd, kS142 k3]
          refine c136z (s := (s.1 + 1, s.2)) k3 g3 r3 hn V1.ok RP1 b3 hq.1 _ _ _ _ _ (fun h4 F4 b4 => ?_)
          have k4 := F4.sk k3
          have g4 := g3.fm F4 (by omega) (fun x x1 x2 => by omega)
          have r4 : zMr h4 (L + 1) (zPush L R (zC P p1 t1 x y z)) := r3.fr F4.1 (fun x x1 x2 => by omega) (F4.2 8 (by omega)).1
          have i4 : zMi h4 (L + 1) (zPush L R (zC P p1 t1 x y z)) := fun p hp => by rw [F4.1.i (by omega)]; exact i3 p hp
          simp only [s126_172, s126_173, or_true, true_or, true_and, and_true, mm_o_some, mm_o_none, mm_bk_v, mm_bk_n, Nat.reduceAdd, kS142 k4]
          refine c127z k4 r4 V1.ok _ _ _ _ _ _ _ (fun h5 F5 e1 e2 e3 me5 N5 => ?_)
          have k5 := zFr.sk k4 F5
          have F5m : zFm (fun _ => False) (fun x => 155 ≤ x ∧ x < 160) h4 h5 := F5.fm (by omega)
          have g5 := g4.fm F5m (fun q => q) (fun x x1 x2 => by omega)
          have r5 : zMr h5 (L + 1) (zPush L R (zC P p1 t1 x y z)) := r4.fr F5 (fun x x1 x2 => by omega) (by rw [F5.i (by omega)])
          have i5 : zMi h5 (L + 1) (zPush L R (zC P p1 t1 x y z)) := fun p hp => by rw [F5.i (by omega)]; exact i4 p hp
          have q1 : zSq told (zCmp (L + 1) (zPush L R (zC P p1 t1 x y z)) (s.1 + 1, s.2)) := zCmp_q V1 ⟨hq.1, show s.1 + 1 ≤ told by omega⟩
          have sp1 : (zCmp (L + 1) (zPush L R (zC P p1 t1 x y z)) (s.1 + 1, s.2)).2.1 = s.2.1 ∧ (zCmp (L + 1) (zPush L R (zC P p1 t1 x y z)) (s.1 + 1, s.2)).1 = s.1 + 1 := by
            simp only [zCmp]
            split <;> exact ⟨rfl, rfl⟩
          have Z5 : zMz h5 (zCmp (L + 1) (zPush L R (zC P p1 t1 x y z)) (s.1 + 1, s.2)) := by
            refine ⟨b4.fm F5m ⟨fun q => q, fun q => q, fun q => q⟩ (fun x x1 x2 => by omega), ?_, ?_⟩
            · rw [F5.i (by omega), (F4.2 22 (by omega)).1, (F3.2 22 (by omega)).1, sp1.2]; exact i22
            · rw [F5.i (by omega), (F4.2 21 (by omega)).1, (F3.2 21 (by omega)).1, sp1.1]; exact s2
          -- the frame so far: what lies below level L + 1
          have FA : zFL (L + 1) h2 h5 := ((F3.fL (fun k hk => by omega) (fun x hx => by omega)).trans (F4.fL (fun k hk => by omega) (fun x hx => by omega))).trans ⟨(F5m.mono (fun k hk => hk.elim) (fun x hx => by omega)), e1, e2, fun x x1 x2 i hi => e3 x x1 x2 i (by omega)⟩
          have FB : zFL L h h5 := (F1.fL.trans (F2.fL (fun k hk => by omega) (fun x hx => hx.elim))).trans FA.dn
          rw [← zFo_go (f := f) (L := L + 1), ← zRr_0] at K1 K2
          simp only [s126_176, or_true, true_or, true_and, and_true, mm_o_some, mm_o_none, mm_bk_v, mm_bk_n, Nat.reduceAdd]
          refine ihf (L + 1) (by omega) _ (zPush L R (zC P p1 t1 x y z)) h5 _ 0 0 0 _ (Nat.le_refl _) (Nat.zero_le _) (Nat.zero_le _) (Nat.zero_le _) ⟨k5, g5, r5, me5, i5⟩ N5 Z5 q1 (by rw [sp1.1]; exact hsp) V1 RP1 Lf1 (fun h6 v3 u1 S6 Z6 q6 F6 => ?_) (fun h6 v3 u1 k6 g6 Z6 F6 => ?_)
          · obtain ⟨k6, g6, r6, me6, i6⟩ := S6
            have cm : ¬ nI (L + 1) = 0 := nI_ne0 (by omega) (by omega)
            simp only [s126_179, s126_180, s126_183, s126_186, s126_187, s126_188, s126_191, s126_192, or_true, true_or, true_and, and_true, mm_o_some, mm_o_none, mm_bk_v, mm_bk_n, Nat.reduceAdd, kS142 k6, r6.1, if_neg cm]
            refine c137z k6 g6 hn a1 a2 (hPk p1 a1) wk hV.ok rx ry rz r6 i6 a4 hb h8 _ _ _ (fun h7 F7 r7 i7 => ?_)
            simp only [s126_195, or_true, true_or, true_and, and_true, mm_o_some, mm_o_none, mm_bk_v, mm_bk_n, Nat.reduceAdd]
            have F67 : zFL (L + 1) h2 h7 := (FA.trans F6).trans (F7.fL (fun k hk => by omega) (fun x hx => by omega))
            have k7 := F7.sk k6
            have g7 := g6.fm F7 (by omega) (fun x x1 x2 => by omega)
            have me7 : zMe h7 R L := fun a ha => by
              obtain ⟨z1, z2⟩ := me2 a ha
              have la := (zEnds_len R (6 + a) L).2
              exact ⟨by rw [F67.2.2.1 _ (by omega)]; exact z1, fun i hi => by rw [F67.2.1 _ (by omega)]; exact z2 i hi⟩
            have N7 : zMn h7 L p1 t1 (c1 + 1) := ⟨by rw [F67.2.2.2 155 (by omega) (by omega) L (by omega)]; exact N2.1, by rw [F67.2.2.2 156 (by omega) (by omega) L (by omega)]; exact N2.2.1, by rw [F67.2.2.2 157 (by omega) (by omega) L (by omega)]; exact N2.2.2⟩
            have Z7 := Z6.fm F7 (fun k k1 k2 => by omega) (fun x x1 x2 => by omega)
            have FC : zFL L h h7 := FB.trans (F6.dn.trans (F7.fL (fun k hk => by omega) (fun x hx => by omega)))
            exact ihm R h7 _ p1 t1 (c1 + 1) _ hl (by omega) (by omega) (by omega) ⟨k7, g7, r7, me7, i7⟩ N7 Z7 q6 u1 hV hRP hLf (fun h' v3 w1 w2 w3 w4 w5 => K1 h' v3 w1 w2 w3 w4 (FC.trans w5)) (fun h' v3 w1 w2 w3 w4 w5 => K2 h' v3 w1 w2 w3 w4 (FC.trans w5))
          · have eS : ∀ l, zFo told W n P (f + 1) L R l (zFo told W n P f (L + 1) (zPush L R (zC P p1 t1 x y z)) (zRr W n P (L + 1) (zPush L R (zC P p1 t1 x y z)) 0 0 0) (zCmp (L + 1) (zPush L R (zC P p1 t1 x y z)) (s.1 + 1, s.2))) = zFo told W n P f (L + 1) (zPush L R (zC P p1 t1 x y z)) (zRr W n P (L + 1) (zPush L R (zC P p1 t1 x y z)) 0 0 0) (zCmp (L + 1) (zPush L R (zC P p1 t1 x y z)) (s.1 + 1, s.2)) := fun l => zFold_spent u1 l
            rw [eS] at K2
            exact K2 h6 v3 u1 k6 g6 Z6 (FB.trans F6.dn)
      · simp only [s126_88, s126_91, s126_92, s126_95, s126_96, s126_99, s126_100, s126_101, s126_104, s126_105, s126_106, or_true, true_or, true_and, and_true, mm_o_some, mm_o_none, mm_bk_v, mm_bk_n, Nat.reduceAdd, if_true]
        have G1 : zFm (fun _ => False) (fun x => (155 ≤ x ∧ x < 158) ∨ x = 166) h h1 := F1.1.fm (by omega)
        rw [zFo_skp sk] at K1
        refine K1 h1 _ hsp (hS.fn F1) (hZ.fm G1 (fun _ _ _ q => q) (fun x x1 x2 => by omega)) hq F1.fL
end
