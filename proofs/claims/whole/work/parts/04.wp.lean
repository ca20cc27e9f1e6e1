/-! WHAT A RUN COMES TO: mm_wp, and a rule a kind of instruction -/
abbrev mm_Q : Type := (Option Value ⊕ Nat) → mm_H → Prop
def mm_wp (d y pc : Nat) (ls st : List Value) (h : mm_H) (Q : mm_Q) : Prop := ∃ n r h', mm_run n d y pc ls st h = some (r, h') ∧ Q r h'
theorem mm_fuel : ∀ n d y pc ls st h r, mm_run n d y pc ls st h = some r → mm_run (n + 1) d y pc ls st h = some r := by
  intro n
  induction n with
  | zero => intro d y pc ls st h r hr; simp [mm_run] at hr
  | succ n ih =>
    intro d y pc ls st h r hr
    rw [mm_run] at hr
    rw [mm_run]
    cases hc : tb_cod y pc with
    | none => simp [hc] at hr
    | some q =>
      simp only [hc] at hr ⊢
      cases ha : mm_act y pc q.1 ls st h with
      | none => simp [ha] at hr
      | some A =>
        simp only [ha] at hr ⊢
        rcases A with g | c | v | a
        · exact ih _ _ _ _ _ _ _ hr
        · cases d with
          | zero => simp at hr
          | succ d' =>
            simp only at hr ⊢
            cases h1 : mm_run n d' c.1 0 (mm_ent c.1 c.2.1) [] h with
            | none => simp [h1] at hr
            | some x =>
              simp only [h1] at hr
              simp only [ih _ _ _ _ _ _ _ h1]
              rcases x with ⟨v | a, h'⟩
              · exact ih _ _ _ _ _ _ _ hr
              · simp only at hr ⊢
                cases h2 : mm_hnd y pc (mm_s h' a).1 with
                | none => simp only [h2] at hr ⊢; exact hr
                | some pc' => simp only [h2] at hr ⊢; exact ih _ _ _ _ _ _ _ hr
        · exact hr
        · simp only at hr ⊢
          cases h2 : mm_hnd y pc (mm_s h a).1 with
          | none => simp only [h2] at hr ⊢; exact hr
          | some pc' => simp only [h2] at hr ⊢; exact ih _ _ _ _ _ _ _ hr
theorem mm_fuel' {n m d y pc : Nat} {ls st : List Value} {h : mm_H} {r : (Option Value ⊕ Nat) × mm_H} (hr : mm_run n d y pc ls st h = some r) (hm : n ≤ m) : mm_run m d y pc ls st h = some r := by
  obtain ⟨k, rfl⟩ := Nat.exists_eq_add_of_le hm
  clear hm
  induction k with
  | zero => exact hr
  | succ k ih => exact mm_fuel _ _ _ _ _ _ _ _ ih
theorem mm_deep : ∀ n d y pc ls st h r, mm_run n d y pc ls st h = some r → mm_run n (d + 1) y pc ls st h = some r := by
  intro n
  induction n with
  | zero => intro d y pc ls st h r hr; simp [mm_run] at hr
  | succ n ih =>
    intro d y pc ls st h r hr
    rw [mm_run] at hr
    rw [mm_run]
    cases hc : tb_cod y pc with
    | none => simp [hc] at hr
    | some q =>
      simp only [hc] at hr ⊢
      cases ha : mm_act y pc q.1 ls st h with
      | none => simp [ha] at hr
      | some A =>
        simp only [ha] at hr ⊢
        rcases A with g | c | v | a
        · exact ih _ _ _ _ _ _ _ hr
        · cases d with
          | zero => simp at hr
          | succ d' =>
            simp only at hr ⊢
            cases h1 : mm_run n d' c.1 0 (mm_ent c.1 c.2.1) [] h with
            | none => simp [h1] at hr
            | some x =>
              simp only [h1] at hr
              simp only [ih _ _ _ _ _ _ _ h1]
              rcases x with ⟨v | a, h'⟩
              · exact ih _ _ _ _ _ _ _ hr
              · simp only at hr ⊢
                cases h2 : mm_hnd y pc (mm_s h' a).1 with
                | none => simp only [h2] at hr ⊢; exact hr
                | some pc' => simp only [h2] at hr ⊢; exact ih _ _ _ _ _ _ _ hr
        · exact hr
        · simp only at hr ⊢
          cases h2 : mm_hnd y pc (mm_s h a).1 with
          | none => simp only [h2] at hr ⊢; exact hr
          | some pc' => simp only [h2] at hr ⊢; exact ih _ _ _ _ _ _ _ hr
section
variable {d y pc pc' len k kd p z : Nat} {i : ClassFile.Instr} {ls ls' st st' r : List Value} {h h' : mm_H} {Q Q' : mm_Q}
theorem mm_wp.imp (H : mm_wp d y pc ls st h Q) (hQ : ∀ r h', Q r h' → Q' r h') : mm_wp d y pc ls st h Q' := by
  obtain ⟨n, r, h', e, q⟩ := H
  exact ⟨n, r, h', e, hQ _ _ q⟩
theorem mm_wp.deep (H : mm_wp d y pc ls st h Q) {d' : Nat} (hd : d ≤ d') : mm_wp d' y pc ls st h Q := by
  obtain ⟨k, rfl⟩ := Nat.exists_eq_add_of_le hd
  clear hd
  induction k with
  | zero => exact H
  | succ k ih =>
    obtain ⟨n, r, h', e, q⟩ := ih
    exact ⟨n, r, h', mm_deep _ _ _ _ _ _ _ _ e, q⟩
theorem wp_go (hc : tb_cod y pc = some (i, len)) (ha : mm_act y pc i ls st h = mm_go pc' ls' st' h') : mm_wp d y pc ls st h Q ↔ mm_wp d y pc' ls' st' h' Q := by
  constructor
  · rintro ⟨n, r, hh, e, q⟩
    cases n with
    | zero => simp [mm_run] at e
    | succ n =>
      rw [mm_run] at e
      simp only [hc, ha, mm_go] at e
      exact ⟨n, r, hh, e, q⟩
  · rintro ⟨n, r, hh, e, q⟩
    refine ⟨n + 1, r, hh, ?_, q⟩
    rw [mm_run]
    simp only [hc, ha, mm_go]
    exact e
theorem wp_none (hc : tb_cod y pc = some (i, len)) (ha : mm_act y pc i ls st h = none) : mm_wp d y pc ls st h Q ↔ False := by
  constructor
  · rintro ⟨n, r, hh, e, q⟩
    cases n with
    | zero => simp [mm_run] at e
    | succ n =>
      rw [mm_run] at e
      simp [hc, ha] at e
  · exact False.elim
theorem wp_if {c : Prop} (dc : Decidable c) (hc : tb_cod y pc = some (i, len)) (ha : mm_act y pc i ls st h = @mm_if c dc (mm_go pc' ls' st' h')) : mm_wp d y pc ls st h Q ↔ c ∧ mm_wp d y pc' ls' st' h' Q := by
  by_cases hcc : c
  · rw [wp_go hc (by rw [ha]; exact if_pos hcc)]
    exact ⟨fun H => ⟨hcc, H⟩, fun H => H.2⟩
  · rw [wp_none hc (by rw [ha]; exact if_neg hcc)]
    exact ⟨False.elim, fun H => hcc H.1⟩
theorem wp_br {c : Prop} {dc : Decidable c} {t f : Nat} (hc : tb_cod y pc = some (i, len)) (ha : mm_act y pc i ls st h = mm_go (@ite _ c dc t f) ls' st' h') : mm_wp d y pc ls st h Q ↔ @ite _ c dc (mm_wp d y t ls' st' h' Q) (mm_wp d y f ls' st' h' Q) := by
  rw [wp_go hc ha]
  split <;> rfl
theorem wp_ret {v : Option Value} (hc : tb_cod y pc = some (i, len)) (ha : mm_act y pc i ls st h = some (.inr (.inr (.inl v)))) : mm_wp d y pc ls st h Q ↔ Q (.inl v) h := by
  constructor
  · rintro ⟨n, r, hh, e, q⟩
    cases n with
    | zero => simp [mm_run] at e
    | succ n =>
      rw [mm_run] at e
      simp only [hc, ha, Option.some.injEq, Prod.mk.injEq] at e
      obtain ⟨rfl, rfl⟩ := e
      exact q
  · intro q
    refine ⟨1, _, _, ?_, q⟩
    rw [mm_run]
    simp only [hc, ha]
theorem wp_retif {c : Prop} (dc : Decidable c) {v : Option Value} (hc : tb_cod y pc = some (i, len)) (ha : mm_act y pc i ls st h = @mm_if c dc (some (.inr (.inr (.inl v))))) : mm_wp d y pc ls st h Q ↔ c ∧ Q (.inl v) h := by
  by_cases hcc : c
  · rw [wp_ret hc (by rw [ha]; exact if_pos hcc)]
    exact ⟨fun H => ⟨hcc, H⟩, fun H => H.2⟩
  · rw [wp_none hc (by rw [ha]; exact if_neg hcc)]
    exact ⟨False.elim, fun H => hcc H.1⟩
/-- what comes behind a call -/
def mm_bk (d y pc : Nat) (ls rest : List Value) (Q : mm_Q) : mm_Q := fun r h' => match r with
  | .inl v => mm_wp d y (pc + 3) ls (v.toList ++ rest) h' Q
  | .inr a => match mm_hnd y pc (mm_s h' a).1 with
    | none => mm_ncv y pc = true ∧ Q (.inr a) h'
    | some pc' => mm_wp d y pc' ls [.ref a] h' Q
theorem wp_call {as rest : List Value} (hc : tb_cod y pc = some (i, len)) (ha : mm_act y pc i ls st h = some (.inr (.inl (z, as, rest)))) : mm_wp (d + 1) y pc ls st h Q ↔ mm_wp d z 0 (mm_ent z as) [] h (mm_bk (d + 1) y pc ls rest Q) := by
  constructor
  · rintro ⟨n, r, hh, e, q⟩
    cases n with
    | zero => simp [mm_run] at e
    | succ n =>
      rw [mm_run] at e
      simp only [hc, ha] at e
      cases h1 : mm_run n d z 0 (mm_ent z as) [] h with
      | none => simp [h1] at e
      | some x =>
        simp only [h1] at e
        rcases x with ⟨v | a, h'⟩
        · exact ⟨n, _, _, h1, n, r, hh, e, q⟩
        · refine ⟨n, _, _, h1, ?_⟩
          simp only at e
          simp only [mm_bk]
          cases h2 : mm_hnd y pc (mm_s h' a).1 with
          | none =>
            simp only [h2] at e
            split at e
            · rename_i hcv
              simp only [Option.some.injEq, Prod.mk.injEq] at e
              obtain ⟨rfl, rfl⟩ := e
              exact ⟨hcv, q⟩
            · cases e
          | some pc' =>
            simp only [h2] at e
            exact ⟨n, r, hh, e, q⟩
  · rintro ⟨n, x, h', h1, H⟩
    rcases x with v | a
    · obtain ⟨m, r, hh, e, q⟩ := H
      refine ⟨max n m + 1, r, hh, ?_, q⟩
      rw [mm_run]
      simp only [hc, ha, mm_fuel' h1 (Nat.le_max_left n m)]
      exact mm_fuel' e (Nat.le_max_right n m)
    · simp only [mm_bk] at H
      cases h2 : mm_hnd y pc (mm_s h' a).1 with
      | none =>
        simp only [h2] at H
        refine ⟨n + 1, _, _, ?_, H.2⟩
        rw [mm_run]
        simp only [hc, ha, h1, h2, H.1, if_true]
      | some pc' =>
        simp only [h2] at H
        obtain ⟨m, r, hh, e, q⟩ := H
        refine ⟨max n m + 1, r, hh, ?_, q⟩
        rw [mm_run]
        simp only [hc, ha, mm_fuel' h1 (Nat.le_max_left n m), h2]
        exact mm_fuel' e (Nat.le_max_right n m)
theorem wp_callif {c : Prop} (dc : Decidable c) {as rest : List Value} (hc : tb_cod y pc = some (i, len)) (ha : mm_act y pc i ls st h = @mm_if c dc (some (.inr (.inl (z, as, rest))))) : mm_wp (d + 1) y pc ls st h Q ↔ c ∧ mm_wp d z 0 (mm_ent z as) [] h (mm_bk (d + 1) y pc ls rest Q) := by
  by_cases hcc : c
  · rw [wp_call hc (by rw [ha]; exact if_pos hcc)]
    exact ⟨fun H => ⟨hcc, H⟩, fun H => H.2⟩
  · rw [wp_none hc (by rw [ha]; exact if_neg hcc)]
    exact ⟨False.elim, fun H => hcc H.1⟩
theorem wp_thr {a : Nat} (hc : tb_cod y pc = some (i, len)) (ha : mm_act y pc i ls st h = mm_if (30 ≤ (mm_s h a).1) (some (.inr (.inr (.inr a))))) (hh : tb_han.getD y [] = []) : mm_wp d y pc ls st h Q ↔ 30 ≤ (mm_s h a).1 ∧ Q (.inr a) h := by
  have hn : mm_hnd y pc (mm_s h a).1 = none := by simp only [mm_hnd, hh]; rfl
  have hcv : mm_ncv y pc = true := by simp only [mm_ncv, hh]; rfl
  by_cases hcc : 30 ≤ (mm_s h a).1
  · have ha' : mm_act y pc i ls st h = some (.inr (.inr (.inr a))) := by rw [ha]; exact if_pos hcc
    constructor
    · rintro ⟨n, r, hh, e, q⟩
      cases n with
      | zero => simp [mm_run] at e
      | succ n =>
        rw [mm_run] at e
        simp only [hc, ha', hn, hcv, if_true, Option.some.injEq, Prod.mk.injEq] at e
        obtain ⟨rfl, rfl⟩ := e
        exact ⟨hcc, q⟩
    · intro q
      refine ⟨1, _, _, ?_, q.2⟩
      rw [mm_run]
      simp only [hc, ha', hn, hcv, if_true]
  · rw [wp_none hc (by rw [ha]; exact if_neg hcc)]
    exact ⟨False.elim, fun H => hcc H.1⟩
theorem mm_bk_v {rest : List Value} {v : Value} : mm_bk d y pc ls rest Q (.inl (some v)) h ↔ mm_wp d y (pc + 3) ls (v :: rest) h Q := Iff.rfl
theorem mm_bk_n {rest : List Value} : mm_bk d y pc ls rest Q (.inl none) h ↔ mm_wp d y (pc + 3) ls rest h Q := Iff.rfl
theorem mm_bk_x {rest : List Value} {a : Nat} : mm_bk d y pc ls rest Q (.inr a) h ↔ (match mm_hnd y pc (mm_s h a).1 with | none => mm_ncv y pc = true ∧ Q (.inr a) h | some pc' => mm_wp d y pc' ls [.ref a] h Q) := Iff.rfl
end
