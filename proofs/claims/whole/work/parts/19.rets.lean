/-! RETURNS AND CALLS -/
def mm_out (P : mm_P) : Option Value ⊕ Nat → Outcome
  | .inl v => .returned (v.map (mm_rv P))
  | .inr a => .threw (mm_ad P a)
/-- the invocation has ended as the model's has -/
def mm_fin (P : mm_P) (s : State) (below : List Frame) (n0 z0 : Nat) (res : Option Value ⊕ Nat) (h' : mm_H) : State → Prop := fun t =>
  t.status = .running ∧ Ended t below (mm_out P res) ∧ s.WarmedH t.vm ∧ mm_rep P s h' t.heap ∧ ∃ (L : List Loc) (cells slots : Nat), mm_n h' = n0 + cells ∧ mm_z h' = z0 + slots ∧ s.sameButNew ({ t with vm := s.vm } : State) L cells slots ∧ ∀ q ∈ L, P.1.2 ≤ q.base
section
variable {P : mm_P} {y d n0 z0 : Nat} {p : Program} {l : Launch} {e : Env} {R : Room} {s : State} {m : MethodId} {args : Array Value} {below : List Frame} {meth : Method} {c : Code} {Q : State → Prop} {pc k : Nat} {ls ls' st r : List Value} {h h' : mm_H} {x x2 : Int32} {w w2 : Int64} {a b : Nat} {n off : Int}
theorem sg_iret (C : mm_Cx P y d p R s m meth c) (hc : tb_cod y pc = some (.ireturn, 1)) (ht : tb_rt y = 1 ∨ tb_rt y = 3 ∧ (x = 0 ∨ x = 1)) : mm_G P y n0 z0 p l e R s m args below meth c (mm_fin P s below n0 z0 (.inl (some (.int x))) h) pc ls (.int x :: r) h := by
  intro H locs cells slots lsR hr hlv hl hn hz T hT X
  have hx := C.1.1
  have hb := C.1.2.1
  have hd := (mm_dec hc).1
  generalize tb_byt.getD y ⟨#[]⟩ = bs at hb hd
  have hlocks := C.2.1.2.1
  have hrt : ∃ ty, meth.sig.returnType = some ty ∧ narrow ty (.int x) = .int x := by
    rw [C.1.2.2.2]
    rcases ht with h1 | ⟨h3, h01⟩
    · exact ⟨.int, by unfold tb_rty; rw [h1]; rfl, rfl⟩
    · refine ⟨.boolean, by unfold tb_rty; rw [h3]; rfl, ?_⟩
      rcases h01 with rfl | rfl <;> rfl
  obtain ⟨ty, hr1, hnar⟩ := hrt
  obtain ⟨fs, hret, hrun, hended, hW, hframe⟩ := X.leave (v := some (.int x)) (fun h => by rw [hr1] at h; cases h) hlocks
  have hmeth' : T.vm.method? m = some meth := X.method'
  refine ⟨T.setFrames fs, ?_, hrun, hended, hW, by rw [← hT] at hr; exact hr, locs, cells, slots, hn, hz, hframe, hl⟩
  show Steps p.tables e below (T.setTop (F0 m pc lsR (.int x :: r.map (mm_rv P)))) _
  jvm_step X.here [X.here.top, hx, hb, hd, hmeth', hr1, hnar]
  (try refine ⟨rfl, ?_⟩); (try refine ⟨rfl, ?_⟩)
  first | (intro acts; rw [hret _ acts rfl rfl rfl]) | rw [hret _ _ rfl rfl rfl]
  exact Steps.refl _
theorem sg_lret (C : mm_Cx P y d p R s m meth c) (hc : tb_cod y pc = some (.lreturn, 1)) (ht : tb_rt y = 2) : mm_G P y n0 z0 p l e R s m args below meth c (mm_fin P s below n0 z0 (.inl (some (.long w))) h) pc ls (.long w :: r) h := by
  intro H locs cells slots lsR hr hlv hl hn hz T hT X
  have hx := C.1.1
  have hb := C.1.2.1
  have hd := (mm_dec hc).1
  generalize tb_byt.getD y ⟨#[]⟩ = bs at hb hd
  have hlocks := C.2.1.2.1
  have hr1 : meth.sig.returnType = some .long := by rw [C.1.2.2.2]; unfold tb_rty; rw [ht]; rfl
  obtain ⟨fs, hret, hrun, hended, hW, hframe⟩ := X.leave (v := some (.long w)) (fun h => by rw [hr1] at h; cases h) hlocks
  have hmeth' : T.vm.method? m = some meth := X.method'
  refine ⟨T.setFrames fs, ?_, hrun, hended, hW, by rw [← hT] at hr; exact hr, locs, cells, slots, hn, hz, hframe, hl⟩
  show Steps p.tables e below (T.setTop (F0 m pc lsR (.long w :: r.map (mm_rv P)))) _
  jvm_step X.here [X.here.top, hx, hb, hd, hmeth', hr1]
  (try refine ⟨rfl, ?_⟩); (try refine ⟨rfl, ?_⟩)
  first | (intro acts; rw [hret _ acts rfl rfl rfl]) | rw [hret _ _ rfl rfl rfl]
  exact Steps.refl _
theorem sg_vret (C : mm_Cx P y d p R s m meth c) (hc : tb_cod y pc = some (.return_, 1)) (ht : tb_rt y = 0) : mm_G P y n0 z0 p l e R s m args below meth c (mm_fin P s below n0 z0 (.inl none) h) pc ls st h := by
  intro H locs cells slots lsR hr hlv hl hn hz T hT X
  have hx := C.1.1
  have hb := C.1.2.1
  have hd := (mm_dec hc).1
  generalize tb_byt.getD y ⟨#[]⟩ = bs at hb hd
  have hlocks := C.2.1.2.1
  have hr1 : meth.sig.returnType = none := by rw [C.1.2.2.2]; unfold tb_rty; rw [ht]; rfl
  obtain ⟨fs, hret, hrun, hended, hW, hframe⟩ := X.leave (v := none) (fun _ => rfl) hlocks
  have hmeth' : T.vm.method? m = some meth := X.method'
  refine ⟨T.setFrames fs, ?_, hrun, hended, hW, by rw [← hT] at hr; exact hr, locs, cells, slots, hn, hz, hframe, hl⟩
  show Steps p.tables e below (T.setTop (F0 m pc lsR (st.map (mm_rv P)))) _
  jvm_step X.here [X.here.top, hx, hb, hd, hmeth', hr1]
  (try refine ⟨rfl, ?_⟩); (try refine ⟨rfl, ?_⟩)
  first | (intro acts; rw [hret _ acts rfl rfl rfl]) | rw [hret _ _ rfl rfl rfl]
  exact Steps.refl _
theorem sg_aret {o : Option Nat} (C : mm_Cx P y d p R s m meth c) (hc : tb_cod y pc = some (.areturn, 1)) (ht : tb_rt y = 4) : mm_G P y n0 z0 p l e R s m args below meth c (mm_fin P s below n0 z0 (.inl (some (mm_o o))) h) pc ls (mm_o o :: r) h := by
  intro H locs cells slots lsR hr hlv hl hn hz T hT X
  have hx := C.1.1
  have hb := C.1.2.1
  have hd := (mm_dec hc).1
  generalize tb_byt.getD y ⟨#[]⟩ = bs at hb hd
  have hlocks := C.2.1.2.1
  have hr1 : ∃ n, meth.sig.returnType = some (.object n) := by
    rw [C.1.2.2.2]
    unfold tb_rty
    rw [ht]
    by_cases hy : y = 41
    · exact ⟨_, show (if y = 41 then some (FieldType.object "LoadRoom$Piece") else some (FieldType.object "LoadRoom$Placed")) = _ from if_pos hy⟩
    · exact ⟨_, show (if y = 41 then some (FieldType.object "LoadRoom$Piece") else some (FieldType.object "LoadRoom$Placed")) = _ from if_neg hy⟩
  obtain ⟨nm, hr1⟩ := hr1
  have hmeth' : T.vm.method? m = some meth := X.method'
  cases o with
  | none =>
    obtain ⟨fs, hret, hrun, hended, hW, hframe⟩ := X.leave (v := some .null) (fun h => by rw [hr1] at h; cases h) hlocks
    refine ⟨T.setFrames fs, ?_, hrun, hended, hW, by rw [← hT] at hr; exact hr, locs, cells, slots, hn, hz, hframe, hl⟩
    show Steps p.tables e below (T.setTop (F0 m pc lsR (.null :: r.map (mm_rv P)))) _
    jvm_step X.here [X.here.top, hx, hb, hd, hmeth', hr1]
    (try refine ⟨rfl, ?_⟩); (try refine ⟨rfl, ?_⟩)
    first | (intro acts; rw [hret _ acts rfl rfl rfl]) | rw [hret _ _ rfl rfl rfl]
    exact Steps.refl _
  | some v =>
    obtain ⟨fs, hret, hrun, hended, hW, hframe⟩ := X.leave (v := some (.ref (mm_ad P v))) (fun h => by rw [hr1] at h; cases h) hlocks
    refine ⟨T.setFrames fs, ?_, hrun, hended, hW, by rw [← hT] at hr; exact hr, locs, cells, slots, hn, hz, hframe, hl⟩
    show Steps p.tables e below (T.setTop (F0 m pc lsR (.ref (mm_ad P v) :: r.map (mm_rv P)))) _
    jvm_step X.here [X.here.top, hx, hb, hd, hmeth', hr1]
    (try refine ⟨rfl, ?_⟩); (try refine ⟨rfl, ?_⟩)
    first | (intro acts; rw [hret _ acts rfl rfl rfl]) | rw [hret _ _ rfl rfl rfl]
    exact Steps.refl _
end
