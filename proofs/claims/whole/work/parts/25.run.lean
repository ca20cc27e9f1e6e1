/-! BY THE FUEL -/
set_option maxHeartbeats 4000000 in
theorem act_call {y pc z : Nat} {i : ClassFile.Instr} {ls st as rest : List Value} {h : mm_H} (ha : mm_act y pc i ls st h = some (.inr (.inl (z, as, rest)))) :
    ∃ k, tb_ca y k = some z ∧ z < 1000 ∧ (tb_na z ≤ st.length ∧ st.length ≤ tb_na z + 8) ∧ mm_eok z (mm_ent z (st.take (tb_na z)).reverse) = true ∧ as = (st.take (tb_na z)).reverse ∧ rest = st.drop (tb_na z) ∧
      (i = .invokestatic k ∧ tb_sta z = true ∨ i = .invokevirtual k ∧ tb_sta z = false ∧ (∃ a, st[tb_na z - 1]? = some (.ref a) ∧ (mm_s h a).1 = tb_cls z) ∨ i = .invokespecial k ∧ tb_sta z = false ∧ ∃ a, st[tb_na z - 1]? = some (.ref a)) := by
  cases i with
  | invokestatic k =>
    simp only [mm_act] at ha
    cases hk : tb_ca y k with
    | none => simp [hk] at ha
    | some z' =>
      simp only [hk, mm_if, mm_call] at ha
      split at ha
      · rename_i h1
        split at ha
        · rename_i h2
          simp only [Option.some.injEq, Sum.inr.injEq, Sum.inl.injEq, Prod.mk.injEq] at ha
          obtain ⟨rfl, rfl, rfl⟩ := ha
          exact ⟨k, hk, h1.1, h2.1, h2.2, rfl, rfl, Or.inl ⟨rfl, h1.2⟩⟩
        · cases ha
      · cases ha
  | invokevirtual k =>
    simp only [mm_act] at ha
    cases hk : tb_ca y k with
    | none => simp [hk] at ha
    | some z' =>
      simp only [hk, mm_if, mm_callV] at ha
      split at ha
      · rename_i h1
        split at ha
        · rename_i a hv
          split at ha
          · rename_i h3
            simp only [mm_call, mm_if] at ha
            split at ha
            · rename_i h2
              simp only [Option.some.injEq, Sum.inr.injEq, Sum.inl.injEq, Prod.mk.injEq] at ha
              obtain ⟨rfl, rfl, rfl⟩ := ha
              exact ⟨k, hk, h1.1, h2.1, h2.2, rfl, rfl, Or.inr (Or.inl ⟨rfl, h1.2, a, hv, h3⟩)⟩
            · cases ha
          · cases ha
        · cases ha
      · cases ha
  | invokespecial k =>
    simp only [mm_act] at ha
    cases hk : tb_ca y k with
    | none => simp [hk] at ha
    | some z' =>
      simp only [hk] at ha
      split at ha
      · split at ha
        · simp only [mm_if, mm_go] at ha
          split at ha <;> cases ha
        · cases ha
      · rename_i n1
        split at ha
        · split at ha
          · simp only [mm_if, mm_go] at ha
            split at ha <;> cases ha
          · cases ha
        · rename_i n2
          simp only [mm_if, mm_callI] at ha
          split at ha
          · rename_i h1
            split at ha
            · rename_i a hv
              simp only [mm_call, mm_if] at ha
              split at ha
              · rename_i h2
                simp only [Option.some.injEq, Sum.inr.injEq, Sum.inl.injEq, Prod.mk.injEq] at ha
                obtain ⟨rfl, rfl, rfl⟩ := ha
                exact ⟨k, hk, by omega, h2.1, h2.2, rfl, rfl, Or.inr (Or.inr ⟨rfl, h1, a, hv⟩)⟩
              · cases ha
            · cases ha
          · cases ha
  | _ =>
    simp only [mm_act, mm_go, mm_if] at ha
    repeat' (first | cases ha | (focus (simp [Option.bind_eq_some_iff] at ha; done)) | split at ha)
set_option maxHeartbeats 4000000 in
theorem act_ret {y pc : Nat} {i : ClassFile.Instr} {ls st : List Value} {v : Option Value} {h : mm_H} (ha : mm_act y pc i ls st h = some (.inr (.inr (.inl v)))) :
    (i = .ireturn ∧ ∃ x r, st = .int x :: r ∧ v = some (.int x) ∧ (tb_rt y = 1 ∨ tb_rt y = 3 ∧ (x = 0 ∨ x = 1))) ∨ (i = .lreturn ∧ ∃ x r, st = .long x :: r ∧ v = some (.long x) ∧ tb_rt y = 2) ∨ (i = .areturn ∧ ∃ o r, st = mm_o o :: r ∧ v = some (mm_o o) ∧ tb_rt y = 4) ∨ (i = .return_ ∧ v = none ∧ tb_rt y = 0) := by
  cases i with
  | ireturn =>
    simp only [mm_act, mm_if] at ha
    split at ha
    · split at ha
      · rename_i hg
        cases ha
        exact Or.inl ⟨rfl, _, _, rfl, rfl, hg⟩
      · cases ha
    · cases ha
  | lreturn =>
    simp only [mm_act, mm_if] at ha
    split at ha
    · split at ha
      · rename_i hg
        cases ha
        exact Or.inr (Or.inl ⟨rfl, _, _, rfl, rfl, hg⟩)
      · cases ha
    · cases ha
  | areturn =>
    simp only [mm_act, mm_if] at ha
    split at ha
    · split at ha
      · rename_i hg
        cases ha
        exact Or.inr (Or.inr (Or.inl ⟨rfl, some _, _, rfl, rfl, hg⟩))
      · cases ha
    · split at ha
      · rename_i hg
        cases ha
        exact Or.inr (Or.inr (Or.inl ⟨rfl, none, _, rfl, rfl, hg⟩))
      · cases ha
    · cases ha
  | return_ =>
    simp only [mm_act, mm_if] at ha
    split at ha
    · rename_i hg
      cases ha
      exact Or.inr (Or.inr (Or.inr ⟨rfl, rfl, hg⟩))
    · cases ha
  | _ =>
    simp only [mm_act, mm_go, mm_if, mm_call, mm_callV, mm_callI] at ha
    repeat' (first | cases ha | (focus (simp [Option.bind_eq_some_iff] at ha; done)) | split at ha)
set_option maxHeartbeats 4000000 in
theorem act_thr {y pc a : Nat} {i : ClassFile.Instr} {ls st : List Value} {h : mm_H} (ha : mm_act y pc i ls st h = some (.inr (.inr (.inr a)))) : i = .athrow ∧ ∃ r, st = .ref a :: r := by
  cases i with
  | athrow =>
    simp only [mm_act, mm_if] at ha
    split at ha
    · split at ha
      · cases ha
        exact ⟨rfl, _, rfl⟩
      · cases ha
    · cases ha
  | _ =>
    simp only [mm_act, mm_go, mm_if, mm_call, mm_callV, mm_callI] at ha
    repeat' (first | cases ha | (focus (simp [Option.bind_eq_some_iff] at ha; done)) | split at ha)
theorem mm_len1 {y pc len : Nat} {i : ClassFile.Instr} (hc : tb_cod y pc = some (i, len)) {k : Nat} (hk : mm_lk i = k) (h0 : k ≠ 0) : len = k := by
  rcases (mm_lkb hc).1 with q | q
  · exact q.symm.trans hk
  · exact absurd (hk.symm.trans q) h0
set_option maxHeartbeats 4000000 in
theorem mm_sound {P : mm_P} {l : Launch} (ox : mm_OX P l) (om : mm_OM P) (oc : mm_OC P) : ∀ (n d y pc : Nat) (ls st : List Value) (h : mm_H) (res : Option Value ⊕ Nat) (h' : mm_H), mm_run n d y pc ls st h = some (res, h') →
    (mm_n h ≤ mm_n h' ∧ mm_z h ≤ mm_z h') ∧ ∀ (n0 z0 : Nat) (p : Program) (e : Env) (R : Room) (s : State) (m : MethodId) (args : Array Value) (below : List Frame) (meth : Method) (c : Code), mm_Cx P y d p R s m meth c → mm_n h' ≤ n0 + R.cells → mm_z h' ≤ z0 + R.slots → mm_G P y n0 z0 p l e R s m args below meth c (mm_fin P s below n0 z0 res h') pc ls st h := by
  intro n
  induction n with
  | zero => intro d y pc ls st h res h' hr; simp [mm_run] at hr
  | succ n ih =>
    intro d y pc ls st h res h' hr
    rw [mm_run] at hr
    cases hc : tb_cod y pc with
    | none => simp [hc] at hr
    | some q =>
      obtain ⟨i, len⟩ := q
      simp only [hc] at hr
      cases ha : mm_act y pc i ls st h with
      | none => simp [ha] at hr
      | some A =>
        simp only [ha] at hr
        rcases A with g | cc | v | a
        · obtain ⟨pc', ls', st', h2⟩ := g
          obtain ⟨⟨m1, m2⟩, G1⟩ := ih _ _ _ _ _ _ _ _ hr
          obtain ⟨⟨m3, m4⟩, G2⟩ := sim_go hc ha
          refine ⟨⟨Nat.le_trans m3 m1, Nat.le_trans m4 m2⟩, fun n0 z0 p e R s m args below meth c C r1 r2 => ?_⟩
          exact G2 P d n0 z0 p l e R s m args below meth c _ ox om C (Nat.le_trans m1 r1) (Nat.le_trans m2 r2) (G1 n0 z0 p e R s m args below meth c C r1 r2)
        · obtain ⟨z, as, rest⟩ := cc
          cases d with
          | zero => simp at hr
          | succ d' =>
            simp only at hr
            obtain ⟨k, hk, hz, hlen, hok, rfl, rfl, hi⟩ := act_call ha
            cases h1 : mm_run n d' z 0 (mm_ent z (st.take (tb_na z)).reverse) [] h with
            | none => simp [h1] at hr
            | some x =>
              obtain ⟨res1, h2⟩ := x
              obtain ⟨⟨m1, m2⟩, G1⟩ := ih _ _ _ _ _ _ _ _ h1
              have main : ((mm_n h2 ≤ mm_n h' ∧ mm_z h2 ≤ mm_z h') ∧ ∀ (n0 z0 : Nat) (p : Program) (e : Env) (R : Room) (s : State) (m : MethodId) (args : Array Value) (below : List Frame) (meth : Method) (c : Code), mm_Cx P y (d' + 1) p R s m meth c → mm_n h' ≤ n0 + R.cells → mm_z h' ≤ z0 + R.slots → mm_K P y n0 z0 p l e R s m args below meth c (mm_fin P s below n0 z0 res h') pc ls (st.drop (tb_na z)) res1 h2) := by
                simp only [h1] at hr
                rcases res1 with v | a
                · obtain ⟨⟨m3, m4⟩, G2⟩ := ih _ _ _ _ _ _ _ _ hr
                  exact ⟨⟨m3, m4⟩, fun n0 z0 p e R s m args below meth c C r1 r2 => mm_K.ret (G2 n0 z0 p e R s m args below meth c C r1 r2)⟩
                · simp only at hr
                  cases hh : mm_hnd y pc (mm_s h2 a).1 with
                  | none =>
                    simp only [hh] at hr
                    split at hr
                    · rename_i hcv
                      cases hr
                      exact ⟨⟨Nat.le_refl _, Nat.le_refl _⟩, fun n0 z0 p e R s m args below meth c C r1 r2 => mm_K.thr C hcv⟩
                    · cases hr
                  | some pc' =>
                    simp only [hh] at hr
                    obtain ⟨⟨m3, m4⟩, G2⟩ := ih _ _ _ _ _ _ _ _ hr
                    exact ⟨⟨m3, m4⟩, fun n0 z0 p e R s m args below meth c C r1 r2 => oc _ _ _ _ _ _ _ _ _ _ _ _ _ _ _ _ _ _ _ _ _ C hh (G2 n0 z0 p e R s m args below meth c C r1 r2)⟩
              obtain ⟨⟨m3, m4⟩, KK⟩ := main
              refine ⟨⟨Nat.le_trans m1 m3, Nat.le_trans m2 m4⟩, fun n0 z0 p e R s m args below meth c C r1 r2 => ?_⟩
              have IH := fun (R' : Room) (s' : State) (m' : MethodId) (args' : Array Value) (below' : List Frame) (meth' : Method) (c' : Code) C' q1 q2 => G1 (mm_n h) (mm_z h) p e R' s' m' args' below' meth' c' C' q1 q2
              have K := KK n0 z0 p e R s m args below meth c C r1 r2
              have hib := (mm_lkb hc).2
              rcases hi with ⟨rfl, hst⟩ | ⟨rfl, hst, a, hv, hka⟩ | ⟨rfl, hst, a, hv⟩
              · obtain rfl := mm_len1 hc (k := 3) rfl (by decide)
                exact sg_static C hc hk hz hst hlen.1 hlen.2 hok (Nat.le_trans m3 r1) (Nat.le_trans m4 r2) m1 m2 IH K
              · obtain rfl := mm_len1 hc (k := 3) rfl (by decide)
                simp only [mm_ib, hk, decide_eq_true_eq] at hib
                exact sg_virtual C hc hk hz hst hib.1 hib.2 hlen.1 hlen.2 hv hka hok (Nat.le_trans m3 r1) (Nat.le_trans m4 r2) m1 m2 IH K
              · obtain rfl := mm_len1 hc (k := 3) rfl (by decide)
                simp only [mm_ib, hk, Bool.or_eq_true, beq_iff_eq, decide_eq_false_iff_not, decide_eq_true_eq] at hib
                have hib2 := hib.resolve_left (fun q => q hz)
                exact sg_special C hc hk hz hst hib2.1 hib2.2.1 hib2.2.2 hlen.1 hlen.2 hv hok (Nat.le_trans m3 r1) (Nat.le_trans m4 r2) m1 m2 IH K
        · cases hr
          refine ⟨⟨Nat.le_refl _, Nat.le_refl _⟩, fun n0 z0 p e R s m args below meth c C r1 r2 => ?_⟩
          rcases act_ret ha with ⟨rfl, x, r, rfl, rfl, ht⟩ | ⟨rfl, x, r, rfl, rfl, ht⟩ | ⟨rfl, o, r, rfl, rfl, ht⟩ | ⟨rfl, rfl, ht⟩
          · obtain rfl := mm_len1 hc (k := 1) rfl (by decide)
            exact sg_iret C hc ht
          · obtain rfl := mm_len1 hc (k := 1) rfl (by decide)
            exact sg_lret C hc ht
          · obtain rfl := mm_len1 hc (k := 1) rfl (by decide)
            exact sg_aret C hc ht
          · obtain rfl := mm_len1 hc (k := 1) rfl (by decide)
            exact sg_vret C hc ht
        · obtain ⟨rfl, r, rfl⟩ := act_thr ha
          obtain rfl := mm_len1 hc (k := 1) rfl (by decide)
          simp only at hr
          cases hh : mm_hnd y pc (mm_s h a).1 with
          | none =>
            simp only [hh] at hr
            split at hr
            · rename_i hcv
              cases hr
              exact ⟨⟨Nat.le_refl _, Nat.le_refl _⟩, fun n0 z0 p e R s m args below meth c C r1 r2 => sg_athrow C hc (mm_K.thr C hcv)⟩
            · cases hr
          | some pc' =>
            simp only [hh] at hr
            obtain ⟨⟨m3, m4⟩, G2⟩ := ih _ _ _ _ _ _ _ _ hr
            exact ⟨⟨m3, m4⟩, fun n0 z0 p e R s m args below meth c C r1 r2 => sg_athrow C hc (oc _ _ _ _ _ _ _ _ _ _ _ _ _ _ _ _ _ _ _ _ _ C hh (G2 n0 z0 p e R s m args below meth c C r1 r2))⟩
