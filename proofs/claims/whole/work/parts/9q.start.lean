/-! THE START, AND THE CLAIM -/
def R_law : String := "LoadRoomLaw"
def lw_P (b : Addr) (xs : List Int32) (args : Array Value) (s : State) : Prop := args = #[.ref b] ∧ s.IntsAt b xs ∧ xs.length ≤ 2563 ∧ (Jvm.Cond.and given_1 narrow_1).before args s = true
def lw_Q (_ : Array Value) (s : State) (o : Outcome) (t : State) : Prop := o = .returned (some (.int 1)) ∧ Framed s o t [] 630326 7205092
def lw_Z (below : List Frame) (a : Array Value) (s : State) : State → Prop := fun t => ∃ o, t.status = .running ∧ Ended t below o ∧ lw_Q a s o t
/-- what holds at the law's entry: the machine, the code, the tables' words (any of lw_tbl by 'hts w (by decide +kernel)'), the script of L ints xs at the cell b, what the Statement gives of the start (any of its parts by flat_of_before) -/
def lw_At (p : Program) (s : State) (m : MethodId) (meth : Method) (c : Code) (b L : Nat) (xs : Nat → Int32) : Prop :=
  p.tables.exec = Jvm.exec ∧ c.code = code ∧ meth.sig.returnType = ret ∧ c.maxLocals = 8 ∧ s.vm.findClass R_law = some m.cls ∧ (∀ w ∈ lw_tbl, w.before #[Value.ref b] s = true) ∧ va_X b L xs s s.heap ∧ b < s.heap.size ∧ meth.locks = false ∧ (Jvm.Cond.and given_1 narrow_1).before #[Value.ref b] s = true
set_option maxRecDepth 100000 in
/-- the strings' words at the start -/
theorem lw_str_ok : (List.range 15).all (fun q => ((tb_str[q]?).map (fun z => decide (Cond.stringRef (tb_nm z.1.1) z.1.2 z.2.1 ∈ lw_tbl) && decide (Cond.exactly (.string (tb_nm z.1.1) z.1.2) "java/lang/String" ∈ flatC (Jvm.Cond.and given_1 narrow_1)))).getD false) = true := by decide +kernel
theorem lw_str_len : tb_str.length = 15 := by decide +kernel
set_option maxRecDepth 100000 in
theorem lw_nc_ok : (List.range 4).all (fun i => (List.range 4).all (fun j => decide (i = j) || decide (Cond.not (.castable (mm_xn i) (mm_xn j)) ∈ flatC (Jvm.Cond.and given_1 narrow_1)))) = true := by decide +kernel
set_option maxRecDepth 100000 in
theorem lw_wds : Cond.isRef (.static "java/lang/Throwable" "UNASSIGNED_STACK" "[Ljava/lang/StackTraceElement;") ∈ flatC (Jvm.Cond.and given_1 narrow_1) ∧ Cond.isRef (.static "java/lang/Throwable" "SUPPRESSED_SENTINEL" "Ljava/util/List;") ∈ flatC (Jvm.Cond.and given_1 narrow_1) ∧ Cond.laysStatic "java/lang/Throwable" "UNASSIGNED_STACK" "[Ljava/lang/StackTraceElement;" ∈ lw_tbl ∧ Cond.laysStatic "java/lang/Throwable" "SUPPRESSED_SENTINEL" "Ljava/util/List;" ∈ lw_tbl ∧
    Cond.arrayOver (.object "LoadRoom$Piece") ∈ lw_tbl ∧ Cond.arrayOver (.object "LoadRoom$Placed") ∈ lw_tbl ∧ Cond.arrayOver (.object "LoadRoom$Floor") ∈ lw_tbl ∧ Cond.arrayOver (.array .int) ∈ lw_tbl ∧ Cond.arrayClass .int ∈ lw_tbl := by decide +kernel
theorem lw_E1 {s : State} {A : Array Value} (hts : ∀ w ∈ lw_tbl, w.before A s = true) : mm_E1 s := by
  intro w hw hg a
  cases w with
  | fieldLinkNest c i r n d host => exact va_Nw.use rfl (va_Nw.of rfl (hts _ hw))
  | methodLinkNest c i x host => exact va_Nw.use rfl (va_Nw.of rfl (hts _ hw))
  | _ => exact word_at (State.WarmedH.refl s) (good_of_word hg) (hts _ hw)
theorem lw_G {s : State} {A : Array Value} (hts : ∀ w ∈ lw_tbl, w.before A s = true) : ∃ G : va_G, ∀ (k : Nat) (q : vw_C), tb_cl[k]? = some q → u_Kn s q.1 q.2.1 q.2.2 (G.1 k) (G.2 k) := by
  have h : ∀ k, ∃ (g : ClassId × (Nat → Nat)), k < 11 → u_Kn s (tb_nm k) (tb_u k) (mm_fn k) g.1 g.2 := by
    intro k
    by_cases hk : k < 11
    · have hks : k ∈ tb_ks := by
        simp only [tb_ks, List.mem_cons, List.not_mem_nil, or_false]
        omega
      obtain ⟨-, w2, w3⟩ := mm_kind hks
      have hnm : ((tb_kin.lookup k).getD ("", 0)).1 = tb_nm k := by
        rcases w3 with q | q
        · exact q.2.1
        · omega
      rw [hnm] at w2
      obtain ⟨cC, iS, q⟩ := u_known (T := tb_u k) (N := mm_fn k) hts (fun w hw => (List.mem_filter.mp (mm_lays hk w hw)).1) (hts _ w2)
      exact ⟨(cC, iS), fun _ => q⟩
    · exact ⟨(0, fun _ => 0), fun q => absurd q hk⟩
  refine ⟨(fun k => (Classical.choose (h k)).1, fun k => (Classical.choose (h k)).2), fun k q hq => ?_⟩
  have hk : k < 11 := by
    have := (List.getElem?_eq_some_iff.mp hq).1
    simpa using this
  rw [tb_cl_at k hk] at hq
  cases hq
  exact Classical.choose_spec (h k) hk
theorem lw_RA {s : State} {A : Array Value} {n : String} (h : (Cond.arrayOver (.object n)).before A s = true) : ∃ c, va_AO n s ∧ va_RA s c (.object n) := by
  obtain ⟨comp, cA, kA, hcomp, -, hkA, hkind, hname⟩ := Cond.arrayOver_spec h
  exact ⟨cA, va_AO.of h, kA, comp, hkA, hkind, hcomp, hname⟩
theorem lw_S1 {s : State} {A : Array Value} {b L : Nat} {xs : Nat → Int32} {n d : String} (hX : va_X b L xs s s.heap) (h1 : (Cond.laysStatic "java/lang/Throwable" n d).before A s = true) (h2 : (Cond.isRef (.static "java/lang/Throwable" n d)).before A s = true) : mm_S1 b s.heap.size s s.heap n d := by
  obtain ⟨c, k, i, f, a, cell, hc, hf, hst, ha, hcell, hs, hcls, hlt, hty⟩ := Cond.laysStatic_spec h1
  obtain ⟨u, hu⟩ := Cond.staticRefV hf hst ha hcell hs h2
  refine ⟨c, k, i, f, a, cell, u.v, hc, hf, hst, ha, ⟨(Array.getElem?_eq_some_iff.mp hcell).1, fun e => ?_⟩, hcell, ⟨hs, hcls, hlt, hty⟩, hu, u.ok⟩
  obtain ⟨scr, x1, x2, -⟩ := hX
  rw [← e] at x1
  cases Option.some.inj (hcell.symm.trans x1)
  cases hv : cell.vm with
  | statics q => exact x2.1 q hv
  | _ => rw [hv] at hs; cases hs
/-- the model's heap at the start: the script alone -/
def lw_h0 (L : Nat) (xs : Nat → Int32) : mm_H := ((1, 0), (fun a => if a = 0 then (20, L) else (15, 0)), (fun _ j => xs j), (fun _ _ => 0), (fun _ _ => none))
set_option maxHeartbeats 2000000 in
/-- all that the walk stands on, at the start -/
theorem lw_env {s : State} {b L : Nat} {xs : Nat → Int32} (hts : ∀ w ∈ lw_tbl, w.before #[Value.ref b] s = true) (hX : va_X b L xs s s.heap) (hbl : b < s.heap.size) (hgv : (Jvm.Cond.and given_1 narrow_1).before #[Value.ref b] s = true) :
    ∃ P : mm_P, P.1 = (b, s.heap.size) ∧ mm_Ev P s ∧ mm_rep P s (lw_h0 L xs) s.heap := by
  have hfl := flat_of_before _ hgv
  obtain ⟨w1, w2, w3, w4, w5, w6, w7, w8, w9⟩ := lw_wds
  obtain ⟨G, hG⟩ := lw_G hts
  obtain ⟨c23, a23, r23⟩ := lw_RA (hts _ w5)
  obtain ⟨c24, a24, r24⟩ := lw_RA (hts _ w6)
  obtain ⟨c25, a25, r25⟩ := lw_RA (hts _ w7)
  obtain ⟨comp, c26, k26, hcomp, -, hk26, hkd26, hn26⟩ := arrayOverA_spec (hts _ w8)
  obtain ⟨comp', kC, cc, hcomp', hkC, hkdC⟩ := Cond.arrayClass_spec (hts _ w9)
  have hcc : comp' = comp := Option.some.inj (hcomp'.symm.trans hcomp)
  subst hcc
  have hx : ∀ i, ∃ c, i < 4 → ClassAt s (mm_xn i) c := by
    intro i
    by_cases hi : i < 4
    · have hks : 30 + i ∈ tb_ks := by
        simp only [tb_ks, List.mem_cons, List.not_mem_nil, or_false]
        omega
      obtain ⟨-, v2, -⟩ := mm_kind hks
      obtain ⟨cC, kC', q1, q2, q3, -⟩ := Cond.instantiable_spec (hts _ v2)
      exact ⟨cC, fun _ => ⟨q1, kC', q2, q3⟩⟩
    · exact ⟨0, fun q => absurd q hi⟩
  have hs : ∀ q : Nat, ∃ a : Nat, ∀ z : (Nat × Nat) × String × Nat, tb_str[q]? = some z → vk_R (tb_nm z.1.1) z.1.2 z.2.1 a s := by
    intro q
    by_cases hq : q < 15
    · have hok := List.all_eq_true.mp lw_str_ok q (List.mem_range.mpr hq)
      cases hz : tb_str[q]? with
      | none => exact ⟨0, fun z h => by cases h⟩
      | some z =>
        rw [hz] at hok
        simp only [Option.map_some, Option.getD_some, Bool.and_eq_true, decide_eq_true_eq] at hok
        obtain ⟨a, -, -, -, h5, -⟩ := Cond.exactly_spec (hfl _ hok.2)
        refine ⟨a, fun z' hz' => ?_⟩
        cases hz'
        exact vk_R.of (hts _ hok.1) h5
    · exact ⟨0, fun z h => by
        have := (List.getElem?_eq_some_iff.mp h).1
        rw [lw_str_len] at this
        exact absurd this hq⟩
  refine ⟨((b, s.heap.size), (fun q => Classical.choose (hs q)), G, fun kd => if kd = 23 then c23 else if kd = 24 then c24 else if kd = 25 then c25 else if kd = 26 then c26 else Classical.choose (hx (kd - 30))), rfl, ?_, ?_⟩
  · refine ⟨lw_E1 hts, hG, ⟨⟨a23, r23⟩, ⟨a24, r24⟩, ⟨a25, r25⟩⟩, fun q z hz => Classical.choose_spec (hs q) z hz, fun i hi => ?_, fun i j hi hj hne => ?_, ⟨k26, kC, comp', cc, hn26, hk26, hkd26, hkC, hkdC⟩, Nat.le_refl _⟩
    · show ClassAt s (mm_xn i) (if 30 + i = 23 then c23 else if 30 + i = 24 then c24 else if 30 + i = 25 then c25 else if 30 + i = 26 then c26 else Classical.choose (hx (30 + i - 30)))
      rw [if_neg (by omega), if_neg (by omega), if_neg (by omega), if_neg (by omega), show 30 + i - 30 = i by omega]
      exact Classical.choose_spec (hx i) hi
    · have hok := List.all_eq_true.mp (List.all_eq_true.mp lw_nc_ok i (List.mem_range.mpr hi)) j (List.mem_range.mpr hj)
      simp only [Bool.or_eq_true, decide_eq_true_eq] at hok
      exact va_Nc.of (hfl _ (hok.resolve_left hne))
  · refine ⟨⟨Nat.le_refl _, lw_S1 hX (hts _ w3) (hfl _ w1), lw_S1 hX (hts _ w4) (hfl _ w2)⟩, rfl, hbl, rfl, fun a ha => ?_, fun a ha => ?_⟩
    · show (if a = 0 then (20, L) else (15, 0)).1 = 15
      rw [if_neg (by have : 1 ≤ a := ha; omega)]
    · obtain rfl : a = 0 := by have : a < 1 := ha; omega
      obtain ⟨scr, x1, x2, x3, x4, x5⟩ := hX
      exact ⟨scr, x1, x3, Or.inr (Or.inl ⟨⟨Nat.le_refl 20, (show 20 ≤ 26 by decide)⟩, x4, x2, fun q => absurd q (show ¬ 23 ≤ 20 by decide), x5⟩)⟩
set_option maxHeartbeats 2000000 in
/-- from the entry, for every script of at most 2563 ints, the law comes to its end with true -/
theorem whole_start {p : Program} {e : Env} {s : State} {m : MethodId} {below : List Frame} {meth : Method} {c : Code} (l : Launch) (hf : l.flags = flags0) {b L : Nat} {xs : Nat → Int32} (hL : L ≤ 2563) (hnm : s.methodNamed? x = some m) (hcw : (Jvm.Cond.code x code maxLocals ret).before #[Value.ref b] s = true) (C0 : lw_At p s m meth c b L xs) : W p l e room_1 s m #[Value.ref b] below meth c s.heap [] 0 0 (lw_Z below #[Value.ref b] s) (entryFrame m ([Value.ref b] : List Value).toArray 8) := by
  intro T hT X
  obtain ⟨c1, c2, c3, c4, c5, hts, hX, hbl, hlk, hgv⟩ := C0
  obtain ⟨meth', cd', d1, d2, -, -, -, -, d7, -⟩ := Cond.code_spec hnm hcw
  cases Option.some.inj (X.method.symm.trans d1)
  cases Option.some.inj (X.code.symm.trans d2)
  have htab : c.exceptionTable.toList = [] := by
    have h2 : c.exceptionTable.size = 0 := by simpa [Array.isEmpty] using d7
    exact List.length_eq_zero_iff.mp (by simpa using h2)
  obtain ⟨P, hP, hE, hrep⟩ := lw_env hts hX hbl hgv
  have hCx : mm_Cx P 0 40 p room_1 s m meth c := ⟨⟨c1, c2, c4, c3⟩, ⟨c5, hlk, (name_of_methodNamed hnm d1).1, hE⟩, ⟨by decide, by rw [htab]; rfl⟩, by decide, by decide⟩
  obtain ⟨n, r, h', hrun, rfl, q1, q2⟩ := lw_law (d := 0) (h0 := lw_h0 L xs) (len := L) (Q := fun r h' => r = .inl (some (.int 1)) ∧ mm_n h' ≤ 168 + L / 5 ∧ mm_z h' ≤ mm_z (lw_h0 L xs) + 1690 + 6 * (L / 5)) rfl rfl (by omega) (fun h' a1 a2 => ⟨rfl, a1, a2⟩)
  have q2' : mm_z h' ≤ 0 + 1690 + 6 * (L / 5) := q2
  obtain ⟨-, G⟩ := mm_sound (mm_ox P l hf) (mm_om P) (mm_oc P) _ _ _ _ _ _ _ _ _ hrun
  have G1 := G 1 0 p e room_1 s m #[Value.ref b] below meth c hCx (by show mm_n h' ≤ 1 + 630326; omega) (by show mm_z h' ≤ 0 + 7205092; omega)
  have hb0 : mm_rv P (.ref 0) = .ref b := by
    show Value.ref (mm_ad P 0) = _
    unfold mm_ad
    rw [if_pos rfl, hP]
  have hlv := mm_entry (P := P) (z := 0) (as := [.ref 0]) (by decide +kernel)
  rw [show ([Value.ref 0] : List Value).map (mm_rv P) = [.ref b] by rw [List.map_cons, List.map_nil, hb0]] at hlv
  obtain ⟨t, hs, hfin⟩ := G1 s.heap [] 0 0 _ hrep hlv (fun q hq => by cases hq) rfl rfl T hT X
  refine ⟨t, ?_, ?_⟩
  · rw [lg_entry_eq]
    exact hs
  · obtain ⟨f1, f2, f3, -, Ls, cells, slots, n1, z1, hsame, hbase⟩ := hfin
    refine ⟨_, f1, f2, rfl, ⟨_, rfl⟩, f3, hsame.weaken (fun y hy hlt => absurd hlt (Nat.not_lt.mpr ?_)) (by omega) (by omega)⟩
    have := hbase y hy
    rw [hP] at this
    exact this
set_option maxHeartbeats 4000000 in
theorem lw_walk (l : Launch) (hf : l.flags = flags0) (b : Addr) (xs : List Int32) : MetFree l x (headSpec (Jvm.Cond.code x code maxLocals ret :: tables_1) room_1) (lw_P b xs) (fun _ _ _ _ _ => True) lw_Q := by
  refine MetFree.of_bodyS (code := code) (maxLocals := maxLocals) (ret := ret) (by decide) ?_ ?_
  · intro args s m h hn
    obtain ⟨meth, c, h1, h2, h3, h4, h5, h6, -, -⟩ := Cond.code_spec hn (atoms_spec (ws := Jvm.Cond.code x code maxLocals ret :: tables_1) h _ List.mem_cons_self)
    exact ⟨meth, c, h1, h2, h3, h4, h5, h6⟩
  · intro p e s m args below meth c s₁ B hml0 hP _
    obtain ⟨rfl, hx, hbd, hgv⟩ := hP
    obtain ⟨scr, harrAt, hlist, hof, hsmall⟩ := hx
    obtain ⟨hcb, hkn, -, -⟩ := State.arrayAt?_spec harrAt
    have hown : s.vm.findClass R_law = some m.cls := findClass_of_methodNamed B.named
    have hts0 : ∀ c ∈ (Jvm.Cond.code x code maxLocals ret :: tables_1), c.before #[Value.ref b] s = true := atoms_spec (ws := Jvm.Cond.code x code maxLocals ret :: tables_1) B.pre
    have hts : ∀ w ∈ lw_tbl, w.before #[Value.ref b] s = true := k2_hts_sels lw_privs (fun w hw => hts0 w (List.mem_cons_of_mem _ hw)) lw_privs_ok
    have hml : c.maxLocals = 8 := B.maxLocals_eq (hts0 _ List.mem_cons_self)
    have X₀ : Stand p l e room_1 s m #[Value.ref b] below meth c s₁ [] 0 0 := Stand.of_body B
    have hh0 : s₁.heap = s.heap := by rw [B.state]; rfl
    have hsz : scr.slots.size = xs.length := by rw [← Array.length_toList, hlist, List.length_map]
    have hval : ∀ j : Nat, j < xs.length → scr.slots[j]? = some (.int (xs.getD j 0)) := fun j hj => by
      rw [← Array.getElem?_toList, hlist]
      simp [hj]
    have hbl : b < s.heap.size := (Array.getElem?_eq_some_iff.mp hcb).1
    have hX : va_X b xs.length (fun j => xs.getD j 0) s s.heap := ⟨scr, hcb, hof, hkn, hsz, hval⟩
    have K : W p l e room_1 s m #[Value.ref b] below meth c s₁.heap [] 0 0 (lw_Z below #[Value.ref b] s) (entryFrame m ([Value.ref b] : List Value).toArray 8) := by
      rw [hh0]
      exact whole_start l hf hbd B.named (hts0 _ List.mem_cons_self) ⟨B.exec, B.bytes, B.returns, hml, hown, hts, hX, hbl, B.notSynchronized, hgv⟩
    obtain ⟨t, a1, o, b1, b2, b3⟩ := K s₁ rfl X₀
    exact ⟨t, o, a1, b1, b2, b3⟩
theorem lw_pre_spec {args : Array Value} {s : State} (h : (Jvm.Cond.and given_1 narrow_1).before args s = true) (hr : rest_1_c.before args s = true) : ∃ (b : Addr) (xs : List Int32), lw_P b xs args s := by
  have hs := flat_of_before _ h
  have hq := flat_of_before _ hr
  have hc : (Cond.count 1).before args s = true := hs _ (by decide +kernel)
  have harr : (Cond.arrayOf (.arg 0) .int).before args s = true := hs _ (by decide +kernel)
  have hle : (Cond.le (.length (.arg 0)) (.int 2563)).before args s = true := hs _ (by decide +kernel)
  have hlen : (Cond.isInt (.length (.arg 0))).before args s = true := hq _ (by decide +kernel)
  have hall : (Cond.all (.arg 0) (.isInt (.elem (.arg 0) (.index 0)))).before args s = true := hq _ (by decide +kernel)
  obtain ⟨b, xs, hb, hx⟩ := State.ints_of_pre rfl harr hlen hall
  have hsm : xs.length < 2 ^ 31 := hx.choose_spec.2.2.2
  have hev : (Term.length (.arg 0)).eval args s none [] s = some (.int xs.length.toInt32) := hx.length_eval hb
  have hv := Cond.le_ints hev (show (Term.int 2563).eval args s none [] s = some (.int 2563) from rfl)
  have hd : xs.length.toInt32 ≤ 2563 := by
    simpa [Cond.before, Cond.holds, hv] using hle
  have hN : xs.length ≤ 2563 := (Int32.ofNat_le_ofNat hsm (by decide)).mp (show Int32.ofNat xs.length ≤ Int32.ofNat 2563 from hd)
  exact ⟨b, xs, Cond.one_arg hc (show args[0]? = some (.ref b) from hb), hx, hN, h⟩
theorem lw_comes (l : Launch) (hfl : l.flags = flags0) : Comes l x (Jvm.Cond.code x code maxLocals ret :: tables_1) room_1 (fun tb e args s => Calls_1 tb e args s ∧ rest_1 tb e args s ∧ Pre_1 tb e args s)
    (fun _ _ args s o t => lw_Q args s o t) := by
  intro p e ha hc hk s m args below hf hfit hheap happ hpre
  obtain ⟨b, xs, hP⟩ := lw_pre_spec hpre.2.2 hpre.2.1
  obtain ⟨k, o, h1, h2, h3, hQ⟩ := lw_walk l hfl b xs p e ha hc hk s m args below hf ((Spec.applies_iff_loose hf).mp happ).1 hP trivial
  exact ⟨k, o, h1, h2, h3, hQ⟩
theorem lw_frame {s t : State} {o : Outcome} {args : Array Value} (h : Framed s o t [] 630326 7205092) :
    Framed s o t (fieldLocs frame_1_writes args s ++ arrayLocs frame_1_arrays args s ++ staticLocs frame_1_statics s) 630326 7205092 := h
theorem lw_limb (L : Cond) (hL : ∀ (args : Array Value) (s t : State), L.after args s (.returned (some (.int 1))) t = true) :
    ArmFor flags0 classFile x code maxLocals ret World_1 tables_1 room_1 Calls_1 rest_1 Pre_1
      (fun tb e a s o t => postC L tb e a s o t ∧ Framed s o t (fieldLocs frame_1_writes a s ++ arrayLocs frame_1_arrays a s ++ staticLocs frame_1_statics s) 630326 7205092) := by
  intro l hfl _ _ p e ha hc hk s m args below hf hfit hheap happ hpre
  obtain ⟨k, o, h1, h2, h3, rfl, hF⟩ := lw_comes l hfl p e ha hc hk s m args below hf hfit hheap happ hpre
  exact ⟨k, _, h1, h2, h3, hL args s _, lw_frame hF⟩
theorem i_vc : Claimed_1_1 ∧ Claimed_1_2 := ⟨lw_limb limb_1_1 (fun args s t => by simp [limb_1_1, Cond.after, Cond.holds, Cond.value]), lw_limb limb_1_2 (fun args s t => Cond.after_iff.mpr (by
  first | (rw [show limb_1_2 = Cond.eq .result (.int 1) from rfl, Cond.eq_ints (x := 1) (y := 1) rfl rfl]; simp; done) | (simp [limb_1_2, Cond.value, Term.eval]; done)))⟩
