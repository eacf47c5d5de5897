/-! the law's entry -/
theorem ed_lays {s V : State} (hal : s.vm.Alike V.vm) (hq : ∀ q : Nat, q < s.heap.size → V.heap[q]? = s.heap[q]?) {C n d : String} {a a' : Array Value} (h : (Cond.laysStatic C n d).before a s = true) : (Cond.laysStatic C n d).before a' V = true := by
  simp only [Cond.before, Cond.holds, Cond.value] at h ⊢
  cases h1 : s.vm.findClass C with
  | none => simp [h1] at h
  | some c =>
    cases h2 : s.fieldFound? C n d with
    | none => simp [h1, h2] at h
    | some w =>
      obtain ⟨c', k, i, f⟩ := w
      obtain ⟨k', hf', hk'⟩ := State.fieldFound?_setVm hal h2
      have hf' : V.fieldFound? C n d = some (c', k', i, f) := hf'
      have e1 : k'.statics = k.statics := by rw [hk']
      have e2 : k'.staticTypes = k.staticTypes := by rw [hk']
      simp only [h1, h2] at h
      simp only [hal.findClass, h1, hf', e1, e2]
      cases h3 : k.statics with
      | none => simp [h3] at h
      | some q =>
        simp only [h3, Option.bind_some] at h ⊢
        cases h4 : s.heap[q]? with
        | none => simp [h4] at h
        | some cell =>
          rw [hq q (Array.getElem?_eq_some_iff.mp h4).1, h4]
          rw [h4] at h
          exact h
theorem ed_isref {s V : State} (hal : s.vm.Alike V.vm) (hq : ∀ q : Nat, q < s.heap.size → V.heap[q]? = s.heap[q]?) {C n d : String} {a a' : Array Value} (h : (Cond.isRef (.static C n d)).before a s = true) : (Cond.isRef (.static C n d)).before a' V = true := by
  have key : ∀ v, (Term.static C n d).eval a s none [] s = some v → (Term.static C n d).eval a' V none [] V = some v := by
    intro v hv
    simp only [Term.eval, State.fieldNamed?, Option.bind_eq_bind, Option.bind_eq_some_iff, Option.pure_def, Prod.exists] at hv ⊢
    obtain ⟨c, k, sl, ⟨c2, k2, i2, f2, hf, hr⟩, q, hst, cell, hcell, hv⟩ := hv
    obtain ⟨k', hf', hk'⟩ := State.fieldFound?_setVm hal hf
    have hf' : V.fieldFound? C n d = some (c2, k', i2, f2) := hf'
    have e1 : k'.statics = k2.statics := by rw [hk']
    by_cases hs : f2.isStatic = true
    · simp [hs] at hr
      obtain ⟨rfl, rfl, rfl⟩ := hr
      refine ⟨c2, k', f2.slot, ⟨c2, k', i2, f2, hf', by simp [hs]⟩, q, by rw [e1]; exact hst, cell, ?_, hv⟩
      rw [hq q (Array.getElem?_eq_some_iff.mp hcell).1]; exact hcell
    · simp [hs] at hr
  cases hv : (Term.static C n d).eval a s none [] s with
  | none => simp [Cond.before, Cond.holds, Cond.value, hv] at h
  | some v =>
    simp only [Cond.before, Cond.holds, Cond.value, hv] at h
    simp only [Cond.before, Cond.holds, Cond.value, key v hv]
    exact h
theorem ed_arr {s : State} {a : Array Value} {ty : FieldType} (h : (Cond.arrayClass ty).before a s = true) : ∃ cA : ClassId, ArrOfT s cA ty ∧ s.vm.findClass ("[" ++ ty.toString) = some cA := by
  obtain ⟨c, k, comp, h1, h2, h3⟩ := Cond.arrayClass_spec h
  exact ⟨c, fun n z => ⟨(fun k9 h9 => by cases h9), k, h2, comp, h3⟩, h1⟩
theorem ed_arr2 {s : State} {a : Array Value} (h : (Cond.arrayOver (.array .int)).before a s = true) : ∃ cA : ClassId, ArrOfT s cA (.array .int) ∧ s.vm.findClass ("[" ++ (FieldType.array .int).toString) = some cA := by
  simp only [Cond.before, Cond.holds, Cond.value] at h
  cases h1 : s.vm.findClass (FieldType.array .int).toString with
  | none => simp [h1] at h
  | some comp =>
    simp only [h1, Option.bind_some, beq_iff_eq] at h
    obtain ⟨c, -, h⟩ := Option.bind_eq_some_iff.mp h
    obtain ⟨k, h3, h⟩ := Option.map_eq_some_iff.mp h
    cases h4 : k.kind with
    | array cc ty =>
      simp [h4] at h
      exact ⟨c, fun n z => ⟨(fun k9 h9 => by cases h9), k, h3, cc, by rw [h4, h.1]⟩, h.2⟩
    | _ => simp [h4] at h
theorem ed_inst (ci : Nat) (r : vw_C) (hr : ed_cl[ci]? = some r) : Cond.instantiable r.1 r.2.2 ∈ lw_tbl := by
  match ci, hr with
  | 0, hr => cases hr; exact tb1 17 rfl
  | 1, hr => cases hr; exact tb1 25 rfl
  | 2, hr => cases hr; exact tb1 57 rfl
  | 3, hr => cases hr; exact tb1 96 rfl
  | 4, hr => cases hr; exact tb1 165 rfl
  | 5, hr => cases hr; exact tb1 191 rfl
  | 6, hr => cases hr; exact tb1 197 rfl
  | 7, hr => cases hr; exact tb3 182 rfl
  | ci + 8, hr => cases hr
theorem ed_start {s : State} {b : Nat} (hts : ∀ w ∈ lw_tbl, w.before #[Value.ref b] s = true) (hgv : (Jvm.Cond.and given_1 narrow_1).before #[Value.ref b] s = true) : ∃ g : ed_g, g.1 = s.heap.size ∧ g.2.1 = b ∧ g.2.2.1 = s.heap ∧ ed_ok g s := by
  have hs := flat_of_before _ hgv
  have hT : ed_T s := fun w hw h9 => ed_word h9 (State.WarmedH.refl s) (hts w hw)
  have hK : ∀ c : Nat, ∃ p : ClassId × (Nat → Nat), ∀ q, ed_cl[c]? = some q → u_Kn s q.1 q.2.1 q.2.2 p.1 p.2 := by
    intro c
    cases hc : ed_cl[c]? with
    | none => exact ⟨(0, fun _ => 0), fun q h => by cases h⟩
    | some q =>
      obtain ⟨cC, iS, h⟩ := u_known hts (fun w hw => (ed_cl_good c q hc w hw).1) (hts _ (ed_inst c q hc))
      exact ⟨(cC, iS), fun q' h' => by cases h'; exact h⟩
  obtain ⟨a0, h0, h0'⟩ := ed_arr (hts _ (tb1 54 rfl))
  obtain ⟨a1, h1, h1'⟩ := ed_arr (hts _ (tb1 94 rfl))
  obtain ⟨a2, h2, h2'⟩ := ed_arr (hts _ (tb1 55 rfl))
  obtain ⟨a3, h3, h3'⟩ := ed_arr2 (hts _ (tb1 102 rfl))
  refine ⟨(s.heap.size, b, s.heap, fun k => match k with | 0 => a0 | 1 => a1 | 2 => a2 | _ => a3, (fun c => (Classical.choose (hK c)).1, fun c => (Classical.choose (hK c)).2)), rfl, rfl, rfl, hT, ⟨fun c q hq => Classical.choose_spec (hK c) q hq, ?_⟩, ?_, ?_⟩
  · intro k q hq
    match k, hq with
    | 0, hq => cases hq; exact ⟨h0, h0'⟩
    | 1, hq => cases hq; exact ⟨h1, h1'⟩
    | 2, hq => cases hq; exact ⟨h2, h2'⟩
    | 3, hq => cases hq; exact ⟨h3, h3'⟩
    | k + 4, hq => cases hq
  · intro V hV hq w hw a
    rcases List.mem_cons.mp hw with rfl | hw
    · exact ed_isref hV hq (hs _ (by decide +kernel))
    rcases List.mem_cons.mp hw with rfl | hw
    · exact ed_isref hV hq (hs _ (by decide +kernel))
    rcases List.mem_cons.mp hw with rfl | hw
    · exact ed_lays hV hq (hts _ (tb2 62 rfl))
    rcases List.mem_cons.mp hw with rfl | hw
    · exact ed_lays hV hq (hts _ (tb2 64 rfl))
    · cases hw
  · refine ⟨va_Nc.of (hs _ (by decide +kernel)), ?_⟩
    exact hts _ (tb1 102 rfl)
theorem ed_fresh {s t : State} {Lc : List Loc} {mc ms : Nat} (hL : ∀ q ∈ Lc, s.heap.size ≤ q.base) (h : s.sameButNew t Lc mc ms) : s.sameButNew t [] mc ms := by
  obtain ⟨h1, h2, h3, h4, h5, h6⟩ := h
  refine ⟨h1, h2, h3, h4, h5, fun a c hc => ?_⟩
  obtain ⟨c', e1, e2, e3, e4⟩ := h6 a c hc
  refine ⟨c', e1, e2, e3, fun i _ => e4 i (fun hm => ?_)⟩
  have := hL _ hm
  have h9 := (Array.getElem?_eq_some_iff.mp hc).1
  exact absurd h9 (Nat.not_lt.mpr this)
def R_law : String := "EstateDeskLaw"
def lw_P (b : Addr) (xs : List Int32) (args : Array Value) (s : State) : Prop := args = #[.ref b] ∧ s.IntsAt b xs ∧ xs.length ≤ 2560 ∧ (Jvm.Cond.and given_1 narrow_1).before args s = true
def lw_Q (_ : Array Value) (s : State) (o : Outcome) (t : State) : Prop := o = .returned (some (.int 1)) ∧ Framed s o t [] 601024 7293033
def lw_Z (below : List Frame) (a : Array Value) (s : State) : State → Prop := fun t => ∃ o, t.status = .running ∧ Ended t below o ∧ lw_Q a s o t
/-- what holds at the law's entry: the machine, the code, the tables' words (any of lw_tbl by 'hts w (by decide +kernel)'), the script of L ints xs at the cell b, what the Statement gives of the start (any of its parts by flat_of_before) -/
def lw_At (p : Program) (s : State) (m : MethodId) (meth : Method) (c : Code) (b L : Nat) (xs : Nat → Int32) : Prop :=
  p.tables.exec = Jvm.exec ∧ c.code = code ∧ meth.sig.returnType = ret ∧ c.maxLocals = 8 ∧ s.vm.findClass R_law = some m.cls ∧ (∀ w ∈ lw_tbl, w.before #[Value.ref b] s = true) ∧ va_X b L xs s s.heap ∧ b < s.heap.size ∧ meth.locks = false ∧ c.exceptionTable.toList = [] ∧ meth.name = "law" ∧ (Jvm.Cond.and given_1 narrow_1).before #[Value.ref b] s = true
theorem whole_start {p : Program} {e : Env} {s : State} {m : MethodId} {below : List Frame} {meth : Method} {c : Code} (l : Launch) (hfl : l.stackTraces = false) {b L : Nat} {xs : Nat → Int32} (hL : L ≤ 2560) (C0 : lw_At p s m meth c b L xs) : W p l e room_1 s m #[Value.ref b] below meth c s.heap [] 0 0 (lw_Z below #[Value.ref b] s) (entryFrame m ([Value.ref b] : List Value).toArray 8) := by
  obtain ⟨hx, hb, hr, hml, hown, hts, hX, hbl, hlocks, htab, hname, hgv⟩ := C0
  obtain ⟨g, g1, g2, g3, hok⟩ := ed_start hts hgv
  have C : Cx g (p, l, e, room_1, s, m, #[Value.ref b], below, meth, c) mL_law room_1 := ⟨hx, hb, hml, hown, hlocks, hfl, hok, rfl, hr, by show c.exceptionTable.toList.map _ = []; rw [htab]; rfl, hname⟩
  have hS : Sc g (p, l, e, room_1, s, m, #[Value.ref b], below, meth, c) L (fun j => (xs j.toNat).toInt) := ⟨by omega, by rw [g1, g2]; exact hbl, xs, by rw [g2, g3]; exact hX, fun _ => rfl⟩
  have hent := lv_entry [Value.ref b] (n := 8) (Nat.le_of_ble_eq_true rfl)
  rw [lg_entry_eq]
  have k := w_law (post := fun o _ _ _ => o = .inl (some (.int (iZ 1)))) (mc := 601024) (ms := 7293033) C hS ⟨by decide, by decide, by decide, by decide⟩ (fun i I L i0 i1 h0 h => sok hfl h) (fun _ _ => rfl) (by omega)
  refine ed_mono ?_ (k s.heap [] _ ⟨⟨by rw [g1]; exact Nat.le_refl _, fun _ => by rw [g1]; rfl⟩, fun q hq => by rw [g3], fun k q h => by cases k <;> cases h⟩ (fun _ h => by cases h) ?_)
  · rintro t ⟨o, h1, h2, Lc, Y, I, L', hLc, hW, hsm, -, hres⟩
    rcases hres with ⟨v, rfl, hv⟩ | ⟨q, E, ce, -, -, -, -, hv⟩
    · cases hv
      exact ⟨_, h1, h2, rfl, ⟨_, rfl⟩, hW, ed_fresh (fun q hq => by have := hLc q hq; rw [g1] at this; exact this) hsm⟩
    · cases hv
  · have e9 : ed_lv g [(0, Value.retAddr 0)] = lv_args 0 [Value.ref b] := by
      show [(0, Value.ref g.2.1)] = [(0, Value.ref b)]
      rw [g2]
    rw [e9]
    exact hent
set_option maxHeartbeats 4000000 in
theorem lw_walk (l : Launch) (hfl : l.stackTraces = false) (b : Addr) (xs : List Int32) : MetFree l x (headSpec (Jvm.Cond.code x code maxLocals ret :: tables_1) room_1) (lw_P b xs) (fun _ _ _ _ _ => True) lw_Q := by
  refine MetFree.of_bodyS (code := code) (maxLocals := maxLocals) (ret := ret) (by decide) ?_ ?_
  · intro args s m h hn
    obtain ⟨meth, c, h1, h2, h3, h4, h5, h6, -, -⟩ := Cond.code_spec hn (atoms_spec (ws := Jvm.Cond.code x code maxLocals ret :: tables_1) h _ List.mem_cons_self)
    exact ⟨meth, c, h1, h2, h3, h4, h5, h6⟩
  · intro p e s m args below meth c s₁ B hml0 hP _
    obtain ⟨rfl, hx, hbd, hgv⟩ := hP
    obtain ⟨scr, harrAt, hlist, hof, hsmall⟩ := hx
    obtain ⟨hcb, hkn, -, -⟩ := State.arrayAt?_spec harrAt
    obtain ⟨meth9, c9, q1, q2, -, -, -, -, q7, -⟩ := Cond.code_spec B.named (atoms_spec (ws := Jvm.Cond.code x code maxLocals ret :: tables_1) B.pre _ List.mem_cons_self)
    cases Option.some.inj (q1.symm.trans B.method)
    cases Option.some.inj (q2.symm.trans (Stand.of_body B).code)
    have htab : c.exceptionTable.toList = [] := by rw [Array.isEmpty_iff.mp q7]
    have hown : s.vm.findClass R_law = some m.cls := findClass_of_methodNamed B.named
    have hts0 : ∀ c ∈ (Jvm.Cond.code x code maxLocals ret :: tables_1), c.before #[Value.ref b] s = true := atoms_spec (ws := Jvm.Cond.code x code maxLocals ret :: tables_1) B.pre
    have hts : ∀ w ∈ lw_tbl, w.before #[Value.ref b] s = true := k2_hts_sels lw_privs (fun w hw => hts0 w (List.mem_cons_of_mem _ hw)) lw_privs_ok
    have hml : c.maxLocals = 8 := B.maxLocals_eq (hts0 _ List.mem_cons_self)
    have X₀ : Stand p l e room_1 s m #[Value.ref b] below meth c s₁ [] 0 0 := Stand.of_body B
    have hh0 : s₁.heap = s.heap := by rw [B.state]; rfl
    have hsz : scr.slots.size = xs.length := by rw [← Array.length_toList, hlist, List.length_map]
    have hval : ∀ j : Nat, j < xs.length → scr.slots[j]? = some (.int (xs.getD j 0)) := fun j hj => by
      rw [← Array.getElem?_toList, hlist]
      simp [hj]
    have hbl : b < s.heap.size := (Array.getElem?_eq_some_iff.mp hcb).1
    have hX : va_X b xs.length (fun j => xs.getD j 0) s s.heap := ⟨scr, hcb, hof, hkn, hsz, hval⟩
    have K : W p l e room_1 s m #[Value.ref b] below meth c s₁.heap [] 0 0 (lw_Z below #[Value.ref b] s) (entryFrame m ([Value.ref b] : List Value).toArray 8) := by
      rw [hh0]
      exact whole_start l hfl hbd ⟨B.exec, B.bytes, B.returns, hml, hown, hts, hX, hbl, B.notSynchronized, htab, (name_of_methodNamed B.named B.method).1, hgv⟩
    obtain ⟨t, a1, o, b1, b2, b3⟩ := K s₁ rfl X₀
    exact ⟨t, o, a1, b1, b2, b3⟩
theorem lw_pre_spec {args : Array Value} {s : State} (h : (Jvm.Cond.and given_1 narrow_1).before args s = true) (hr : rest_1_c.before args s = true) : ∃ (b : Addr) (xs : List Int32), lw_P b xs args s := by
  have hs := flat_of_before _ h
  have hq := flat_of_before _ hr
  have hc : (Cond.count 1).before args s = true := hs _ (by decide +kernel)
  have harr : (Cond.arrayOf (.arg 0) .int).before args s = true := hs _ (by decide +kernel)
  have hle : (Cond.le (.length (.arg 0)) (.int 2560)).before args s = true := hs _ (by decide +kernel)
  have hlen : (Cond.isInt (.length (.arg 0))).before args s = true := hq _ (by decide +kernel)
  have hall : (Cond.all (.arg 0) (.isInt (.elem (.arg 0) (.index 0)))).before args s = true := hq _ (by decide +kernel)
  obtain ⟨b, xs, hb, hx⟩ := State.ints_of_pre rfl harr hlen hall
  have hsm : xs.length < 2 ^ 31 := hx.choose_spec.2.2.2
  have hev : (Term.length (.arg 0)).eval args s none [] s = some (.int xs.length.toInt32) := hx.length_eval hb
  have hv := Cond.le_ints hev (show (Term.int 2560).eval args s none [] s = some (.int 2560) from rfl)
  have hd : xs.length.toInt32 ≤ 2560 := by
    simpa [Cond.before, Cond.holds, hv] using hle
  have hN : xs.length ≤ 2560 := (Int32.ofNat_le_ofNat hsm (by decide)).mp (show Int32.ofNat xs.length ≤ Int32.ofNat 2560 from hd)
  exact ⟨b, xs, Cond.one_arg hc (show args[0]? = some (.ref b) from hb), hx, hN, h⟩
theorem lw_comes (l : Launch) (hfl : l.stackTraces = false) : Comes l x (Jvm.Cond.code x code maxLocals ret :: tables_1) room_1 (fun tb e args s => Calls_1 tb e args s ∧ rest_1 tb e args s ∧ Pre_1 tb e args s)
    (fun _ _ args s o t => lw_Q args s o t) := by
  intro p e ha hc hk s m args below hf hfit hheap happ hpre
  obtain ⟨b, xs, hP⟩ := lw_pre_spec hpre.2.2 hpre.2.1
  obtain ⟨k, o, h1, h2, h3, hQ⟩ := lw_walk l hfl b xs p e ha hc hk s m args below hf ((Spec.applies_iff_loose hf).mp happ).1 hP trivial
  exact ⟨k, o, h1, h2, h3, hQ⟩
theorem lw_frame {s t : State} {o : Outcome} {args : Array Value} (h : Framed s o t [] 601024 7293033) :
    Framed s o t (fieldLocs frame_1_writes args s ++ arrayLocs frame_1_arrays args s ++ staticLocs frame_1_statics s) 601024 7293033 := h
theorem lw_limb (L : Cond) (hL : ∀ (args : Array Value) (s t : State), L.after args s (.returned (some (.int 1))) t = true) :
    ArmFor flags0 classFile x code maxLocals ret World_1 tables_1 room_1 Calls_1 rest_1 Pre_1
      (fun tb e a s o t => postC L tb e a s o t ∧ Framed s o t (fieldLocs frame_1_writes a s ++ arrayLocs frame_1_arrays a s ++ staticLocs frame_1_statics s) 601024 7293033) := by
  intro l hf0 _ _ p e ha hc hk s m args below hf hfit hheap happ hpre
  obtain ⟨k, o, h1, h2, h3, rfl, hF⟩ := lw_comes l (by unfold Launch.stackTraces; rw [hf0]; decide +kernel) p e ha hc hk s m args below hf hfit hheap happ hpre
  exact ⟨k, _, h1, h2, h3, hL args s _, lw_frame hF⟩
theorem i_vc : Claimed_1_1 ∧ Claimed_1_2 := ⟨lw_limb limb_1_1 (fun args s t => by simp [limb_1_1, Cond.after, Cond.holds, Cond.value]), lw_limb limb_1_2 (fun args s t => Cond.after_iff.mpr (by
  first | (rw [show limb_1_2 = Cond.eq .result (.int 1) from rfl, Cond.eq_ints (x := 1) (y := 1) rfl rfl]; simp; done) | (simp [limb_1_2, Cond.value, Term.eval]; done)))⟩
