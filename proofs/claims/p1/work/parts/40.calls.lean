/-! calls, and what comes of a throw -/
section CALLS
variable {g : ed_g} {x : ed_x} {post : ed_post} {mc ms nL cells slots : Nat} {Y : ed_Y} {I : ed_I} {L : ed_L} {pc n : Nat} {ls : List (Nat × Value)} {st : List Value} {y : ed_m} {rm : Room}
/-- an object of class E has been thrown over this frame -/
def Gx (g : ed_g) (x : ed_x) (post : ed_post) (mc ms nL cells slots : Nat) (Y : ed_Y) (I : ed_I) (L : ed_L) (pc : Nat) (ls : List (Nat × Value)) (E : String) : Prop :=
  ∀ (H : Heap) (locs : List Loc) (la : Array Slot) (q : Addr) (ce : Cell) (rst : List Value) (T : State), ed_H g Y I L H → (∀ q ∈ locs, g.1 ≤ q.base) → lv_has la nL (ed_lv g ls) → H[q]? = some ce → ce.vm = .none → x.2.2.2.2.1.vm.findClass E = some ce.cls → T.heap = H →
    Stand x.1 x.2.1 x.2.2.1 x.2.2.2.1 x.2.2.2.2.1 x.2.2.2.2.2.1 x.2.2.2.2.2.2.1 x.2.2.2.2.2.2.2.1 x.2.2.2.2.2.2.2.2.1 x.2.2.2.2.2.2.2.2.2 T locs cells slots →
    ∃ t, Steps x.1.tables x.2.2.1 x.2.2.2.2.2.2.2.1 ((T.setTop (F0 x.2.2.2.2.2.1 pc la rst)).pushFrame (.throwing q)) t ∧ ed_Z g x post mc ms t
/-- behind a call at pc -/
def ed_K (g : ed_g) (x : ed_x) (post : ed_post) (mc ms nL cells slots : Nat) (pc n : Nat) (ls : List (Nat × Value)) (rest : List Value) : ed_post := fun o Y I L => match o with
  | .inl none => Gd g x post mc ms nL cells slots Y I L n ls rest
  | .inl (some v) => Gd g x post mc ms nL cells slots Y I L n ls (v :: rest)
  | .inr E => Gx g x post mc ms nL cells slots Y I L pc ls E
/-- no row of the method's table covers pc: the throw leaves the method -/
theorem gx_out (C : Cx g x y rm) {E : String} (hh : y.2.2.2.2 = []) (hc : cells ≤ mc) (hs : slots ≤ ms) (hp : post (.inr E) Y I L) : Gx g x post mc ms nL cells slots Y I L pc ls E := by
  intro H locs la q ce rst T hH hl hv hq hce hcl hT X
  have ht : x.2.2.2.2.2.2.2.2.2.exceptionTable.toList = [] := List.map_eq_nil_iff.mp (C.2.2.2.2.2.2.2.2.2.1.trans hh)
  obtain ⟨st1, hrun, hend, hW, hsm⟩ := X.leaveThrown q (g := F0 x.2.2.2.2.2.1 pc la rst) rfl rfl rfl (fun z hz => by rw [ht] at hz; cases hz) C.2.2.2.2.1
  refine ⟨_, st1, .threw q, hrun, hend, locs, Y, I, L, hl, hW, hsm.mono hc hs, ?_, Or.inr ⟨q, E, ce, rfl, ?_, hce, hcl, hp⟩⟩
  · show ed_H g Y I L T.heap
    rw [hT]; exact hH
  · show T.heap[q]? = some ce
    rw [hT]; exact hq
/-- a row takes it: on at the handler, whose first instruction stores the object into local i -/
theorem gx_in (C : Cx g x y rm) {E : String} {h i : Nat} (ht : ∀ (ce : Cell), x.2.2.2.2.1.vm.findClass E = some ce.cls → (∃ k, x.2.2.2.2.1.vm.classes[ce.cls]? = some k) ∧ jx_takes x.2.2.1.platform x.2.2.2.2.1 x.2.2.2.2.2.1.cls pc ce.cls x.2.2.2.2.2.2.2.2.2.exceptionTable.toList h)
    (d : Dv y h .astore_n .astore i n) (hn : i < nL) {ls' : List (Nat × Value)} (hs : ls.filter (lf1 i) = ls') (k : Gd g x post mc ms nL cells slots Y I L n ls' []) : Gx g x post mc ms nL cells slots Y I L pc ls E := by
  intro H locs la q ce rst T hH hl hv hq hce hcl hT X
  obtain ⟨hk0, ht⟩ := ht ce hcl
  obtain ⟨vm', X', hst⟩ := jx_caught X (f := F0 x.2.2.2.2.2.1 pc la rst) rfl (by rw [hT]; exact hq) hce hk0 ht
  subst hs
  have key : ∀ la', lv_has la' nL ((i, Value.ref q) :: (ed_lv g ls).filter (lf1 i)) → lv_has la' nL (ed_lv g (ls.filter (lf1 i))) := by
    intro la' h'
    refine ⟨h'.1, h'.2.1, fun z hz => h'.2.2 z (List.mem_cons_of_mem _ ?_)⟩
    obtain ⟨z0, hz0, rfl⟩ := List.mem_map.mp hz
    obtain ⟨h1, h2⟩ := List.mem_filter.mp hz0
    exact List.mem_filter.mpr ⟨List.mem_map.mpr ⟨z0, h1, rfl⟩, by rw [lf1_cv]; exact h2⟩
  have kk : W x.1 x.2.1 x.2.2.1 x.2.2.2.1 x.2.2.2.2.1 x.2.2.2.2.2.1 x.2.2.2.2.2.2.1 x.2.2.2.2.2.2.2.1 x.2.2.2.2.2.2.2.2.1 x.2.2.2.2.2.2.2.2.2 H locs cells slots (ed_Z g x post mc ms) (F0 x.2.2.2.2.2.1 h la [.ref q]) := by
    rcases d with ⟨j, d, rfl, rfl⟩ | ⟨d, rfl⟩
    · exact lv_astore_n C.1 C.2.1 d rfl hv hn rfl (fun la' h' => k H locs la' hH hl (key la' h'))
    · exact lv_astore C.1 C.2.1 d hv hn rfl (fun la' h' => k H locs la' hH hl (key la' h'))
  obtain ⟨t, a1, b1⟩ := kk (T.setVm vm') hT X'
  exact ⟨t, hst t a1, b1⟩
/-- a callee's own words -/
def Lz (z : ed_m) (np : Nat) : Prop := ed_cw z ∈ lw_tbl ∧ ed_stab (ed_cw z) = true ∧ Cond.initialized z.1.cls ∈ lw_tbl ∧ (z.1.cls ≠ "java/lang/invoke/MethodHandle" ∧ z.1.cls ≠ "java/lang/invoke/VarHandle") ∧ (parseMethodDescriptor z.1.desc).map (fun d => d.parameters.length) = some np
def LkS (y : ed_m) (pc n : Nat) (z : ed_m) : Prop := ∃ idx, decode y.2.1 pc = .ok (.invokestatic idx, 3) ∧ pc + 3 = n ∧ (Cond.methodLink y.1.cls idx z.1 ∈ lw_tbl ∨ ∃ host, Cond.methodLinkNest y.1.cls idx z.1 host ∈ lw_tbl) ∧ Cond.static z.1 ∈ lw_tbl
def LkV (y : ed_m) (pc n : Nat) (z : ed_m) : Prop := ∃ idx, decode y.2.1 pc = .ok (.invokevirtual idx, 3) ∧ pc + 3 = n ∧ (Cond.methodLink y.1.cls idx z.1 ∈ lw_tbl ∨ ∃ host, Cond.methodLinkNest y.1.cls idx z.1 host ∈ lw_tbl) ∧ Cond.instanceMethod z.1 ∈ lw_tbl ∧ Cond.selects z.1.cls z.1 z.1 ∈ lw_tbl
/-- what the words of a method say of it in a state -/
theorem ed_code {z : ed_m} {a : Array Value} {U : State} (h : (ed_cw z).before a U = true) : ∃ (mk : MethodId) (meth : Method) (c : Code), U.methodNamed? z.1 = some mk ∧ U.vm.method? mk = some meth ∧ meth.code = some c ∧ c.maxLocals = z.2.2.1 ∧ parseMethodDescriptor z.1.desc = some meth.sig := by
  obtain ⟨nm, cc, nL, ret, hh⟩ := z
  cases hh with
  | nil =>
    obtain ⟨mk, hn⟩ := Cond.code_named h
    obtain ⟨meth, c, h1, h2, -, h4, -, -, -, h8⟩ := Cond.code_spec hn h
    exact ⟨mk, meth, c, hn, h1, h2, h4, h8⟩
  | cons b t =>
    obtain ⟨mk, meth, c, hn, h1, h2, -, h4, -, -, -, h8⟩ := Cond.codeWith_spec h
    exact ⟨mk, meth, c, hn, h1, h2, h4, h8⟩
/-- the part that all calls have in common: from the invocation on -/
theorem ed_call (C : Cx g x y rm) {z : ed_m} {np d zc zs : Nat} (hz : Lz z np) {av rest : List Value} {ig : Instr} (hdg : decode y.2.1 pc = .ok (ig, 3)) (hr : (rest.map fun v => v.category).sum ≤ 8)
    (hroom : d + 7 ≤ rm.frames ∧ 8 + (z.2.2.1 + 11) + (40 * d + 84) ≤ rm.locals ∧ cells + zc ≤ rm.cells ∧ slots + zs ≤ rm.slots)
    (ct : ed_Ct g x.2.1 z d zc zs av Y I L (ed_K g x post mc ms nL (cells + zc) (slots + zs) pc (pc + 3) ls rest)) {H : Heap} {locs : List Loc} {la : Array Slot} (hH : ed_H g Y I L H) (hl : ∀ q ∈ locs, g.1 ≤ q.base) (hv : lv_has la nL (ed_lv g ls)) (hnL : y.2.2.1 = nL) {T : State} (hT : T.heap = H) {vm₁ : Vm}
    (X₁ : Stand x.1 x.2.1 x.2.2.1 x.2.2.2.1 x.2.2.2.2.1 x.2.2.2.2.2.1 x.2.2.2.2.2.2.1 x.2.2.2.2.2.2.2.1 x.2.2.2.2.2.2.2.2.1 x.2.2.2.2.2.2.2.2.2 (T.setVm vm₁) locs cells slots) {mk : MethodId} (hn : x.2.2.2.2.1.methodNamed? z.1 = some mk) {f : JFrame}
    (hstep : ∀ target, (∀ acts, Steps x.1.tables x.2.2.1 x.2.2.2.2.2.2.2.1 (doInvoke x.2.2.1 ((T.setVm vm₁).setTop (F0 x.2.2.2.2.2.1 pc la (rest.map (ed_cv g)))) acts mk (av.map (ed_cv g)).toArray).1 target) → Steps x.1.tables x.2.2.1 x.2.2.2.2.2.2.2.1 (T.setTop f) target) :
    ∃ t, Steps x.1.tables x.2.2.1 x.2.2.2.2.2.2.2.1 (T.setTop f) t ∧ ed_Z g x post mc ms t := by
  obtain ⟨p, l, e, R, s, m, args, below, meth, c⟩ := x
  obtain ⟨hx, hb, hml, hown, hlocks, htr, hok, hR, hret, hex, hnm⟩ := C
  dsimp only at *
  subst hR
  have hW1 : s.WarmedH vm₁ := X₁.warmed
  have hokU : ed_ok g (T.setVm vm₁) := hok.warm (U := T.setVm vm₁) hW1
  have hcw : (ed_cw z).before (av.map (ed_cv g)).toArray (T.setVm vm₁) = true := hokU.1.use hz.1 hz.2.1 _
  obtain ⟨mk2, methY, cY, hn2, hmY, hcY, hlY, -⟩ := ed_code hcw
  have hn3 := X₁.named hn
  cases hn3.symm.trans hn2
  obtain ⟨kY, hkY, -⟩ := className_of_methodNamed hn2
  have hiY : kY.init = .initialized := Cond.initialized_spec (findClass_of_methodNamed hn2) hkY (hokU.1.use hz.2.2.1 rfl (av.map (ed_cv g)).toArray)
  have hcat : ((rest.map (ed_cv g)).map fun v => v.category).sum ≤ 8 := by
    rw [List.map_map]
    have : ((fun v : Value => v.category) ∘ ed_cv g) = fun v => v.category := by funext v; exact ed_cv_cat g v
    rw [this]; exact hr
  obtain ⟨o, t, hq, hgo⟩ := jx_call (a := (av.map (ed_cv g)).toArray) (f := F0 m pc la (rest.map (ed_cv g))) ct X₁ rfl (hv.1.trans (hnL.symm.trans hml.symm)) (by rw [hb]; exact hdg) (lv_room hcat) hn2 hmY hcY hkY hiY hroom.1 (by rw [hlY]; exact hroom.2.1) hroom.2.2.1 hroom.2.2.2
    (atoms_intro (fun w hw => by rw [List.mem_singleton.mp hw]; exact hcw)) ⟨rfl, by show ed_H g Y I L T.heap; rw [hT]; exact hH, hok.warm (U := (T.setVm vm₁).calling (F0 m pc la (rest.map (ed_cv g))) mk (av.map (ed_cv g)).toArray) hW1⟩
  obtain ⟨Lc, Y', I', L', hLc, hWt, hsm, hHt, hres⟩ := hq
  obtain ⟨X2, hret2, hthr2⟩ := hgo Lc zc zs hWt hsm
  have hl2 : ∀ q ∈ locs ++ Lc, g.1 ≤ q.base := fun q hq => by
    rcases List.mem_append.mp hq with h | h
    · exact hl q h
    · exact hLc q h
  rcases hres with ⟨v, rfl, hp⟩ | ⟨q, E, ce, rfl, hce, hcv, hcl, hp⟩
  · have hst := hret2 _ rfl
    have k : W p l e R s m args below meth c t.heap (locs ++ Lc) (cells + zc) (slots + zs) (ed_Z g (p, l, e, R, s, m, args, below, meth, c) post mc ms) (F0 m (pc + 3) la ((v.map (ed_cv g)).toList ++ rest.map (ed_cv g))) := by
      cases v with
      | none => exact hp t.heap (locs ++ Lc) la hHt hl2 hv
      | some w => exact hp t.heap (locs ++ Lc) la hHt hl2 hv
    obtain ⟨t2, a1, b1⟩ := k (jx_at (T.setVm vm₁) t) rfl X2
    exact ⟨t2, hstep _ (fun acts => by rw [doInvoke_state]; exact hst.trans a1), b1⟩
  · have hst := hthr2 q rfl
    have hcl2 : s.vm.findClass E = some ce.cls := by
      have h1 : vm₁.findClass E = some ce.cls := hcl
      rw [hW1.alike.findClass] at h1
      exact h1
    obtain ⟨t2, a1, b1⟩ := hp t.heap (locs ++ Lc) la q ce (rest.map (ed_cv g)) (jx_at (T.setVm vm₁) t) hHt hl2 hv hce hcv hcl2 rfl X2
    exact ⟨t2, hstep _ (fun acts => by rw [doInvoke_state]; exact hst.trans a1), b1⟩
theorem r_callS (C : Cx g x y rm) {z : ed_m} {np d zc zs : Nat} (hz : Lz z np) (hk : LkS y pc n z) (av rest : List Value) (hst : st = av.reverse ++ rest) (hnp : av.length = np) (hr : (rest.map fun v => v.category).sum ≤ 8)
    (hroom : d + 7 ≤ rm.frames ∧ 8 + (z.2.2.1 + 11) + (40 * d + 84) ≤ rm.locals ∧ cells + zc ≤ rm.cells ∧ slots + zs ≤ rm.slots) (hnL : y.2.2.1 = nL)
    (ct : ed_Ct g x.2.1 z d zc zs av Y I L (ed_K g x post mc ms nL (cells + zc) (slots + zs) pc n ls rest)) : Gd g x post mc ms nL cells slots Y I L pc ls st := by
  obtain ⟨idx, hdg, rfl, hlk, hstat⟩ := hk
  subst hst
  intro H locs la hH hl hv T hT X
  have hok := C.2.2.2.2.2.2.1
  obtain ⟨mk, methY, cY, hn, hmY, -, -, hsig⟩ := ed_code (hok.1.use hz.1 hz.2.1 x.2.2.2.2.2.2.1)
  obtain ⟨kY, hkY, -⟩ := className_of_methodNamed hn
  have hiY : kY.init = .initialized := Cond.initialized_spec (findClass_of_methodNamed hn) hkY (hok.1.use hz.2.2.1 rfl x.2.2.2.2.2.2.1)
  have hlen : (av.map (ed_cv g)).length = methY.sig.parameters.length := by
    have h2 := hz.2.2.2.2
    rw [hsig] at h2
    rw [List.length_map, hnp]
    exact (Option.some.inj h2).symm
  have hstk : (F0 x.2.2.2.2.2.1 pc la ((av.reverse ++ rest).map (ed_cv g))).stack = (av.map (ed_cv g)).reverse ++ rest.map (ed_cv g) := by simp [F0]
  have hss : methY.isStatic = true := Cond.static_spec hn hmY (hok.1.use hstat rfl x.2.2.2.2.2.2.1)
  rcases hlk with hlk | ⟨host, hlk⟩
  · obtain ⟨vm₁, X₁, hstep⟩ := X.invokestatic C.1 C.2.2.2.1 (hok.1.use hlk rfl _) hn hmY hss hkY hiY hz.2.2.2.1 (g := F0 x.2.2.2.2.2.1 pc la ((av.reverse ++ rest).map (ed_cv g))) rfl hlen hstk (by rw [C.2.1]; exact hdg)
    exact ed_call C hz hdg hr hroom ct hH hl hv hnL hT X₁ hn hstep
  · obtain ⟨vm₁, X₁, hstep⟩ := X.invokestaticNest C.1 C.2.2.2.1 (hok.1.use hlk rfl _) hn hmY hss hkY hiY hz.2.2.2.1 (g := F0 x.2.2.2.2.2.1 pc la ((av.reverse ++ rest).map (ed_cv g))) rfl hlen hstk (by rw [C.2.1]; exact hdg)
    exact ed_call C hz hdg hr hroom ct hH hl hv hnL hT X₁ hn hstep
theorem r_callV (C : Cx g x y rm) {z : ed_m} {np d zc zs : Nat} (hz : Lz z np) (hk : LkV y pc n z) (k : Nat) (as rest : List Value) (hst : st = as.reverse ++ .ref k :: rest) (hnp : as.length = np) {ci : Nat} {fs : List ed_f} {r : vw_C} (hck : Y.2[k]? = some (.inl (ci, fs))) (hcr : ed_cl[ci]? = some r) (hrz : r.1 = z.1.cls) (hr : (rest.map fun v => v.category).sum ≤ 8)
    (hroom : d + 7 ≤ rm.frames ∧ 8 + (z.2.2.1 + 11) + (40 * d + 84) ≤ rm.locals ∧ cells + zc ≤ rm.cells ∧ slots + zs ≤ rm.slots) (hnL : y.2.2.1 = nL)
    (ct : ed_Ct g x.2.1 z d zc zs (.ref k :: as) Y I L (ed_K g x post mc ms nL (cells + zc) (slots + zs) pc n ls rest)) : Gd g x post mc ms nL cells slots Y I L pc ls st := by
  obtain ⟨idx, hdg, rfl, hlk, hinst, hsel⟩ := hk
  subst hst
  intro H locs la hH hl hv T hT X
  have hok := C.2.2.2.2.2.2.1
  obtain ⟨mk, methM, hn, hmM, hstM, habM⟩ := Cond.instanceMethod_spec (hok.1.use hinst rfl x.2.2.2.2.2.2.1)
  obtain ⟨mk2, methY, cY, hn2, hmY, -, -, hsig⟩ := ed_code (hok.1.use hz.1 hz.2.1 x.2.2.2.2.2.2.1)
  cases hn.symm.trans hn2
  cases hmM.symm.trans hmY
  obtain ⟨r9, h1, cellB, hcB, hcC, hcV, -⟩ := hH.2.2 k _ (ed_ws_at hck)
  cases Option.some.inj (h1.symm.trans hcr)
  obtain ⟨-, hfc, -⟩ := hok.2.1.1 ci r hcr
  have hclB : x.2.2.2.2.1.vm.findClass z.1.cls = some cellB.cls := by rw [← hrz, hcC]; exact hfc
  obtain ⟨c2, r2, m2, q1, q2, q3, q4, kP, hkP, hkPi⟩ := Cond.selects_spec (hok.1.use hsel rfl x.2.2.2.2.2.2.1)
  cases hclB.symm.trans q1
  cases (State.methodFound?_of_named hn hz.2.2.2.1).symm.trans q2
  cases hn.symm.trans q3
  have hselP : selectMethod x.2.2.1.platform x.2.2.2.2.1.vm cellB.cls mk = .method mk := by rw [Launch.admits_selectMethod X.admits]; exact q4
  have hlen : (as.map (ed_cv g)).length = methM.sig.parameters.length := by
    have h2 := hz.2.2.2.2
    rw [hsig] at h2
    rw [List.length_map, hnp]
    exact (Option.some.inj h2).symm
  have hstk : (F0 x.2.2.2.2.2.1 pc la ((as.reverse ++ .ref k :: rest).map (ed_cv g))).stack = (as.map (ed_cv g)).reverse ++ .ref (g.1 + k) :: rest.map (ed_cv g) := by simp [F0, ed_cv]
  rcases hlk with hlk | ⟨host, hlk⟩
  · obtain ⟨vm₁, X₁, hstep⟩ := X.invokevirtual C.1 C.2.2.2.1 (hok.1.use hlk rfl _) hn hmM hstM hkP hkPi hz.2.2.2.1 (a := g.1 + k) (cell := cellB) (by rw [hT]; exact hcB) (fun w h => by rw [hcV] at h; cases h) hselP hmM habM hkP hkPi (g := F0 x.2.2.2.2.2.1 pc la ((as.reverse ++ .ref k :: rest).map (ed_cv g))) rfl hlen hstk (by rw [C.2.1]; exact hdg)
    exact ed_call (av := .ref k :: as) C hz hdg hr hroom ct hH hl hv hnL hT X₁ hn hstep
  · obtain ⟨vm₁, X₁, hstep⟩ := X.invokevirtualNest C.1 C.2.2.2.1 (hok.1.use hlk rfl _) hn hmM hstM hkP hkPi hz.2.2.2.1 (a := g.1 + k) (cell := cellB) (by rw [hT]; exact hcB) (fun w h => by rw [hcV] at h; cases h) hselP hmM habM hkP hkPi (g := F0 x.2.2.2.2.2.1 pc la ((as.reverse ++ .ref k :: rest).map (ed_cv g))) rfl hlen hstk (by rw [C.2.1]; exact hdg)
    exact ed_call (av := .ref k :: as) C hz hdg hr hroom ct hH hl hv hnL hT X₁ hn hstep
end CALLS
