/-! calls that may throw, and catching, over the library's Steps and Stand -/
section JXA
variable {p : Program} {l : Launch} {e : Env} {R : Room} {s : State} {m : MethodId} {sargs : Array Value} {below : List Frame} {meth : Method} {c : Code}
/-- the caller's state behind a callee's end t: the callee's heap and tables -/
def jx_at (U t : State) : State := ({ U with heap := t.heap, slotsUsed := t.slotsUsed } : State).setVm t.vm
theorem jx_call {y : MethodName} {S : Spec} {Pq : Array Value → State → Prop} {Qq : Array Value → State → Outcome → State → Prop}
    (hM : MetFree l y S Pq (fun _ _ _ _ _ => True) Qq) {U : State} {Ls : List Loc} {c0 s0 : Nat}
    (X : Stand p l e R s m sargs below meth c U Ls c0 s0) {f : JFrame} (hg : f.method = m) (hsize : f.locals.size = c.maxLocals)
    {ig : Instr} {len : Nat} (hdg : decode c.code f.pc = .ok (ig, len)) (hW : 2 * f.monitorRoom + (f.stack.map fun v => v.category).sum ≤ 8)
    {mk : MethodId} (hn : U.methodNamed? y = some mk) {methY : Method} {cY : Code} (hmY : U.vm.method? mk = some methY) (hcY : methY.code = some cY)
    {kY : Class} (hkY : U.vm.classes[mk.cls]? = some kY) (hiY : kY.init = .initialized)
    (hfr : S.room.frames + 1 ≤ R.frames) (hlo : 8 + (cY.maxLocals + 11) + S.room.locals ≤ R.locals) (hce : c0 + S.room.cells ≤ R.cells) (hsl : s0 + S.room.slots ≤ R.slots)
    {a : Array Value} (hpre : S.pre.before a U = true) (hP : Pq a (U.calling f mk a)) :
    ∃ (o : Outcome) (t : State), Qq a (U.calling f mk a) o t ∧ ∀ (L : List Loc) (mc ms : Nat), (U.calling f mk a).WarmedH t.vm → (U.calling f mk a).sameButNew ({ t with vm := (U.calling f mk a).vm } : State) L mc ms →
      Stand p l e R s m sargs below meth c (jx_at U t) (Ls ++ L) (c0 + mc) (s0 + ms) ∧
      (∀ v, o = .returned v → Steps p.tables e below (doInvoke e (U.setTop f) [] mk a).1 ((jx_at U t).setTop { f with pc := f.pc + len, stack := v.toList ++ f.stack })) ∧
      (∀ q, o = .threw q → Steps p.tables e below (doInvoke e (U.setTop f) [] mk a).1 (((jx_at U t).setTop f).pushFrame (.throwing q))) := by
  have h : At U f.method c below := by rw [hg]; exact X.here
  have happ : S.appliesLoose y e.platform (U.calling f mk a) = true :=
    Spec.appliesLoose_calling (g := f) h hdg hn hkY hiY (X.room_calling (g := f) (R' := S.room) hsize hmY hcY hfr (by omega) hce hsl) hpre
  obtain ⟨mid, hmid⟩ := h.above
  have hfr9 : (U.setTop f).frames = (.java f :: mid) ++ below := by rw [State.frames_setTop' f h.top, hmid]; rfl
  obtain ⟨o, t, hsteps, -, hend, hq⟩ := Steps.callFree hM p X.admits X.cas X.clock (acts := []) hfr9 happ hP trivial
  refine ⟨o, t, hq, fun L mc ms hW₂ hsm => ?_⟩
  rw [State.frames_setTop' f h.top] at hend
  obtain ⟨g₀, hg0⟩ := Option.isSome_iff_exists.mp h.top
  obtain ⟨r, hr⟩ := State.topJava?_eq_some.mp hg0
  obtain ⟨e2, q2, q3, q4, q5, q6⟩ := id hsm
  have e3 : t = ({ (U.calling f mk a).setFrames t.frames with heap := t.heap, slotsUsed := t.slotsUsed } : State).setVm t.vm := by
    have h9 : t = ({ t with vm := (U.calling f mk a).vm } : State).setVm t.vm := rfl
    rw [e2] at h9
    exact h9
  have hr' : (({ U with heap := t.heap, slotsUsed := t.slotsUsed } : State).setVm t.vm).frames = .java g₀ :: r := hr
  have hW' : U.WarmedH t.vm := hW₂
  have hsame : U.sameButNew ({ U with heap := t.heap, slotsUsed := t.slotsUsed } : State) L mc ms := by
    refine ⟨?_, q2, q3, q4, q5, q6⟩
    obtain ⟨t9, ht9, -⟩ := State.frames_cons hr
    show ({ U with heap := t.heap, slotsUsed := t.slotsUsed } : State) = { U.setFrames U.frames with heap := t.heap, slotsUsed := t.slotsUsed }
    rw [State.setFrames_self ht9]
  subst hg
  refine ⟨⟨X.admits, X.cas, X.clock, X.frames, X.room, X.hears, X.method, X.code, (X.here.setHeapUsed t.heap t.slotsUsed).setVm hW'.alike, X.tail, State.WarmedH.trans X.warmed hW', X.limits, X.bytes, X.same.trans (hsame.setVm s.vm)⟩, ?_, ?_⟩
  · intro v hv
    subst hv
    obtain ⟨c₂, i₂, len₂, hc₂, hd₂, hf₂⟩ := hend
    have hcc : c₂ = c := by
      have h1 : t.code? f.method = U.code? f.method := by
        rw [State.code?_eq, State.code?_eq, hW'.alike.method?]
      exact Option.some.inj (hc₂.symm.trans (h1.trans h.code))
    subst hcc
    have hlen : len₂ = len := by rw [hdg] at hd₂; cases hd₂; rfl
    subst hlen
    have hs₂ : t = (({ U with heap := t.heap, slotsUsed := t.slotsUsed } : State).setVm t.vm).setTop { f with pc := f.pc + len₂, stack := v.toList ++ f.stack } := by
      refine e3.trans ?_
      rw [hf₂, State.calling_eq h.top, State.setFrames_setFrames, State.setTop_of_frames _ hr', hr]
      rfl
    show Steps p.tables e below _ ((({ U with heap := t.heap, slotsUsed := t.slotsUsed } : State).setVm t.vm).setTop { f with pc := f.pc + len₂, stack := v.toList ++ f.stack })
    rw [← hs₂]
    exact hsteps
  · intro q hv
    subst hv
    have hf₂ : t.frames = .throwing q :: .java f :: U.frames.tail := hend
    have hs₂ : t = ((({ U with heap := t.heap, slotsUsed := t.slotsUsed } : State).setVm t.vm).setTop f).pushFrame (.throwing q) := by
      refine e3.trans ?_
      rw [hf₂, State.calling_eq h.top, State.setFrames_setFrames, State.pushFrame, State.frames_setTop _ hr', State.setTop_of_frames _ hr', State.setFrames_setFrames, hr]
      rfl
    show Steps p.tables e below _ (((({ U with heap := t.heap, slotsUsed := t.slotsUsed } : State).setVm t.vm).setTop f).pushFrame (.throwing q))
    rw [← hs₂]
    exact hsteps
/-- which row of a handler table takes an object of the class 'thrown' at pc -/
def jx_takes (pl : Platform) (s₀ : State) (d : ClassId) (pc : Nat) (thrown : ClassId) : List ExceptionTableEntry → Nat → Prop
  | [], _ => False
  | x :: t, h => (covers x pc = false ∧ jx_takes pl s₀ d pc thrown t h) ∨
      (covers x pc = true ∧ x.catchType ≠ 0 ∧ ∃ c, s₀.vm.ClassLinks pl d x.catchType c ∧ ((s₀.vm.assignable thrown c = true ∧ h = x.handlerPc) ∨ (s₀.vm.assignable thrown c = false ∧ jx_takes pl s₀ d pc thrown t h)))
theorem jx_go {e : Env} {s₀ : State} {f : JFrame} {a : Addr} {cell : Cell} (hobj : ∀ k, cell.vm ≠ .statics k) (hk0 : ∃ k, s₀.vm.classes[cell.cls]? = some k) {h : Nat} :
    ∀ (tb : List ExceptionTableEntry) (S : State), s₀.WarmedH S.vm → S.heap[a]? = some cell → jx_takes e.platform s₀ f.method.cls f.pc cell.cls tb h →
      ∃ vm', s₀.WarmedH vm' ∧ ∀ (Q : Handler → Pre) (E : CtlPost) (d : Bool) (acts : List Action), wp (findHandler.go f a tb) Q E e d acts S ↔ Q (.found h) d acts (S.setVm vm') := by
  obtain ⟨k0, hk0⟩ := hk0
  intro tb
  induction tb with
  | nil => intro S _ _ ht; exact ht.elim
  | cons x t ih =>
    intro S hW hcell ht
    rcases ht with ⟨hcov, ht⟩ | ⟨hx, h0, c9, hl, ht⟩
    · obtain ⟨vm', hW', hq⟩ := ih S hW hcell ht
      exact ⟨vm', hW', fun Q E d acts => by rw [W.findHandler_go_skip hcov]; exact hq Q E d acts⟩
    · obtain ⟨dk, _, _, kt, hd, _, _, _, _, hkt, _, hopen⟩ := hl.here
      have hl' := hW.classLinks hl
      have hWn : s₀.WarmedH (S.vm.noted f.method.cls x.catchType (.cls c9)) := hW.noted hd hopen (State.rightAt_cls hl)
      obtain ⟨k1, hk1, -⟩ := hWn.alike.2.2 _ _ hk0
      obtain ⟨k2, hk2, -⟩ := hWn.alike.2.2 _ _ hkt
      obtain ⟨ha, hr⟩ := (resolveClass_links e.toSetting hl').op (op := VmOp.resolveClass f.method.cls x.catchType) rfl
      simp only [covers] at hx
      rcases ht with ⟨hfit, rfl⟩ | ⟨hno, ht⟩
      · have hfit' : (S.vm.noted f.method.cls x.catchType (.cls c9)).assignable cell.cls c9 = true := by rw [hWn.alike.assignable]; exact hfit
        exact ⟨_, hWn, fun Q E d acts => by simp [findHandler.go, hx, h0, ha, hr, hcell, hobj, hk1, hk2, hfit', VmOp.dirties, VmOp.acts]⟩
      · have hno' : (S.vm.noted f.method.cls x.catchType (.cls c9)).assignable cell.cls c9 = false := by rw [hWn.alike.assignable]; exact hno
        obtain ⟨vm', hW', hq⟩ := ih (S.setVm (S.vm.noted f.method.cls x.catchType (.cls c9))) hWn hcell ht
        refine ⟨vm', hW', fun Q E d acts => ?_⟩
        have h9 : wp (findHandler.go f a (x :: t)) Q E e d acts S ↔ wp (findHandler.go f a t) Q E e d acts (S.setVm (S.vm.noted f.method.cls x.catchType (.cls c9))) := by
          simp [findHandler.go, hx, h0, ha, hr, hcell, hobj, hk1, hk2, hno', VmOp.dirties, VmOp.acts]
        rw [h9]
        exact hq Q E d acts
theorem jx_note {e : Env} {s : State} {a : Addr} {f : JFrame} {r : List Frame} {pc : Nat} {vm' : Vm} (hfind : ∀ (Q : Handler → Pre) (E : CtlPost) (d : Bool) (acts : List Action), wp (findHandler f a) Q E e d acts s ↔ Q (.found pc) d acts (s.setVm vm')) :
    (stepThrowing e s a (.java f :: r)).Is ((s.setVm vm').setFrames (.java { f with pc := pc, stack := [.ref a] } :: r)) [] := by
  simp only [stepThrowing, searchFrame, vmDo]
  generalize hr : Sem.go _ e false [] s = res
  obtain ⟨as, rfl, ha⟩ := Sem.eq_ok_of hr (a := Handler.found pc) (s' := s.setVm vm') (acts' := []) (by simp [hfind _ _ _ _])
  exact ⟨rfl, ha⟩
theorem jx_sets (u : State) (vm' : Vm) (F G : List Frame) : ((u.setFrames F).setVm vm').setFrames G = (u.setVm vm').setFrames G := by
  have h1 : (u.setFrames F).setVm vm' = (u.setVm vm').setFrames F := rfl
  rw [h1, State.setFrames_setFrames]
/-- from the thrown object over the frame f to the handler that takes it -/
theorem jx_caught {T : State} {locs : List Loc} {cells slots : Nat} (X : Stand p l e R s m sargs below meth c T locs cells slots) {f : JFrame} (hg : f.method = m) {a : Addr} {cell : Cell} (hcell : T.heap[a]? = some cell) (hv : cell.vm = .none)
    (hk0 : ∃ k, s.vm.classes[cell.cls]? = some k) {h : Nat} (ht : jx_takes e.platform s m.cls f.pc cell.cls c.exceptionTable.toList h) :
    ∃ vm', Stand p l e R s m sargs below meth c (T.setVm vm') locs cells slots ∧
      ∀ target, Steps p.tables e below ((T.setVm vm').setTop { f with pc := h, stack := [.ref a] }) target → Steps p.tables e below ((T.setTop f).pushFrame (.throwing a)) target := by
  subst hg
  obtain ⟨vm', hW', hf⟩ := jx_go (e := e) (s₀ := s) (f := f) (a := a) (cell := cell) (fun k => by rw [hv]; simp) hk0 c.exceptionTable.toList ((T.setTop f).pushFrame (.throwing a)) X.warmed hcell ht
  refine ⟨vm', X.noted hW', fun target hrest => ?_⟩
  have hA := X.here
  obtain ⟨hgo, hw⟩ := hA.throwing a
  refine Steps.head hgo hw ?_
  have hm9 : ((T.setTop f).pushFrame (.throwing a)).vm.method? f.method = some meth := X.method'
  have hfind : ∀ (Q : Handler → Pre) (E : CtlPost) (d : Bool) (acts : List Action), wp (findHandler f a) Q E e d acts ((T.setTop f).pushFrame (.throwing a)) ↔ Q (.found h) d acts (((T.setTop f).pushFrame (.throwing a)).setVm vm') := fun Q E d acts => by
    rw [W.findHandler_eq hm9 X.code]
    exact hf Q E d acts
  rw [stepThread_throwing (frames_entered hA.top _), (jx_note hfind).1]
  obtain ⟨g₀, hg⟩ := Option.isSome_iff_exists.mp hA.top
  obtain ⟨r, hr⟩ := State.topJava?_eq_some.mp hg
  have hr' : (T.setVm vm').frames = .java g₀ :: r := hr
  rw [State.setTop_of_frames _ hr'] at hrest
  rw [hr, List.tail_cons, State.pushFrame, jx_sets, State.setTop_of_frames _ hr, jx_sets]
  exact hrest
end JXA
