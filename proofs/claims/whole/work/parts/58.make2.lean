/-! constructors called, and new int[n][m] -/
section MAKE2
variable {g : ed_g} {x : ed_x} {post : ed_post} {mc ms nL cells slots : Nat} {Y : ed_Y} {I : ed_I} {L : ed_L} {pc n : Nat} {ls : List (Nat × Value)} {st : List Value} {y : ed_m} {rm : Room}
def LkI (y : ed_m) (pc n : Nat) (z : ed_m) : Prop := ∃ idx, decode y.2.1 pc = .ok (.invokespecial idx, 3) ∧ pc + 3 = n ∧ (Cond.methodLink y.1.cls idx z.1 ∈ lw_tbl ∨ ∃ host, Cond.methodLinkNest y.1.cls idx z.1 host ∈ lw_tbl) ∧ Cond.instanceMethod z.1 ∈ lw_tbl ∧ z.1.name = "<init>" ∧ ed_cw z = .code z.1 z.2.1 z.2.2.1 none
theorem r_callI (C : Cx g x y rm) {z : ed_m} {np d zc zs : Nat} (hz : Lz z np) (hk : LkI y pc n z) (k : Nat) (as rest : List Value) (hst : st = as.reverse ++ .ref k :: rest) (hnp : as.length = np) (hr : (rest.map fun v => v.category).sum ≤ 8)
    (hroom : d + 7 ≤ rm.frames ∧ 8 + (z.2.2.1 + 11) + (40 * d + 84) ≤ rm.locals ∧ cells + zc ≤ rm.cells ∧ slots + zs ≤ rm.slots) (hnL : y.2.2.1 = nL)
    (ct : ed_Ct g x.2.1 z d zc zs (.ref k :: as) Y I L (ed_K g x post mc ms nL (cells + zc) (slots + zs) pc n ls rest)) : Gd g x post mc ms nL cells slots Y I L pc ls st := by
  obtain ⟨idx, hdg, rfl, hlk, hinst, hnm, hcw⟩ := hk
  subst hst
  intro H locs la hH hl hv T hT X
  have hok := C.2.2.2.2.2.2.1
  have hcd := hok.1.use hz.1 hz.2.1 x.2.2.2.2.2.2.1
  rw [hcw] at hcd
  have hlen : ∀ sig, parseMethodDescriptor z.1.desc = some sig → (as.map (ed_cv g)).length = sig.parameters.length := by
    intro sig hsig
    have h2 := hz.2.2.2.2
    rw [hsig] at h2
    rw [List.length_map, hnp]
    exact (Option.some.inj h2).symm
  have hpl : x.2.2.1.platform.magicAccessors = ({} : Platform).magicAccessors := by rw [X.admits.platform]
  have hstk : (F0 x.2.2.2.2.2.1 pc la ((as.reverse ++ .ref k :: rest).map (ed_cv g))).stack = (as.map (ed_cv g)).reverse ++ .ref (g.1 + k) :: rest.map (ed_cv g) := by simp [F0, ed_cv]
  rcases hlk with hlk | ⟨host, hlk⟩
  · obtain ⟨mk, methM, cM, kP, vm₁, hnamed, -, -, -, -, -, -, -, hW₁, hstep₁⟩ := Steps.initColdArgs (e := x.2.2.1) X.here C.1 X.warmed hpl C.2.2.2.1 hnm hz.2.2.2.1 (hok.1.use hlk rfl _) (hok.1.use hinst rfl _) hcd (f := F0 x.2.2.2.2.2.1 pc la ((as.reverse ++ .ref k :: rest).map (ed_cv g))) rfl hlen hstk (by rw [C.2.1]; exact hdg)
    exact ed_call (av := .ref k :: as) C hz hdg hr hroom ct hH hl hv hnL hT (X.noted hW₁) hnamed hstep₁
  · obtain ⟨mk, methM, cM, kP, vm₁, hnamed, -, -, -, -, -, -, -, hW₁, hstep₁⟩ := Steps.initColdArgsNest (e := x.2.2.1) X.here C.1 X.warmed hpl C.2.2.2.1 hnm hz.2.2.2.1 (hok.1.use hlk rfl _) (hok.1.use hinst rfl _) hcd (f := F0 x.2.2.2.2.2.1 pc la ((as.reverse ++ .ref k :: rest).map (ed_cv g))) rfl hlen hstk (by rw [C.2.1]; exact hdg)
    exact ed_call (av := .ref k :: as) C hz hdg hr hroom ct hH hl hv hnL hT (X.noted hW₁) hnamed hstep₁
theorem ed_ws_app (g : ed_g) (b : Bool) (l l2 : List ed_c) (I : ed_I) (L : ed_L) : ed_ws g (b, l ++ l2) I L = ed_ws g (b, l) I L ++ l2.mapIdx (fun j c => (g.1 + (j + l.length), ed_rc g I L (j + l.length) c)) := by
  simp [ed_ws, List.mapIdx_append]
theorem ed_outer (c : ClassId) (N h0 : Nat) : ∀ i : Nat, Jvm.Free.Multi.outerC c N h0 i = arrV c N (fun j => va_rf (if j < i then some (h0 + 1 + j) else none))
  | 0 => by
    show ({ cls := c, slots := Array.replicate N .null, vm := .none } : Cell) = _
    rw [arrV_new]
    refine congrArg (arrV c N) (funext fun j => ?_)
    simp [va_rf]
  | i + 1 => by
    show (Jvm.Free.Multi.outerC c N h0 i).setSlot i (.ref (h0 + 1 + i)) = _
    rw [ed_outer c N h0 i, arrV_store]
    refine congrArg (arrV c N) (funext fun j => ?_)
    by_cases e : j = i
    · subst e
      simp [updV, va_rf]
    · by_cases h : j < i
      · simp [updV, e, h, Nat.lt_succ_of_lt h]
      · simp [updV, e, h, show ¬ j < i + 1 by omega]
end MAKE2
