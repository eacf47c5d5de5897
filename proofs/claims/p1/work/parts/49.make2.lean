/-! constructors called, and new int[n][m] -/
section MAKE2
variable {g : ed_g} {x : ed_x} {post : ed_post} {mc ms nL cells slots : Nat} {Y : ed_Y} {I : ed_I} {L : ed_L} {pc n : Nat} {ls : List (Nat × Value)} {st : List Value} {y : ed_m} {rm : Room}
def LkI (y : ed_m) (pc n : Nat) (z : ed_m) : Prop := ∃ idx, decode y.2.1 pc = .ok (.invokespecial idx, 3) ∧ pc + 3 = n ∧ (Cond.methodLink y.1.cls idx z.1 ∈ lw_tbl ∨ ∃ host, Cond.methodLinkNest y.1.cls idx z.1 host ∈ lw_tbl) ∧ Cond.instanceMethod z.1 ∈ lw_tbl ∧ z.1.name = "<init>" ∧ ed_cw z = .code z.1 z.2.1 z.2.2.1 none
theorem r_callI (C : Cx g x y rm) {z : ed_m} {np d zc zs : Nat} (hz : Lz z np) (hk : LkI y pc n z) (k : Nat) (as rest : List Value) (hst : st = as.reverse ++ .ref k :: rest) (hnp : as.length = np) (hr : (rest.map fun v => v.category).sum ≤ 8)
    (hroom : d + 7 ≤ rm.frames ∧ 8 + (z.2.2.1 + 11) + (40 * d + 84) ≤ rm.locals ∧ cells + zc ≤ rm.cells ∧ slots + zs ≤ rm.slots) (hnL : y.2.2.1 = nL)
    (ct : ed_Ct g x.2.1 z d zc zs (.ref k :: as) Y I L (ed_K g x post mc ms nL (cells + zc) (slots + zs) pc n ls rest)) : Gd g x post mc ms nL cells slots Y I L pc ls st := by
  obtain ⟨idx, hdg, rfl, hlk, hinst, hnm, hcw⟩ := hk
  subst hst
  intro H locs la hH hl hv T hT X
  have hok := C.2.2.2.2.2.2.1
  have hcd := hok.1.use hz.1 hz.2.1 x.2.2.2.2.2.2.1
  rw [hcw] at hcd
  have hlen : ∀ sig, parseMethodDescriptor z.1.desc = some sig → (as.map (ed_cv g)).length = sig.parameters.length := by
    intro sig hsig
    have h2 := hz.2.2.2.2
    rw [hsig] at h2
    rw [List.length_map, hnp]
    exact (Option.some.inj h2).symm
  have hpl : x.2.2.1.platform.magicAccessors = ({} : Platform).magicAccessors := by rw [X.admits.platform]
  have hstk : (F0 x.2.2.2.2.2.1 pc la ((as.reverse ++ .ref k :: rest).map (ed_cv g))).stack = (as.map (ed_cv g)).reverse ++ .ref (g.1 + k) :: rest.map (ed_cv g) := by simp [F0, ed_cv]
  rcases hlk with hlk | ⟨host, hlk⟩
  · obtain ⟨mk, methM, cM, kP, vm₁, hnamed, -, -, -, -, -, -, -, hW₁, hstep₁⟩ := Steps.initColdArgs (e := x.2.2.1) X.here C.1 X.warmed hpl C.2.2.2.1 hnm hz.2.2.2.1 (hok.1.use hlk rfl _) (hok.1.use hinst rfl _) hcd (f := F0 x.2.2.2.2.2.1 pc la ((as.reverse ++ .ref k :: rest).map (ed_cv g))) rfl hlen hstk (by rw [C.2.1]; exact hdg)
    exact ed_call (av := .ref k :: as) C hz hdg hr hroom ct hH hl hv hnL hT (X.noted hW₁) hnamed hstep₁
  · obtain ⟨mk, methM, cM, kP, vm₁, hnamed, -, -, -, -, -, -, -, hW₁, hstep₁⟩ := Steps.initColdArgsNest (e := x.2.2.1) X.here C.1 X.warmed hpl C.2.2.2.1 hnm hz.2.2.2.1 (hok.1.use hlk rfl _) (hok.1.use hinst rfl _) hcd (f := F0 x.2.2.2.2.2.1 pc la ((as.reverse ++ .ref k :: rest).map (ed_cv g))) rfl hlen hstk (by rw [C.2.1]; exact hdg)
    exact ed_call (av := .ref k :: as) C hz hdg hr hroom ct hH hl hv hnL hT (X.noted hW₁) hnamed hstep₁
theorem ed_ws_app (g : ed_g) (b : Bool) (l l2 : List ed_c) (I : ed_I) (L : ed_L) : ed_ws g (b, l ++ l2) I L = ed_ws g (b, l) I L ++ l2.mapIdx (fun j c => (g.1 + (j + l.length), ed_rc g I L (j + l.length) c)) := by
  simp [ed_ws, List.mapIdx_append]
theorem ed_outer (c : ClassId) (N h0 : Nat) : ∀ i : Nat, Jvm.Free.Multi.outerC c N h0 i = arrV c N (fun j => va_rf (if j < i then some (h0 + 1 + j) else none))
  | 0 => by
    show ({ cls := c, slots := Array.replicate N .null, vm := .none } : Cell) = _
    rw [arrV_new]
    refine congrArg (arrV c N) (funext fun j => ?_)
    simp [va_rf]
  | i + 1 => by
    show (Jvm.Free.Multi.outerC c N h0 i).setSlot i (.ref (h0 + 1 + i)) = _
    rw [ed_outer c N h0 i, arrV_store]
    refine congrArg (arrV c N) (funext fun j => ?_)
    by_cases e : j = i
    · subst e
      simp [updV, va_rf]
    · by_cases h : j < i
      · simp [updV, e, h, Nat.lt_succ_of_lt h]
      · simp [updV, e, h, show ¬ j < i + 1 by omega]
theorem ed_arrV_congr {c : ClassId} {N : Nat} {f h : Nat → Value} (e : ∀ j, j < N → f j = h j) : arrV c N f = arrV c N h := by
  simp only [arrV]
  congr 1
  apply Array.ext
  · simp
  · intro i h1 h2
    simp at h1
    simp [e i h1]
/-- new int[N][K]: the outer array, then its rows -/
theorem r_multi (C : Cx g x y rm) {idx N K k : Nat} (d : Dn y pc (.multianewarray idx 2) 4 n) (hY : Y.1 = true) (hlk : Cond.classLink y.1.cls idx ("[" ++ (FieldType.array .int).toString) ∈ lw_tbl) (harr : Cond.arrayClass .int ∈ lw_tbl) (hN : N ≤ 1000) (hK : K ≤ 1000) (hI : ∀ i j, I i j = 0)
    (hroom : cells + (1 + N) ≤ rm.cells ∧ slots + (N + N * K) ≤ rm.slots) (hk : Y.2.length = k) (kk : Gd g x post mc ms nL (cells + 1 + N) (slots + N + N * K) (true, Y.2 ++ (.inr (3, N, k + 1) :: List.replicate N (.inr (0, K, 0)))) I L n ls (.ref k :: st)) : Gd g x post mc ms nL cells slots Y I L pc ls (.int (iZ K) :: .int (iZ N) :: st) := by
  obtain ⟨d, rfl⟩ := d
  subst hk
  obtain ⟨p, l, e, R, s, m, args, below, meth, c⟩ := x
  obtain ⟨hx, hb, hml, hown, hlocks, htr, hok, hR, hret, hex, hnm⟩ := C
  dsimp only at *
  subst hR
  intro H locs la hH hl hv T hT X
  have hsz : H.size = g.1 + Y.2.length := hH.1.2 hY
  have hn0 : ∀ M : Nat, M ≤ 1000 → ¬ iZ M < 0 := fun M hM => by
    have e0 : (0 : Int32) = iZ 0 := rfl
    rw [e0, iZ_lt (by omega) (by omega)]
    omega
  have hcl : ∀ M : Nat, M ≤ 1000 → (iZ M).toNatClampNeg = M := fun M hM => by rw [iZ_clamp (by omega)]; exact Int.toNat_natCast M
  have hover : (Cond.arrayOver (.array .int)).before args s = true := hok.2.2.2.2
  obtain ⟨vm₁, cA, comp, -, fA, fC, -, -, X', step⟩ := X.multianewarray2F hx hown (hok.1.use hlk rfl _) hover (hok.1.use harr rfl _) (g := F0 m pc la ((.int (iZ K) :: .int (iZ N) :: st).map (ed_cv g))) rfl (by rw [hb]; exact d) rfl (hn0 N hN) (hn0 K hK) (by rw [hcl N hN]; omega) (by rw [hcl K hK]; simp [componentBytes]; omega) (by rw [hcl K hK]; omega) rfl rfl (by rw [hcl N hN]; exact hroom.1) (by rw [hcl N hN, hcl K hK]; exact hroom.2)
  rw [hcl N hN, hcl K hK] at X' step
  generalize hF : Jvm.Free.Multi.fill (T.setVm vm₁) cA comp N K (defaultValue .int) N = F at X' step
  have hTh : (T.setVm vm₁).heap = H := hT
  obtain ⟨f1, f2, -, -⟩ := Jvm.Free.Multi.fill_facts (T.setVm vm₁) cA comp N K (defaultValue .int) N
  rw [hF, hTh] at f1 f2
  have hold : ∀ q : Nat, q < H.size → F.heap[q]? = H[q]? := fun q hq => by
    have := Jvm.Free.Multi.fill_old (T.setVm vm₁) cA comp N K (defaultValue .int) (a := q) (by rw [hTh]; exact hq) N
    rw [hF, hTh] at this
    exact this
  have hrow : ∀ j : Nat, j < N → F.heap[H.size + 1 + j]? = some (Jvm.Free.Multi.innerC comp K (defaultValue .int)) := fun j hj => by
    have := Jvm.Free.Multi.fill_inner (T.setVm vm₁) cA comp N K (defaultValue .int) N j hj
    rw [hF, hTh] at this
    exact this
  have hK9 := hok.2.1
  have e3 : s.vm.findClass ("[" ++ (FieldType.array .int).toString) = some (g.2.2.2.1 3) := (hK9.2 3 _ rfl).2
  have e0 : s.vm.findClass ("[" ++ FieldType.int.toString) = some (g.2.2.2.1 0) := (hK9.2 0 _ rfl).2
  cases Option.some.inj (fA.symm.trans e3)
  cases Option.some.inj (fC.symm.trans e0)
  have hH2 : ed_H g (true, Y.2 ++ (.inr (3, N, Y.2.length + 1) :: List.replicate N (.inr (0, K, 0)))) I L F.heap := by
    refine ⟨⟨by rw [f1]; have := hH.1.1; omega, fun _ => by rw [f1, hsz]; simp; omega⟩, fun q hq => (hold q (by have := hH.1.1; omega)).trans (hH.2.1 q hq), ?_⟩
    obtain ⟨b9, l9⟩ := Y
    have hsz2 : H.size = g.1 + l9.length := hsz
    rw [ed_ws_app]
    refine va_P.app ?_ ?_
    · exact hH.2.2.kept (fun k q hq => hold q.1 (hH.2.2 k q hq).lt)
    · intro j q hq
      simp only [List.getElem?_mapIdx, Option.map_eq_some_iff] at hq
      obtain ⟨cj, hcj, rfl⟩ := hq
      rcases j with _ | j
      · simp at hcj
        subst hcj
        show F.heap[g.1 + (0 + l9.length)]? = some (arrV (g.2.2.2.1 3) N (fun j => va_rf (some (g.1 + (l9.length + 1 + j)))))
        rw [show g.1 + (0 + l9.length) = H.size by rw [hsz2]; omega, f2, ed_outer]
        have hz : ∀ j, j < N → (va_rf (if j < N then some (H.size + 1 + j) else none)) = va_rf (some (g.1 + (l9.length + 1 + j))) := fun j hj => by
          rw [if_pos hj, hsz2]
          congr 2
          omega
        exact congrArg some (ed_arrV_congr hz)
      · have hj : j < N := by
          have := (List.getElem?_eq_some_iff.mp hcj).1
          simp at this
          exact this
        have hcj2 : cj = .inr (0, K, 0) := by
          simp only [List.getElem?_cons_succ, List.getElem?_replicate, hj, if_true, Option.some.injEq] at hcj
          exact hcj.symm
        subst hcj2
        show F.heap[g.1 + (j + 1 + l9.length)]? = some (arrV (g.2.2.2.1 0) K (fun i : Nat => Value.int (iZ (I (j + 1 + l9.length) i))))
        rw [show g.1 + (j + 1 + l9.length) = H.size + 1 + j by rw [hsz2]; omega, hrow j hj]
        simp only [hI]
        show some ({ cls := g.2.2.2.1 0, slots := Array.replicate K (.int 0), vm := .none } : Cell) = _
        rw [arrV_new]
        rfl
  obtain ⟨t, a1, b1⟩ := kk F.heap locs la hH2 hl hv F rfl X'
  refine ⟨t, step t ?_, b1⟩
  have e9 : T.heap.size = g.1 + Y.2.length := by rw [hT]; exact hsz
  rw [e9]
  exact a1
end MAKE2
