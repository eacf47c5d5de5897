/-! a method that is 'if (!b) throw new E();' -/
theorem jx_kept {s U : State} {k n : Nat} (h : s.sameButNew ({ U with vm := s.vm } : State) [] k n) : s.heap.size ≤ U.heap.size ∧ ∀ q : Nat, q < s.heap.size → U.heap[q]? = s.heap[q]? := by
  obtain ⟨-, h2, -, -, -, h6⟩ := h
  refine ⟨h2, fun q hq => ?_⟩
  obtain ⟨c9, e1, e2, e3, e4⟩ := h6 q _ (Array.getElem?_eq_getElem hq)
  have hs : c9.slots = (s.heap[q]).slots := Array.ext_getElem? fun i => e4 i fun hm => by cases hm
  have h9 : c9 = s.heap[q] := by
    rw [hs] at e2
    exact e2
  have e5 : U.heap[q]? = some c9 := e1
  rw [e5, h9, Array.getElem?_eq_getElem hq]
theorem ed_H.grow {g : ed_g} {Y : ed_Y} (hY : Y.1 = false) {I : ed_I} {L : ed_L} {H H1 : Heap} (h : ed_H g Y I L H) (hz : H.size ≤ H1.size) (hk : ∀ q : Nat, q < H.size → H1[q]? = H[q]?) : ed_H g Y I L H1 :=
  ⟨⟨Nat.le_trans h.1.1 hz, fun h9 => by rw [hY] at h9; cases h9⟩, fun q hq => (hk q (Nat.lt_of_lt_of_le hq h.1.1)).trans (h.2.1 q hq), h.2.2.kept (fun k q hq => hk q.1 (h.2.2 k q hq).lt)⟩
theorem ed_thrower {g : ed_g} {l : Launch} {y : ed_m} {cls : String} {ik ic : Nat} (names : List String) (hl : l.stackTraces = false) (hy : plainName y.1.cls = true) (h1 : y.2.2.1 = 1) (hret : y.2.2.2.1 = none) (hhh : y.2.2.2.2 = [])
    (hcls : Bundle.fit cls = true) (hnames : ∀ n ∈ names, Bundle.fit n = true) (hlen : names.length = 2)
    (d0 : decode y.2.1 0 = .ok (.iload_n 0, 1)) (d1 : decode y.2.1 1 = .ok (.ifCond .ne 11, 3)) (d4 : decode y.2.1 4 = .ok (.new ik, 3)) (d7 : decode y.2.1 7 = .ok (.dup, 1)) (d8 : decode y.2.1 8 = .ok (.invokespecial ic, 3)) (d11 : decode y.2.1 11 = .ok (.athrow, 1)) (d12 : decode y.2.1 12 = .ok (.return_, 1))
    (hk : Cond.classLink y.1.cls ik cls ∈ lw_tbl) (hini : Cond.initialized cls ∈ lw_tbl) (hat : ∀ w ∈ Bundle.ownAtoms0 y.1.cls ic cls names, w ∈ ed_stw ∨ (w ∈ lw_tbl ∧ ed_stab w = true)) (hins : Cond.instantiable cls 6 ∈ lw_tbl)
    {v : Int} (hr : -2147483648 ≤ v ∧ v ≤ 2147483647) {Y : ed_Y} (hY : Y.1 = false) {I : ed_I} {L : ed_L} {post : ed_post} (hn : v ≠ 0 → post (.inl none) Y I L) (hx : v = 0 → post (.inr cls) Y I L) : ed_Ct g l y 0 1 6 [.int (iZ v)] Y I L post := by
  by_cases hv : v = 0
  · refine ed_Ct.ofW hl hy (by rw [h1]; exact Nat.le_refl _) ?_
    intro x la hxl C hH hla
    obtain ⟨p, l', e, R, s, m, args, below, meth, c⟩ := x
    obtain ⟨hxx, hb, hml, hown, hlocks, htr, hok, hR, hre, hex, hnm⟩ := C
    dsimp only at *
    subst hR
    refine lv_iload_n hxx hb d0 rfl (show la[0]? = some (.val (.int (iZ v))) from ed_lv_at (i := 0) (v := .int (iZ v)) hla rfl) ?_
    refine lv_if_ne hxx hb d1 (tgt := 12) (by decide) (fun h => absurd (show iZ v = 0 by rw [hv]; rfl) h) (fun _ => ?_)
    intro T hT X
    have htr' : e.platform.stackTraces = false := (show e.platform.stackTraces = l'.stackTraces by rw [X.admits.platform]).trans htr
    have hS := hok.2.2.1 s (Vm.Alike.refl s.vm) hH.2.1
    have hall : ∀ w ∈ Bundle.ownAtoms0 y.1.cls ic cls names, w.before args s = true := fun w hw => by
      rcases hat w hw with h | ⟨h, h9⟩
      · exact hS w h args
      · exact hok.1.use h h9 args
    obtain ⟨vm₁, cX, kX, hfX, hkX, -, -, X₁, st1⟩ := X.newCold hxx (own := y.1.cls) (C := cls) (index := ik) (n := 6) hown (hok.1.use hk rfl args) (hok.1.use hins rfl args) (hok.1.use hini rfl args)
      (g := F0 m 4 la []) rfl (by rw [hb]; exact d4) (Nat.le_refl _) (Nat.le_refl _)
    generalize hT1 : (T.setVm vm₁).pushCell { cls := cX, slots := kX.instanceTypes.map defaultValue, vm := .none } = T1 at X₁ st1
    have hcellA : T1.heap[T.heap.size]? = some (freshCell cX kX) := by rw [← hT1]; exact State.heap_pushCell_size _ _
    have d7' : decode c.code 7 = .ok (.dup, 1) := by rw [hb]; exact d7
    have hout : c.exceptionTable.toList = [] := List.map_eq_nil_iff.mp (hex.trans hhh)
    obtain ⟨U, hsteps, hrun, hend, hW, hsame, ce, hce, hO⟩ := X₁.ctorThrow0 hxx htr' (own := y.1.cls) (cls := cls) (names := names) (ic := ic) hown hcls hnames hall (fun x hx => nomatch hx) hfX hkX hcellA (by rw [hT]; exact Nat.le_refl _)
      (g := { method := m, pc := 8, locals := la, stack := .ref T.heap.size :: .ref T.heap.size :: [], locked := none }) rfl (hla.1.trans (hml.symm)) rfl rfl (rest := []) rfl
      (by rw [hb]; exact d8) (by rw [hb]; exact d11) (fun z hz => by rw [hout] at hz; cases hz) (by rw [hlen]; decide) (by rw [hlen]; exact (Nat.le_of_ble_eq_true rfl)) hlocks
    obtain ⟨f1, f2⟩ := jx_kept hsame
    refine ⟨U, ?_, .threw T.heap.size, hrun, hend, [], Y, I, L, (fun _ h => nomatch h), hW, hsame.mono (Nat.le_refl _) (Nat.le_refl _), hH.grow hY f1 f2, Or.inr ⟨T.heap.size, cls, ce, rfl, hce, hO.vm, hO.cls, hx hv⟩⟩
    refine st1 _ ?_
    show Steps p.tables e below (T1.setTop { method := m, pc := 7, locals := la, stack := .ref T.heap.size :: [], locked := none }) _
    jvm_step X₁.here [X₁.here.top, hxx, d7', Value.category]
    exact hsteps
  · refine ed_Ct.of hl hy (by rw [h1]; exact Nat.le_refl _) ?_
    intro x hxl C
    refine r_ild (n := 1) (i := 0) C (Or.inl ⟨0, d0, rfl, rfl⟩) rfl ?_
    refine r_if_ne (n := 4) (t := 12) C ⟨11, d1, rfl, by decide⟩ hr (fun _ => ?_) (fun h => absurd h hv)
    exact r_vret (n := 13) C ⟨d12, rfl⟩ hret (Nat.zero_le _) (Nat.zero_le _) (hn hv)
