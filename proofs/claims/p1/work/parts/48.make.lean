/-! making cells: while the world is all that lies from B on (Y.1), a new cell is the world's next -/
section MAKE
variable {g : ed_g} {x : ed_x} {post : ed_post} {mc ms nL cells slots : Nat} {Y : ed_Y} {I : ed_I} {L : ed_L} {pc n : Nat} {ls : List (Nat × Value)} {st : List Value} {y : ed_m} {rm : Room}
theorem ed_ws_push (g : ed_g) (b : Bool) (l : List ed_c) (c : ed_c) (I : ed_I) (L : ed_L) : ed_ws g (b, l ++ [c]) I L = ed_ws g (b, l) I L ++ [(g.1 + l.length, ed_rc g I L l.length c)] := by
  simp [ed_ws, List.mapIdx_append]
theorem ed_H.push {H H1 : Heap} (h : ed_H g Y I L H) (hY : Y.1 = true) {c : ed_c} (hz : H1.size = H.size + 1) (ho : ∀ q, q < H.size → H1[q]? = H[q]?) (hc : va_at g.2.2.2.2 ed_cl (g.1 + Y.2.length, ed_rc g I L Y.2.length c) H1) : ed_H g (true, Y.2 ++ [c]) I L H1 := by
  have hs := h.1.2 hY
  refine ⟨⟨by omega, fun _ => by simp only [List.length_append, List.length_singleton]; omega⟩, fun q hq => (ho q (by omega)).trans (h.2.1 q hq), ?_⟩
  obtain ⟨b, l⟩ := Y
  rw [ed_ws_push]
  refine va_P.app ?_ ?_
  · have h9 : va_P g.2.2.2.2 ed_cl (ed_ws g (b, l) I L) H1 := h.2.2.kept (fun k q hq => ho q.1 (h.2.2 k q hq).lt)
    exact h9
  · intro k q hq
    rcases k with _ | k
    · cases hq; exact hc
    · simp at hq
/-- a new object of class number ci -/
theorem r_new (C : Cx g x y rm) {idx ci k : Nat} {r : vw_C} (d : Dn y pc (.new idx) 3 n) (hY : Y.1 = true) (hr : ed_cl[ci]? = some r) (hlk : Cond.classLink y.1.cls idx r.1 ∈ lw_tbl) (hin : Cond.instantiable r.1 r.2.2 ∈ lw_tbl) (hini : Cond.initialized r.1 ∈ lw_tbl) (fs : List ed_f)
    (hfs : ∀ (ty0 : Nat → FieldType), (∀ j, j < r.2.2 → parseFieldDescriptor (r.2.1 j).2.2.1 = some (ty0 j)) → ∀ j, j < r.2.2 → defaultValue (ty0 j) = vp_V (fs.mapIdx (fun i f => ed_cv g (ed_fv I L Y.2.length i f))) j)
    (hroom : cells + 1 ≤ rm.cells ∧ slots + r.2.2 ≤ rm.slots) (hk : Y.2.length = k) (kk : Gd g x post mc ms nL (cells + 1) (slots + r.2.2) (true, Y.2 ++ [.inl (ci, fs)]) I L n ls (.ref k :: st)) : Gd g x post mc ms nL cells slots Y I L pc ls st := by
  obtain ⟨d, rfl⟩ := d
  subst hk
  obtain ⟨p, l, e, R, s, m, args, below, meth, c⟩ := x
  obtain ⟨hx, hb, hml, hown, hlocks, htr, hok, hR, hret, hex, hnm⟩ := C
  dsimp only at *
  subst hR
  intro H locs la hH hl hv
  obtain ⟨ty0, hty, -⟩ := ed_cl_ty ci r hr
  have hKn := hok.2.1.1 ci _ hr
  have hsz : H.size = g.1 + Y.2.length := hH.1.2 hY
  refine W.newcK hx hb hown (hok.1.use hlk rfl _) (hok.1.use hin rfl _) (hok.1.use hini rfl _) rfl d hroom.1 hroom.2 hKn.2.1 hsz fun H1 kC hkC e1 z1 o1 => ?_
  exact kk H1 locs la (hH.push hY (by omega) (fun q hq => o1 q (by omega)) ⟨_, hr, (u_born ty0 (ed_uws hr hok.1 args) (fun _ h => h) hKn hkC e1 hty).to (hfs ty0 hty)⟩) hl hv
/-- a new array of ints, booleans or longs -/
theorem r_newa (C : Cx g x y rm) {at_ : ArrayType} {t N k : Nat} (d : Dn y pc (.newarray at_) 2 n) (hY : Y.1 = true) (ht : (at_ = .int ∧ t = 0) ∨ (at_ = .boolean ∧ t = 1) ∨ (at_ = .long ∧ t = 2)) (hlk : Cond.arrayClass (newarray.typeOf at_) ∈ lw_tbl) (hN : N ≤ 1000) (hI : ∀ j, I Y.2.length j = 0) (hL : ∀ j, L Y.2.length j = 0)
    (hroom : cells + 1 ≤ rm.cells ∧ slots + N ≤ rm.slots) (hk : Y.2.length = k) (kk : Gd g x post mc ms nL (cells + 1) (slots + N) (true, Y.2 ++ [.inr (t, N, 0)]) I L n ls (.ref k :: st)) : Gd g x post mc ms nL cells slots Y I L pc ls (.int (iZ N) :: st) := by
  obtain ⟨d, rfl⟩ := d
  subst hk
  obtain ⟨p, l, e, R, s, m, args, below, meth, c⟩ := x
  obtain ⟨hx, hb, hml, hown, hlocks, htr, hok, hR, hret, hex, hnm⟩ := C
  dsimp only at *
  subst hR
  intro H locs la hH hl hv
  have hsz : H.size = g.1 + Y.2.length := hH.1.2 hY
  have hn0 : ¬ iZ N < 0 := by
    have e0 : (0 : Int32) = iZ 0 := rfl
    rw [e0, iZ_lt (by omega) (by omega)]
    omega
  have hcl : (iZ N).toNatClampNeg = N := by rw [iZ_clamp (by omega)]; exact Int.toNat_natCast N
  have hK := hok.2.1
  refine va_newaK hx hb (hok.1.use hlk rfl _) rfl d rfl hn0 hcl (by rcases ht with ⟨rfl, -⟩ | ⟨rfl, -⟩ | ⟨rfl, -⟩ <;> simp [newarray.typeOf, componentBytes] <;> omega) hroom.1 hroom.2 hsz fun H1 cA e1 z1 o1 hAr hNm => ?_
  refine kk H1 locs la (hH.push hY (by omega) (fun q hq => o1 q (by omega)) ?_) hl hv
  rcases ht with ⟨rfl, rfl⟩ | ⟨rfl, rfl⟩ | ⟨rfl, rfl⟩
  · have h9 : s.vm.findClass ("[" ++ FieldType.int.toString) = some (g.2.2.2.1 0) := (hK.2 0 _ rfl).2
    cases Option.some.inj (hNm.symm.trans h9)
    show H1[g.1 + Y.2.length]? = some (arrV _ N (fun m : Nat => Value.int (iZ (I Y.2.length m))))
    rw [e1]
    simp only [hI]
    rfl
  · have h9 : s.vm.findClass ("[" ++ FieldType.boolean.toString) = some (g.2.2.2.1 1) := (hK.2 1 _ rfl).2
    cases Option.some.inj (hNm.symm.trans h9)
    show H1[g.1 + Y.2.length]? = some (arrV _ N (fun m : Nat => Value.int (iZ (I Y.2.length m))))
    rw [e1]
    simp only [hI]
    rfl
  · have h9 : s.vm.findClass ("[" ++ FieldType.long.toString) = some (g.2.2.2.1 2) := (hK.2 2 _ rfl).2
    cases Option.some.inj (hNm.symm.trans h9)
    show H1[g.1 + Y.2.length]? = some (arrV _ N (fun m : Nat => Value.long (lZ (L Y.2.length m))))
    rw [e1]
    simp only [hL]
    rfl
/-- the constructor of Object -/
theorem r_obj (C : Cx g x y rm) {idx k : Nat} (d : Dn y pc (.invokespecial idx) 3 n) (hlk : Cond.methodLink y.1.cls idx Lib.objectInit ∈ lw_tbl) (hin : Cond.instanceMethod Lib.objectInit ∈ lw_tbl) (hcd : Cond.code Lib.objectInit ⟨#[0xb1]⟩ 1 none ∈ lw_tbl) (hnL : y.2.2.1 = nL) (hst : st = []) (hroom : 1 ≤ rm.frames ∧ 12 ≤ rm.locals)
    (kk : Gd g x post mc ms nL cells slots Y I L n ls st) : Gd g x post mc ms nL cells slots Y I L pc ls (.ref k :: st) := by
  obtain ⟨d, rfl⟩ := d
  subst hst
  obtain ⟨p, l, e, R, s, m, args, below, meth, c⟩ := x
  obtain ⟨hx, hb, hml, hown, hlocks, htr, hok, hR, hret, hex, hnm⟩ := C
  dsimp only at *
  subst hR
  intro H locs la hH hl hv
  exact W.objInit hx hb hown (hok.1.use hlk rfl _) (hok.1.use hin rfl _) (hok.1.use hcd rfl _) rfl (hv.1.trans (hnL.symm.trans hml.symm)) rfl d hroom.1 (by simpa using hroom.2) (kk H locs la hH hl hv)
theorem ed_ws_set {g : ed_g} {Y : ed_Y} {I : ed_I} {L : ed_L} {k : Nat} {c c' : ed_c} (hk : Y.2[k]? = some c) : (ed_ws g Y I L).set k (g.1 + k, ed_rc g I L k c') = ed_ws g (Y.1, Y.2.set k c') I L := by
  apply List.ext_getElem?
  intro j
  have hlen : k < (ed_ws g Y I L).length := (List.getElem?_eq_some_iff.mp (ed_ws_at (g := g) (I := I) (L := L) hk)).1
  have hlen2 : k < Y.2.length := (List.getElem?_eq_some_iff.mp hk).1
  by_cases hj : k = j
  · subst hj
    rw [List.getElem?_set_self hlen, ed_ws_at (c := c')]
    exact List.getElem?_set_self hlen2
  · rw [List.getElem?_set_ne hj]
    simp only [ed_ws, List.getElem?_mapIdx, List.getElem?_set_ne hj]
/-- a field of the method's own class, put -/
def Dfp (y : ed_m) (pc : Nat) (ci i n : Nat) : Prop := ∃ (idx : Nat) (r : vw_C), decode y.2.1 pc = .ok (.putfield idx, 3) ∧ pc + 3 = n ∧ ed_cl[ci]? = some r ∧ i < r.2.2 ∧ (r.2.1 i).1 = r.1 ∧ Cond.fieldLink y.1.cls idx r.1 (r.2.1 i).2.1 (r.2.1 i).2.2.1 ∈ lw_tbl
/-- a reference into a final field, in a constructor -/
theorem r_putR (C : Cx g x y rm) {ci i k r : Nat} (d : Dfp y pc ci i n) (hY : Y.1 = true) {fs : List ed_f} (hk : Y.2[k]? = some (.inl (ci, fs))) (hi9 : i < fs.length) (hb9 : ∀ q, ed_cl[ci]? = some q → (q.2.1 i).2.2.2 = true ∧ (q.2.1 i).1 = y.1.cls ∧ ∃ ty, parseFieldDescriptor (q.2.1 i).2.2.1 = some ty ∧ narrow ty (.ref (g.1 + r)) = .ref (g.1 + r) ∧ fits ty (.ref (g.1 + r)) = true) (hini : y.1.name = "<init>")
    (kk : Gd g x post mc ms nL cells slots (true, Y.2.set k (.inl (ci, fs.set i (.inl (some r))))) I L n ls st) : Gd g x post mc ms nL cells slots Y I L pc ls (.ref r :: .ref k :: st) := by
  obtain ⟨idx, q9, d, rfl, hr, hi, hd, hw⟩ := d
  obtain ⟨p, l, e, R, s, m, args, below, meth, c⟩ := x
  obtain ⟨hx, hb, hml, hown, hlocks, htr, hok, hR, hret, hex, hnm⟩ := C
  dsimp only at *
  subst hR
  intro H locs la hH hl hv
  obtain ⟨hfin, hdecl, ty, hdd, hnar, hfit⟩ := hb9 _ hr
  obtain ⟨ty0, hty, hnm2⟩ := ed_cl_ty ci q9 hr
  obtain ⟨Cn, Tn, Nn⟩ := q9
  have hts := ed_uws hr hok.1 args
  have hK := hok.2.1
  have hap := va_apart (own := y.1.cls) hts (fun _ h => h) ty0 hty hnm2 hK hr
  obtain ⟨r9, h1, cell, q1, q2, q3, q4⟩ := hH.2.2 k _ (ed_ws_at hk)
  cases Option.some.inj (h1.symm.trans hr)
  obtain ⟨hS, hfc, kC, hkC, hkind⟩ := hK.1 ci _ hr
  obtain ⟨cf, kf, fi, f, hif, hsl⟩ := hS i hi
  have hlay := hts _ (u_in_lay hi)
  unfold u_lay at hlay
  rw [if_pos hfin] at hlay
  have hst := (u_facts hfc hkC (u_lays hts (fun _ h => h) hi) hif).1
  have hcf : m.cls = cf := by
    obtain ⟨_, _, c', _, _, _, -, -, hf', -, -, -, hown2, -⟩ := Cond.laysFinal_spec hlay
    have e1 : c' = cf := by have := hif.symm.trans hf'; simp at this; exact this.1.symm
    rw [hdecl] at hown2
    rw [← e1]; exact Option.some.inj (hown.symm.trans hown2)
  have h6 := u_fits hfc hkC hkind (Or.inr hlay) hif hdd hnar hfit
  refine W.putFinK hx hb hown (hok.1.use hw rfl args) (by rw [hd] at hif; exact hif) hst hcf (hnm.trans hini) (by rw [q2]; exact h6) q1 q3 (by rw [hsl]; exact k2_hasslot (q4 i hi)) rfl rfl d fun H' e1 e2 e3 => ?_
  rw [hsl] at e1 ⊢
  have hlen : i < (fs.mapIdx (fun i f => ed_cv g (ed_fv I L k i f))).length := by simpa using hi9
  have hP := hH.2.2.set (ed_ws_D g Y I L) (ed_ws_at hk) (e := .inr (ci, (fs.mapIdx (fun i f => ed_cv g (ed_fv I L k i f))).set i (.ref (g.1 + r)))) ⟨_, hr, t_OB.to (V := updV (vp_V (fs.mapIdx (fun i f => ed_cv g (ed_fv I L k i f)))) i (.ref (g.1 + r))) ⟨_, e1, q2, q3, t_set q4 hap hi _⟩ (fun j _ => vp_updV_set hlen _ j)⟩ e3
  have e5 : ((fs.mapIdx (fun i f => ed_cv g (ed_fv I L k i f))).set i (.ref (g.1 + r))) = (fs.set i (.inl (some r))).mapIdx (fun i f => ed_cv g (ed_fv I L k i f)) := by
    apply List.ext_getElem?
    intro j
    by_cases hj : i = j
    · subst hj
      rw [List.getElem?_set_self hlen]
      simp [List.getElem?_mapIdx, hi9, ed_fv, ed_cv]
    · rw [List.getElem?_set_ne hj]
      simp only [List.getElem?_mapIdx, List.getElem?_set_ne hj]
  rw [e5] at hP
  have e6 := ed_ws_set (g := g) (I := I) (L := L) (c' := .inl (ci, fs.set i (.inl (some r)))) hk
  have hP2 : va_P g.2.2.2.2 ed_cl (ed_ws g (Y.1, Y.2.set k (.inl (ci, fs.set i (.inl (some r))))) I L) H' := by rw [← e6]; exact hP
  rw [hY] at hP2
  refine kk H' _ la ⟨⟨by rw [e2]; exact hH.1.1, fun _ => by rw [e2, hH.1.2 hY]; simp⟩, fun q hq => (e3 q (by show q ≠ g.1 + k; omega)).trans (hH.2.1 q hq), hP2⟩ (fun q hq => ?_) hv
  rcases List.mem_append.mp hq with h | h
  · exact hl q h
  · rw [List.mem_singleton.mp h]; exact Nat.le_add_right _ _
end MAKE
