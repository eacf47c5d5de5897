/-! which handler takes what is thrown -/
section CATCH
variable {g : ed_g} {x : ed_x} {post : ed_post} {mc ms nL cells slots : Nat} {Y : ed_Y} {I : ed_I} {L : ed_L} {pc n : Nat} {ls : List (Nat × Value)} {y : ed_m} {rm : Room}
abbrev ed_tk (x : ed_x) (pc : Nat) (E : String) (h : Nat) : Prop := x.2.2.1.platform.magicAccessors = ({} : Platform).magicAccessors → ∀ (ce : Cell), x.2.2.2.2.1.vm.findClass E = some ce.cls → (∃ k, x.2.2.2.2.1.vm.classes[ce.cls]? = some k) ∧ jx_takes x.2.2.1.platform x.2.2.2.2.1 x.2.2.2.2.2.1.cls pc ce.cls x.2.2.2.2.2.2.2.2.2.exceptionTable.toList h
theorem gx_in2 (C : Cx g x y rm) {E : String} {h i : Nat} (ht : ed_tk x pc E h) (d : Dv y h .astore_n .astore i n) (hn : i < nL) {ls' : List (Nat × Value)} (hs : ls.filter (lf1 i) = ls') (k : Gd g x post mc ms nL cells slots Y I L n ls' []) : Gx g x post mc ms nL cells slots Y I L pc ls E := by
  intro H locs la q ce rst T hH hl hv hq hce hcl hT X
  exact gx_in C (ht (by rw [X.admits.platform])) d hn hs k H locs la q ce rst T hH hl hv hq hce hcl hT X
theorem ed_tk1 (C : Cx g x y rm) {a0 b0 h0 t0 : Nat} {tl : List (Nat × Nat × Nat × Nat)} (hh : y.2.2.2.2 = (a0, b0, h0, t0) :: tl) (hpc : a0 ≤ pc ∧ pc < b0) (hne : t0 ≠ 0) {E : String} (hlk : Cond.classLink y.1.cls t0 E ∈ lw_tbl) (hcs : Cond.castable E E ∈ lw_tbl) : ed_tk x pc E h0 := by
  intro hpl ce hce
  have hok := C.2.2.2.2.2.2.1
  refine ⟨by obtain ⟨k9, h9, -⟩ := Vm.findClass_spec hce; exact ⟨k9, h9⟩, ?_⟩
  have hex := C.2.2.2.2.2.2.2.2.2.1.trans hh
  cases htb : x.2.2.2.2.2.2.2.2.2.exceptionTable.toList with
  | nil => rw [htb] at hex; cases hex
  | cons z zs =>
    rw [htb] at hex
    simp only [List.map_cons, List.cons.injEq, Prod.mk.injEq] at hex
    obtain ⟨⟨e1, e2, e3, e4⟩, -⟩ := hex
    obtain ⟨c', hc', hcl⟩ := Cond.classLink_spec C.2.2.2.1 (hok.1.use hlk rfl #[]) x.2.2.1.platform hpl
    obtain ⟨c1, c2, q1, q2, q3⟩ := Cond.castable_spec (hok.1.use hcs rfl #[])
    cases Option.some.inj (q1.symm.trans hce)
    cases Option.some.inj (q2.symm.trans hce)
    cases Option.some.inj (hc'.symm.trans hce)
    refine Or.inr ⟨?_, by rw [e4]; exact hne, ce.cls, by rw [e4]; exact hcl, Or.inl ⟨q3, e3.symm⟩⟩
    simp [covers, e1, e2, hpc.1, hpc.2]
theorem ed_tk2 (C : Cx g x y rm) {a0 b0 h0 t0 a1 b1 h1 t1 : Nat} {tl : List (Nat × Nat × Nat × Nat)} (hh : y.2.2.2.2 = (a0, b0, h0, t0) :: (a1, b1, h1, t1) :: tl) (hpc : a0 ≤ pc ∧ pc < b0) (hpc1 : a1 ≤ pc ∧ pc < b1) (hne : t0 ≠ 0) (hne1 : t1 ≠ 0)
    (hlk0 : Cond.classLink y.1.cls t0 "java/lang/IllegalArgumentException" ∈ lw_tbl) (hlk : Cond.classLink y.1.cls t1 "java/lang/IllegalStateException" ∈ lw_tbl) (hcs : Cond.castable "java/lang/IllegalStateException" "java/lang/IllegalStateException" ∈ lw_tbl) : ed_tk x pc "java/lang/IllegalStateException" h1 := by
  intro hpl ce hce
  have hok := C.2.2.2.2.2.2.1
  refine ⟨by obtain ⟨k9, h9, -⟩ := Vm.findClass_spec hce; exact ⟨k9, h9⟩, ?_⟩
  have hex := C.2.2.2.2.2.2.2.2.2.1.trans hh
  cases htb : x.2.2.2.2.2.2.2.2.2.exceptionTable.toList with
  | nil => rw [htb] at hex; cases hex
  | cons z zs =>
    cases zs with
    | nil => rw [htb] at hex; simp at hex
    | cons z2 zs =>
      rw [htb] at hex
      simp only [List.map_cons, List.cons.injEq, Prod.mk.injEq] at hex
      obtain ⟨⟨e1, e2, e3, e4⟩, ⟨f1, f2, f3, f4⟩, -⟩ := hex
      obtain ⟨c', hc', hcl⟩ := Cond.classLink_spec C.2.2.2.1 (hok.1.use hlk0 rfl #[]) x.2.2.1.platform hpl
      obtain ⟨c5, hc5, hcl5⟩ := Cond.classLink_spec C.2.2.2.1 (hok.1.use hlk rfl #[]) x.2.2.1.platform hpl
      obtain ⟨c1, c2, q1, q2, q3⟩ := Cond.castable_spec (hok.1.use hcs rfl #[])
      obtain ⟨n1, n2, p1, p2, p3⟩ := hok.2.2.2.1
      cases Option.some.inj (q1.symm.trans hce)
      cases Option.some.inj (q2.symm.trans hce)
      cases Option.some.inj (hc5.symm.trans hce)
      cases Option.some.inj (p1.symm.trans hce)
      cases Option.some.inj (hc'.symm.trans p2)
      refine Or.inr ⟨by simp [covers, e1, e2, hpc.1, hpc.2], by rw [e4]; exact hne, c', by rw [e4]; exact hcl, Or.inr ⟨p3, Or.inr ⟨by simp [covers, f1, f2, hpc1.1, hpc1.2], by rw [f4]; exact hne1, ce.cls, by rw [f4]; exact hcl5, Or.inl ⟨q3, f3.symm⟩⟩⟩⟩
end CATCH
