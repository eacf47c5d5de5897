/-! the script's rows -/
section SCRIPT
variable {g : ed_g} {x : ed_x} {post : ed_post} {mc ms nL cells slots : Nat} {Y : ed_Y} {I : ed_I} {L : ed_L} {pc n : Nat} {ls : List (Nat × Value)} {st : List Value} {y : ed_m} {rm : Room}
/-- the script: N ints, X of them, below the world -/
def Sc (g : ed_g) (x : ed_x) (N : Nat) (X : Int → Int) : Prop := N < 2147483648 ∧ g.2.1 < g.1 ∧ ∃ xs : Nat → Int32, va_X g.2.1 N xs x.2.2.2.2.1 g.2.2.1 ∧ ∀ j : Int, X j = (xs j.toNat).toInt
theorem Sc.rng {N : Nat} {X : Int → Int} (h : Sc g x N X) (j : Int) : -2147483648 ≤ X j ∧ X j ≤ 2147483647 := by
  obtain ⟨-, -, xs, -, hX⟩ := h
  rw [hX j]
  have h1 := Int32.le_toInt (xs j.toNat)
  have h2 := Int32.toInt_lt (xs j.toNat)
  omega
theorem r_sld (C : Cx g x y rm) (d : Dn y pc .iaload 1 n) {N q : Nat} {X : Int → Int} (hX : Sc g x N X) {i : Int} (hi : 0 ≤ i ∧ i < (N : Int)) (kk : Gd g x post mc ms nL cells slots Y I L n ls (.int (iZ (X i)) :: st)) : Gd g x post mc ms nL cells slots Y I L pc ls (.int (iZ i) :: .retAddr q :: st) := by
  obtain ⟨d, rfl⟩ := d
  obtain ⟨hN, hb, xs, ⟨scr, h1, h2, h3, h4, h5⟩, hXs⟩ := hX
  intro H locs la hH hl hv
  have kk := kk H locs la hH hl hv
  have hlt : (iZ i).toNatClampNeg < N := by rw [iZ_clamp (by omega)]; omega
  refine W.iald (v := .int (xs (iZ i).toNatClampNeg)) C.1 C.2.1 (by rw [hH.2.1 _ hb]; exact h1) h2 h3 (by rw [h4]; exact iZ_in hi.1 hi.2 hN) (h5 _ hlt) rfl rfl d ?_
  have e : (xs (iZ i).toNatClampNeg) = iZ (X i) := by rw [hXs i, iZ_clamp (by omega)]; exact iZ_of _
  rw [e]
  exact kk
theorem r_slen (C : Cx g x y rm) (d : Dn y pc .arraylength 1 n) {N q : Nat} {X : Int → Int} (hX : Sc g x N X) (kk : Gd g x post mc ms nL cells slots Y I L n ls (.int (iZ N) :: st)) : Gd g x post mc ms nL cells slots Y I L pc ls (.retAddr q :: st) := by
  obtain ⟨d, rfl⟩ := d
  obtain ⟨hN, hb, xs, ⟨scr, h1, h2, h3, h4, h5⟩, hXs⟩ := hX
  intro H locs la hH hl hv
  have kk := kk H locs la hH hl hv
  refine W.alen (n := iZ N) C.1 C.2.1 (by rw [hH.2.1 _ hb]; exact h1) h2 (by rw [h4] <;> rfl) rfl rfl d ?_
  exact kk
def jl (a b : Int) : Int := (((lZ a) <<< ((iZ 32).toInt64 &&& 63)) ||| ((lZ b) &&& (lZ 4294967295))).toInt
theorem jl_rng (a b : Int) : -9223372036854775808 ≤ jl a b ∧ jl a b ≤ 9223372036854775807 := by
  unfold jl
  generalize (((lZ a) <<< ((iZ 32).toInt64 &&& 63)) ||| ((lZ b) &&& (lZ 4294967295))) = w
  have h1 := Int64.le_toInt w
  have h2 := Int64.toInt_lt w
  omega
theorem r_lorJ (C : Cx g x y rm) (d : Dn y pc .lor 1 n) {a b : Int} (k : Gd g x post mc ms nL cells slots Y I L n ls (.long (lZ (jl a b)) :: st)) : Gd g x post mc ms nL cells slots Y I L pc ls (.long ((lZ b) &&& (lZ 4294967295)) :: .long ((lZ a) <<< ((iZ 32).toInt64 &&& 63)) :: st) := by
  refine r_lor C d ?_
  rw [lZ_of (((lZ a) <<< ((iZ 32).toInt64 &&& 63)) ||| ((lZ b) &&& (lZ 4294967295)))]
  exact k
def j31 (a : Int) : Int := (iZ a &&& iZ 31).toInt
theorem j31_rng (a : Int) : 0 ≤ j31 a ∧ j31 a ≤ 31 := by
  unfold j31
  have e : (iZ a &&& iZ 31).toBitVec.toNat ≤ 31 := by
    rw [Int32.toBitVec_and, BitVec.toNat_and]
    exact Nat.and_le_right
  have e2 : (iZ a &&& iZ 31).toInt = ((iZ a &&& iZ 31).toBitVec.toNat : Int) := by
    rw [← Int32.toInt_toBitVec]
    exact BitVec.toInt_eq_toNat_of_lt (by omega)
  rw [e2]
  omega
theorem r_iandJ (C : Cx g x y rm) (d : Dn y pc .iand 1 n) {a : Int} (k : Gd g x post mc ms nL cells slots Y I L n ls (.int (iZ (j31 a)) :: st)) : Gd g x post mc ms nL cells slots Y I L pc ls (.int (iZ 31) :: .int (iZ a) :: st) := by
  refine r_iand C d ?_
  rw [iZ_of (iZ a &&& iZ 31)]
  exact k
theorem Gd.loose (hY : Y.1 = true) (k : Gd g x post mc ms nL cells slots (false, Y.2) I L pc ls st) : Gd g x post mc ms nL cells slots Y I L pc ls st := by
  intro H locs la hH hl hv
  exact k H locs la ⟨⟨hH.1.1, fun h => by cases h⟩, hH.2.1, hH.2.2⟩ hl hv
end SCRIPT
