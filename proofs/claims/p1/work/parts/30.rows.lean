/-! rows: an instruction each, over worlds by numbers (printed by wip/whole/prog/rows.py) -/
def Dn (y : ed_m) (pc : Nat) (i : Instr) (k n : Nat) : Prop := decode y.2.1 pc = .ok (i, k) ∧ pc + k = n
def Dj (y : ed_m) (pc : Nat) (mk : Int → Instr) (n t : Nat) : Prop := ∃ off, decode y.2.1 pc = .ok (mk off, 3) ∧ pc + 3 = n ∧ (pc : Int) + off = (t : Int)
/-- a load or store of local i: by its short or its long form -/
def Dv (y : ed_m) (pc : Nat) (sh : Fin 4 → Instr) (lo : Nat → Instr) (i n : Nat) : Prop := (∃ k : Fin 4, decode y.2.1 pc = .ok (sh k, 1) ∧ (k : Nat) = i ∧ pc + 1 = n) ∨ (decode y.2.1 pc = .ok (lo i, 2) ∧ pc + 2 = n)
/-- a constant on the stack -/
def Dk (y : ed_m) (pc : Nat) (w : Int) (n : Nat) : Prop :=
  (∃ v, decode y.2.1 pc = .ok (.iconst v, 1) ∧ Int32.ofInt v = iZ w ∧ pc + 1 = n) ∨ (∃ v, decode y.2.1 pc = .ok (.bipush v, 2) ∧ (Int8.ofInt v).toInt32 = iZ w ∧ pc + 2 = n) ∨
  (∃ v, decode y.2.1 pc = .ok (.sipush v, 3) ∧ (Int16.ofInt v).toInt32 = iZ w ∧ pc + 3 = n) ∨ (∃ i, decode y.2.1 pc = .ok (.ldc i, 2) ∧ Cond.constant y.1.cls i (iZ w) ∈ lw_tbl ∧ pc + 2 = n)
def Dl (y : ed_m) (pc : Nat) (w : Int) (n : Nat) : Prop :=
  (∃ v : Fin 2, decode y.2.1 pc = .ok (.lconst v, 1) ∧ Int64.ofNat (v : Nat) = lZ w ∧ pc + 1 = n) ∨ (∃ i, decode y.2.1 pc = .ok (.ldc2_w i, 3) ∧ Cond.constantLong y.1.cls i (lZ w) ∈ lw_tbl ∧ pc + 3 = n)
section ROWS
variable {g : ed_g} {x : ed_x} {post : ed_post} {mc ms nL cells slots : Nat} {Y : ed_Y} {I : ed_I} {L : ed_L} {pc n : Nat} {ls : List (Nat × Value)} {st : List Value} {y : ed_m} {rm : Room}
theorem r_ik (C : Cx g x y rm) {w : Int} (d : Dk y pc w n) (k : Gd g x post mc ms nL cells slots Y I L n ls (.int (iZ w) :: st)) : Gd g x post mc ms nL cells slots Y I L pc ls st := by
  intro H locs la hH hl hv
  have k := k H locs la hH hl hv
  rcases d with ⟨v, d, hw, rfl⟩ | ⟨v, d, hw, rfl⟩ | ⟨v, d, hw, rfl⟩ | ⟨i, d, hw, rfl⟩
  · exact lv_iconst C.1 C.2.1 d hw k
  · exact lv_bipush C.1 C.2.1 d hw k
  · exact lv_sipush C.1 C.2.1 d hw k
  · exact lv_ldc C.1 C.2.1 C.2.2.2.1 (C.2.2.2.2.2.2.1.1.use hw rfl _) d k
theorem r_lk (C : Cx g x y rm) {w : Int} (d : Dl y pc w n) (k : Gd g x post mc ms nL cells slots Y I L n ls (.long (lZ w) :: st)) : Gd g x post mc ms nL cells slots Y I L pc ls st := by
  intro H locs la hH hl hv
  have k := k H locs la hH hl hv
  rcases d with ⟨v, d, hw, rfl⟩ | ⟨i, d, hw, rfl⟩
  · exact lv_lconst C.1 C.2.1 d hw k
  · exact lv_ldc2 C.1 C.2.1 C.2.2.2.1 (C.2.2.2.2.2.2.1.1.use hw rfl _) d k
theorem r_ild (C : Cx g x y rm) {i : Nat} (d : Dv y pc .iload_n .iload i n) {v : Int32} (h : lk ls i = some (.int v)) (k : Gd g x post mc ms nL cells slots Y I L n ls (.int v :: st)) : Gd g x post mc ms nL cells slots Y I L pc ls st := by
  intro H locs la hH hl hv
  have k := k H locs la hH hl hv
  have h9 := ed_lv_at hv h
  rcases d with ⟨j, d, rfl, rfl⟩ | ⟨d, rfl⟩
  · exact lv_iload_n C.1 C.2.1 d rfl h9 k
  · exact lv_iload C.1 C.2.1 d h9 k
theorem r_lld (C : Cx g x y rm) {i : Nat} (d : Dv y pc .lload_n .lload i n) {v : Int64} (h : lk ls i = some (.long v)) (k : Gd g x post mc ms nL cells slots Y I L n ls (.long v :: st)) : Gd g x post mc ms nL cells slots Y I L pc ls st := by
  intro H locs la hH hl hv
  have k := k H locs la hH hl hv
  have h9 := ed_lv_at hv h
  rcases d with ⟨j, d, rfl, rfl⟩ | ⟨d, rfl⟩
  · exact lv_lload_n C.1 C.2.1 d rfl h9 k
  · exact lv_lload C.1 C.2.1 d h9 k
theorem r_ald (C : Cx g x y rm) {i : Nat} (d : Dv y pc .aload_n .aload i n) {v : Nat} (h : lk ls i = some (.ref v)) (k : Gd g x post mc ms nL cells slots Y I L n ls (.ref v :: st)) : Gd g x post mc ms nL cells slots Y I L pc ls st := by
  intro H locs la hH hl hv
  have k := k H locs la hH hl hv
  have h9 := ed_lv_at hv h
  rcases d with ⟨j, d, rfl, rfl⟩ | ⟨d, rfl⟩
  · exact lv_aload_n C.1 C.2.1 d rfl h9 k
  · exact lv_aload C.1 C.2.1 d h9 k
/-- the script's reference -/
theorem r_aldX (C : Cx g x y rm) {i : Nat} (d : Dv y pc .aload_n .aload i n) {v : Nat} (h : lk ls i = some (.retAddr v)) (k : Gd g x post mc ms nL cells slots Y I L n ls (.retAddr v :: st)) : Gd g x post mc ms nL cells slots Y I L pc ls st := by
  intro H locs la hH hl hv
  have k := k H locs la hH hl hv
  have h9 := ed_lv_at hv h
  rcases d with ⟨j, d, rfl, rfl⟩ | ⟨d, rfl⟩
  · exact lv_aload_n C.1 C.2.1 d rfl h9 k
  · exact lv_aload C.1 C.2.1 d h9 k
theorem r_ist (C : Cx g x y rm) {i : Nat} (d : Dv y pc .istore_n .istore i n) {v : Int32} (hn : i < nL) {ls' : List (Nat × Value)} (h : ls1 i (.int v) ls = ls') (k : Gd g x post mc ms nL cells slots Y I L n ls' st) : Gd g x post mc ms nL cells slots Y I L pc ls (.int v :: st) := by
  intro H locs la hH hl hv
  subst h
  rcases d with ⟨j, d, rfl, rfl⟩ | ⟨d, rfl⟩
  · exact lv_istore_n C.1 C.2.1 d rfl hv hn rfl (fun la' h' => k H locs la' hH hl (ed_lv_set (lf1_cv g _) h'))
  · exact lv_istore C.1 C.2.1 d hv hn rfl (fun la' h' => k H locs la' hH hl (ed_lv_set (lf1_cv g _) h'))
theorem r_lst (C : Cx g x y rm) {i : Nat} (d : Dv y pc .lstore_n .lstore i n) {v : Int64} (hn : i + 1 < nL) {ls' : List (Nat × Value)} (h : ls2 i (.long v) ls = ls') (k : Gd g x post mc ms nL cells slots Y I L n ls' st) : Gd g x post mc ms nL cells slots Y I L pc ls (.long v :: st) := by
  intro H locs la hH hl hv
  subst h
  rcases d with ⟨j, d, rfl, rfl⟩ | ⟨d, rfl⟩
  · exact lv_lstore_n C.1 C.2.1 d rfl hv hn rfl (fun la' h' => k H locs la' hH hl (ed_lv_set (lf2_cv g _) h'))
  · exact lv_lstore C.1 C.2.1 d hv hn rfl (fun la' h' => k H locs la' hH hl (ed_lv_set (lf2_cv g _) h'))
theorem r_ast (C : Cx g x y rm) {i : Nat} (d : Dv y pc .astore_n .astore i n) {v : Nat} (hn : i < nL) {ls' : List (Nat × Value)} (h : ls1 i (.ref v) ls = ls') (k : Gd g x post mc ms nL cells slots Y I L n ls' st) : Gd g x post mc ms nL cells slots Y I L pc ls (.ref v :: st) := by
  intro H locs la hH hl hv
  subst h
  rcases d with ⟨j, d, rfl, rfl⟩ | ⟨d, rfl⟩
  · exact lv_astore_n C.1 C.2.1 d rfl hv hn rfl (fun la' h' => k H locs la' hH hl (ed_lv_set (lf1_cv g _) h'))
  · exact lv_astore C.1 C.2.1 d hv hn rfl (fun la' h' => k H locs la' hH hl (ed_lv_set (lf1_cv g _) h'))
theorem r_iinc (C : Cx g x y rm) {i : Nat} {v : Int} (d : Dn y pc (.iinc i v) 3 n) {a : Int} (hn : i < nL) (h : lk ls i = some (.int (iZ a))) {ls' : List (Nat × Value)} (hs : ls1 i (.int (iZ (a + v))) ls = ls') (k : Gd g x post mc ms nL cells slots Y I L n ls' st) : Gd g x post mc ms nL cells slots Y I L pc ls st := by
  intro H locs la hH hl hv
  subst hs
  obtain ⟨d, rfl⟩ := d
  obtain ⟨j, hj⟩ := List.getElem?_of_mem (List.mem_map.mpr ⟨(i, .int (iZ a)), lk_mem h, rfl⟩ : (i, ed_cv g (.int (iZ a))) ∈ ed_lv g ls)
  exact lv_iinc C.1 C.2.1 d hv hj (iZ_add a v) hn rfl (fun la' h' => k H locs la' hH hl (ed_lv_set (lf1_cv g _) h'))
theorem r_iadd (C : Cx g x y rm) (d : Dn y pc .iadd 1 n) {a b : Int} (k : Gd g x post mc ms nL cells slots Y I L n ls (.int (iZ (a + b)) :: st)) : Gd g x post mc ms nL cells slots Y I L pc ls (.int (iZ b) :: .int (iZ a) :: st) := by
  obtain ⟨d, rfl⟩ := d
  exact fun H locs la hH hl hv => lv_iadd C.1 C.2.1 d (by rw [iZ_add]; exact k H locs la hH hl hv)
theorem r_isub (C : Cx g x y rm) (d : Dn y pc .isub 1 n) {a b : Int} (k : Gd g x post mc ms nL cells slots Y I L n ls (.int (iZ (a - b)) :: st)) : Gd g x post mc ms nL cells slots Y I L pc ls (.int (iZ b) :: .int (iZ a) :: st) := by
  obtain ⟨d, rfl⟩ := d
  exact fun H locs la hH hl hv => lv_isub C.1 C.2.1 d (by rw [iZ_sub]; exact k H locs la hH hl hv)
theorem r_imul (C : Cx g x y rm) (d : Dn y pc .imul 1 n) {a b : Int} (k : Gd g x post mc ms nL cells slots Y I L n ls (.int (iZ (a * b)) :: st)) : Gd g x post mc ms nL cells slots Y I L pc ls (.int (iZ b) :: .int (iZ a) :: st) := by
  obtain ⟨d, rfl⟩ := d
  exact fun H locs la hH hl hv => lv_imul C.1 C.2.1 d (by rw [iZ_mul]; exact k H locs la hH hl hv)
theorem r_iand (C : Cx g x y rm) (d : Dn y pc .iand 1 n) {a b : Int32} (k : Gd g x post mc ms nL cells slots Y I L n ls (.int (a &&& b) :: st)) : Gd g x post mc ms nL cells slots Y I L pc ls (.int b :: .int a :: st) := by
  obtain ⟨d, rfl⟩ := d
  exact fun H locs la hH hl hv => lv_iand C.1 C.2.1 d (k H locs la hH hl hv)
theorem r_ior (C : Cx g x y rm) (d : Dn y pc .ior 1 n) {a b : Int32} (k : Gd g x post mc ms nL cells slots Y I L n ls (.int (a ||| b) :: st)) : Gd g x post mc ms nL cells slots Y I L pc ls (.int b :: .int a :: st) := by
  obtain ⟨d, rfl⟩ := d
  exact fun H locs la hH hl hv => lv_ior C.1 C.2.1 d (k H locs la hH hl hv)
theorem r_ladd (C : Cx g x y rm) (d : Dn y pc .ladd 1 n) {a b : Int} (k : Gd g x post mc ms nL cells slots Y I L n ls (.long (lZ (a + b)) :: st)) : Gd g x post mc ms nL cells slots Y I L pc ls (.long (lZ b) :: .long (lZ a) :: st) := by
  obtain ⟨d, rfl⟩ := d
  exact fun H locs la hH hl hv => lv_ladd C.1 C.2.1 d (by rw [lZ_add]; exact k H locs la hH hl hv)
theorem r_lsub (C : Cx g x y rm) (d : Dn y pc .lsub 1 n) {a b : Int} (k : Gd g x post mc ms nL cells slots Y I L n ls (.long (lZ (a - b)) :: st)) : Gd g x post mc ms nL cells slots Y I L pc ls (.long (lZ b) :: .long (lZ a) :: st) := by
  obtain ⟨d, rfl⟩ := d
  exact fun H locs la hH hl hv => lv_lsub C.1 C.2.1 d (by rw [lZ_sub]; exact k H locs la hH hl hv)
theorem r_lmul (C : Cx g x y rm) (d : Dn y pc .lmul 1 n) {a b : Int} (k : Gd g x post mc ms nL cells slots Y I L n ls (.long (lZ (a * b)) :: st)) : Gd g x post mc ms nL cells slots Y I L pc ls (.long (lZ b) :: .long (lZ a) :: st) := by
  obtain ⟨d, rfl⟩ := d
  exact fun H locs la hH hl hv => lv_lmul C.1 C.2.1 d (by rw [lZ_mul]; exact k H locs la hH hl hv)
theorem r_land (C : Cx g x y rm) (d : Dn y pc .land 1 n) {a b : Int64} (k : Gd g x post mc ms nL cells slots Y I L n ls (.long (a &&& b) :: st)) : Gd g x post mc ms nL cells slots Y I L pc ls (.long b :: .long a :: st) := by
  obtain ⟨d, rfl⟩ := d
  exact fun H locs la hH hl hv => lv_land C.1 C.2.1 d (k H locs la hH hl hv)
theorem r_lor (C : Cx g x y rm) (d : Dn y pc .lor 1 n) {a b : Int64} (k : Gd g x post mc ms nL cells slots Y I L n ls (.long (a ||| b) :: st)) : Gd g x post mc ms nL cells slots Y I L pc ls (.long b :: .long a :: st) := by
  obtain ⟨d, rfl⟩ := d
  exact fun H locs la hH hl hv => lv_lor C.1 C.2.1 d (k H locs la hH hl hv)
theorem r_ldiv (C : Cx g x y rm) (d : Dn y pc .ldiv 1 n) {a b : Int} (hr : 0 ≤ a ∧ a ≤ 9223372036854775807 ∧ 0 < b ∧ b ≤ 9223372036854775807) (k : Gd g x post mc ms nL cells slots Y I L n ls (.long (lZ (a / b)) :: st)) : Gd g x post mc ms nL cells slots Y I L pc ls (.long (lZ b) :: .long (lZ a) :: st) := by
  obtain ⟨d, rfl⟩ := d
  have hb : ¬ lZ b = 0 := fun h => by
    have h2 := (lZ_eq (a := b) (b := 0) (by omega) (by omega)).mp h
    omega
  exact fun H locs la hH hl hv => lv_ldiv C.1 C.2.1 d hb (by rw [lZ_div ⟨hr.1, hr.2.1⟩ hr.2.2]; exact k H locs la hH hl hv)
theorem r_lrem (C : Cx g x y rm) (d : Dn y pc .lrem 1 n) {a b : Int} (hr : 0 ≤ a ∧ a ≤ 9223372036854775807 ∧ 0 < b ∧ b ≤ 9223372036854775807) (k : Gd g x post mc ms nL cells slots Y I L n ls (.long (lZ (a % b)) :: st)) : Gd g x post mc ms nL cells slots Y I L pc ls (.long (lZ b) :: .long (lZ a) :: st) := by
  obtain ⟨d, rfl⟩ := d
  have hb : ¬ lZ b = 0 := fun h => by
    have h2 := (lZ_eq (a := b) (b := 0) (by omega) (by omega)).mp h
    omega
  exact fun H locs la hH hl hv => lv_lrem C.1 C.2.1 d hb (by rw [lZ_rem ⟨hr.1, hr.2.1⟩ hr.2.2]; exact k H locs la hH hl hv)
theorem r_lshl (C : Cx g x y rm) (d : Dn y pc .lshl 1 n) {a : Int64} {b : Int32} (k : Gd g x post mc ms nL cells slots Y I L n ls (.long (a <<< (b.toInt64 &&& 63)) :: st)) : Gd g x post mc ms nL cells slots Y I L pc ls (.int b :: .long a :: st) := by
  obtain ⟨d, rfl⟩ := d
  exact fun H locs la hH hl hv => lv_lshl C.1 C.2.1 d rfl (k H locs la hH hl hv)
theorem r_lshr (C : Cx g x y rm) (d : Dn y pc .lshr 1 n) {a : Int64} {b : Int32} (k : Gd g x post mc ms nL cells slots Y I L n ls (.long (a >>> (b.toInt64 &&& 63)) :: st)) : Gd g x post mc ms nL cells slots Y I L pc ls (.int b :: .long a :: st) := by
  obtain ⟨d, rfl⟩ := d
  exact fun H locs la hH hl hv => lv_lshr C.1 C.2.1 d rfl (k H locs la hH hl hv)
theorem r_i2l (C : Cx g x y rm) (d : Dn y pc .i2l 1 n) {a : Int} (hr : -2147483648 ≤ a ∧ a ≤ 2147483647) (k : Gd g x post mc ms nL cells slots Y I L n ls (.long (lZ a) :: st)) : Gd g x post mc ms nL cells slots Y I L pc ls (.int (iZ a) :: st) := by
  obtain ⟨d, rfl⟩ := d
  exact fun H locs la hH hl hv => lv_i2l C.1 C.2.1 d (iZ_l hr) (k H locs la hH hl hv)
theorem r_dup (C : Cx g x y rm) (d : Dn y pc .dup 1 n) {a : Value} (ha : a.category = 1) (k : Gd g x post mc ms nL cells slots Y I L n ls (a :: a :: st)) : Gd g x post mc ms nL cells slots Y I L pc ls (a :: st) := by
  obtain ⟨d, rfl⟩ := d
  exact fun H locs la hH hl hv => lv_dup C.1 C.2.1 d ((ed_cv_cat g a).trans ha) (k H locs la hH hl hv)
theorem r_pop (C : Cx g x y rm) (d : Dn y pc .pop 1 n) {a : Value} (ha : a.category = 1) (k : Gd g x post mc ms nL cells slots Y I L n ls st) : Gd g x post mc ms nL cells slots Y I L pc ls (a :: st) := by
  obtain ⟨d, rfl⟩ := d
  exact fun H locs la hH hl hv => lv_pop C.1 C.2.1 d ((ed_cv_cat g a).trans ha) (k H locs la hH hl hv)
theorem r_pop2 (C : Cx g x y rm) (d : Dn y pc .pop2 1 n) {a : Value} (ha : a.category = 2) (k : Gd g x post mc ms nL cells slots Y I L n ls st) : Gd g x post mc ms nL cells slots Y I L pc ls (a :: st) := by
  obtain ⟨d, rfl⟩ := d
  exact fun H locs la hH hl hv => lv_pop2_2 C.1 C.2.1 d ((ed_cv_cat g a).trans ha) (k H locs la hH hl hv)
theorem r_dup2 (C : Cx g x y rm) (d : Dn y pc .dup2 1 n) {a b : Value} (ha : a.category = 1) (hb : b.category = 1) (k : Gd g x post mc ms nL cells slots Y I L n ls (a :: b :: a :: b :: st)) : Gd g x post mc ms nL cells slots Y I L pc ls (a :: b :: st) := by
  obtain ⟨d, rfl⟩ := d
  exact fun H locs la hH hl hv => lv_dup2_11 C.1 C.2.1 d ((ed_cv_cat g a).trans ha) ((ed_cv_cat g b).trans hb) (k H locs la hH hl hv)
theorem r_dup_x1 (C : Cx g x y rm) (d : Dn y pc .dup_x1 1 n) {a b : Value} (ha : a.category = 1) (hb : b.category = 1) (k : Gd g x post mc ms nL cells slots Y I L n ls (a :: b :: a :: st)) : Gd g x post mc ms nL cells slots Y I L pc ls (a :: b :: st) := by
  obtain ⟨d, rfl⟩ := d
  exact fun H locs la hH hl hv => lv_dup_x1 C.1 C.2.1 d ((ed_cv_cat g a).trans ha) ((ed_cv_cat g b).trans hb) (k H locs la hH hl hv)
theorem ed_cmp {a b : Int} (hr : -9223372036854775808 ≤ a ∧ a ≤ 9223372036854775807 ∧ -9223372036854775808 ≤ b ∧ b ≤ 9223372036854775807) : lg_cmp (lZ a) (lZ b) = iZ (if b < a then 1 else if a = b then 0 else -1) := by
  unfold lg_cmp
  have h1 : lZ b < lZ a ↔ b < a := lZ_lt (by omega) (by omega)
  have h2 : lZ a = lZ b ↔ a = b := lZ_eq (by omega) (by omega)
  by_cases c1 : b < a
  · rw [if_pos (h1.mpr c1), if_pos c1]; rfl
  · rw [if_neg (fun h => c1 (h1.mp h)), if_neg c1]
    by_cases c2 : a = b
    · rw [if_pos (h2.mpr c2), if_pos c2]; rfl
    · rw [if_neg (fun h => c2 (h2.mp h)), if_neg c2]; rfl
theorem r_lcmp (C : Cx g x y rm) (d : Dn y pc .lcmp 1 n) {a b : Int} (hr : -9223372036854775808 ≤ a ∧ a ≤ 9223372036854775807 ∧ -9223372036854775808 ≤ b ∧ b ≤ 9223372036854775807) (k : Gd g x post mc ms nL cells slots Y I L n ls (.int (iZ (if b < a then 1 else if a = b then 0 else -1)) :: st)) : Gd g x post mc ms nL cells slots Y I L pc ls (.long (lZ b) :: .long (lZ a) :: st) := by
  obtain ⟨d, rfl⟩ := d
  exact fun H locs la hH hl hv => W.lcmp C.1 C.2.1 d (by rw [ed_cmp hr]; exact k H locs la hH hl hv)
theorem r_if_eq (C : Cx g x y rm) {t : Nat} (d : Dj y pc (.ifCond .eq) n t) {a : Int} (hr : -2147483648 ≤ a ∧ a ≤ 2147483647) (kt : a = 0 → Gd g x post mc ms nL cells slots Y I L t ls st) (kf : a ≠ 0 → Gd g x post mc ms nL cells slots Y I L n ls st) : Gd g x post mc ms nL cells slots Y I L pc ls (.int (iZ a) :: st) := by
  obtain ⟨off, d, rfl, ht⟩ := d
  have e : (0 : Int32) = iZ 0 := rfl
  have h9 := iZ_eq (a := a) (b := 0) (by omega) (by omega)
  exact fun H locs la hH hl hv => lv_if_eq C.1 C.2.1 d ht (fun h => kt (by first | (rw [e, h9] at h; omega) | (simp only [ne_eq, e, h9, Decidable.not_not] at h; omega)) H locs la hH hl hv) (fun h => kf (by first | (rw [e, h9] at h; omega) | (simp only [ne_eq, e, h9, Decidable.not_not] at h; omega)) H locs la hH hl hv)
theorem r_icmp_eq (C : Cx g x y rm) {t : Nat} (d : Dj y pc (.if_icmp .eq) n t) {a b : Int} (hr : -2147483648 ≤ a ∧ a ≤ 2147483647 ∧ -2147483648 ≤ b ∧ b ≤ 2147483647) (kt : a = b → Gd g x post mc ms nL cells slots Y I L t ls st) (kf : a ≠ b → Gd g x post mc ms nL cells slots Y I L n ls st) : Gd g x post mc ms nL cells slots Y I L pc ls (.int (iZ b) :: .int (iZ a) :: st) := by
  obtain ⟨off, d, rfl, ht⟩ := d
  have h9 := iZ_eq (a := a) (b := b) (by omega) (by omega)
  exact fun H locs la hH hl hv => lv_icmp_eq C.1 C.2.1 d ht (fun h => kt (by first | (rw [h9] at h; omega) | (simp only [ne_eq, h9, Decidable.not_not] at h; omega)) H locs la hH hl hv) (fun h => kf (by first | (rw [h9] at h; omega) | (simp only [ne_eq, h9, Decidable.not_not] at h; omega)) H locs la hH hl hv)
theorem r_lc_eq (C : Cx g x y rm) {t k : Nat} (d1 : Dn y pc .lcmp 1 k) (d : Dj y k (.ifCond .eq) n t) {a b : Int} (hr : -9223372036854775808 ≤ a ∧ a ≤ 9223372036854775807 ∧ -9223372036854775808 ≤ b ∧ b ≤ 9223372036854775807) (kt : a = b → Gd g x post mc ms nL cells slots Y I L t ls st) (kf : a ≠ b → Gd g x post mc ms nL cells slots Y I L n ls st) : Gd g x post mc ms nL cells slots Y I L pc ls (.long (lZ b) :: .long (lZ a) :: st) :=
  r_lcmp C d1 hr (r_if_eq C d (by split <;> (try split) <;> omega) (fun h => kt (by split at h <;> (try split at h) <;> omega)) (fun h => kf (by split at h <;> (try split at h) <;> omega)))
theorem r_if_ne (C : Cx g x y rm) {t : Nat} (d : Dj y pc (.ifCond .ne) n t) {a : Int} (hr : -2147483648 ≤ a ∧ a ≤ 2147483647) (kt : a ≠ 0 → Gd g x post mc ms nL cells slots Y I L t ls st) (kf : a = 0 → Gd g x post mc ms nL cells slots Y I L n ls st) : Gd g x post mc ms nL cells slots Y I L pc ls (.int (iZ a) :: st) := by
  obtain ⟨off, d, rfl, ht⟩ := d
  have e : (0 : Int32) = iZ 0 := rfl
  have h9 := iZ_eq (a := a) (b := 0) (by omega) (by omega)
  exact fun H locs la hH hl hv => lv_if_ne C.1 C.2.1 d ht (fun h => kt (by first | (rw [e, h9] at h; omega) | (simp only [ne_eq, e, h9, Decidable.not_not] at h; omega)) H locs la hH hl hv) (fun h => kf (by first | (rw [e, h9] at h; omega) | (simp only [ne_eq, e, h9, Decidable.not_not] at h; omega)) H locs la hH hl hv)
theorem r_icmp_ne (C : Cx g x y rm) {t : Nat} (d : Dj y pc (.if_icmp .ne) n t) {a b : Int} (hr : -2147483648 ≤ a ∧ a ≤ 2147483647 ∧ -2147483648 ≤ b ∧ b ≤ 2147483647) (kt : a ≠ b → Gd g x post mc ms nL cells slots Y I L t ls st) (kf : a = b → Gd g x post mc ms nL cells slots Y I L n ls st) : Gd g x post mc ms nL cells slots Y I L pc ls (.int (iZ b) :: .int (iZ a) :: st) := by
  obtain ⟨off, d, rfl, ht⟩ := d
  have h9 := iZ_eq (a := a) (b := b) (by omega) (by omega)
  exact fun H locs la hH hl hv => lv_icmp_ne C.1 C.2.1 d ht (fun h => kt (by first | (rw [h9] at h; omega) | (simp only [ne_eq, h9, Decidable.not_not] at h; omega)) H locs la hH hl hv) (fun h => kf (by first | (rw [h9] at h; omega) | (simp only [ne_eq, h9, Decidable.not_not] at h; omega)) H locs la hH hl hv)
theorem r_lc_ne (C : Cx g x y rm) {t k : Nat} (d1 : Dn y pc .lcmp 1 k) (d : Dj y k (.ifCond .ne) n t) {a b : Int} (hr : -9223372036854775808 ≤ a ∧ a ≤ 9223372036854775807 ∧ -9223372036854775808 ≤ b ∧ b ≤ 9223372036854775807) (kt : a ≠ b → Gd g x post mc ms nL cells slots Y I L t ls st) (kf : a = b → Gd g x post mc ms nL cells slots Y I L n ls st) : Gd g x post mc ms nL cells slots Y I L pc ls (.long (lZ b) :: .long (lZ a) :: st) :=
  r_lcmp C d1 hr (r_if_ne C d (by split <;> (try split) <;> omega) (fun h => kt (by split at h <;> (try split at h) <;> omega)) (fun h => kf (by split at h <;> (try split at h) <;> omega)))
theorem r_if_lt (C : Cx g x y rm) {t : Nat} (d : Dj y pc (.ifCond .lt) n t) {a : Int} (hr : -2147483648 ≤ a ∧ a ≤ 2147483647) (kt : a < 0 → Gd g x post mc ms nL cells slots Y I L t ls st) (kf : 0 ≤ a → Gd g x post mc ms nL cells slots Y I L n ls st) : Gd g x post mc ms nL cells slots Y I L pc ls (.int (iZ a) :: st) := by
  obtain ⟨off, d, rfl, ht⟩ := d
  have e : (0 : Int32) = iZ 0 := rfl
  have h9 := iZ_lt (a := a) (b := 0) (by omega) (by omega)
  exact fun H locs la hH hl hv => lv_if_lt C.1 C.2.1 d ht (fun h => kt (by first | (rw [e, h9] at h; omega) | (simp only [ne_eq, e, h9, Decidable.not_not] at h; omega)) H locs la hH hl hv) (fun h => kf (by first | (rw [e, h9] at h; omega) | (simp only [ne_eq, e, h9, Decidable.not_not] at h; omega)) H locs la hH hl hv)
theorem r_icmp_lt (C : Cx g x y rm) {t : Nat} (d : Dj y pc (.if_icmp .lt) n t) {a b : Int} (hr : -2147483648 ≤ a ∧ a ≤ 2147483647 ∧ -2147483648 ≤ b ∧ b ≤ 2147483647) (kt : a < b → Gd g x post mc ms nL cells slots Y I L t ls st) (kf : b ≤ a → Gd g x post mc ms nL cells slots Y I L n ls st) : Gd g x post mc ms nL cells slots Y I L pc ls (.int (iZ b) :: .int (iZ a) :: st) := by
  obtain ⟨off, d, rfl, ht⟩ := d
  have h9 := iZ_lt (a := a) (b := b) (by omega) (by omega)
  exact fun H locs la hH hl hv => lv_icmp_lt C.1 C.2.1 d ht (fun h => kt (by first | (rw [h9] at h; omega) | (simp only [ne_eq, h9, Decidable.not_not] at h; omega)) H locs la hH hl hv) (fun h => kf (by first | (rw [h9] at h; omega) | (simp only [ne_eq, h9, Decidable.not_not] at h; omega)) H locs la hH hl hv)
theorem r_lc_lt (C : Cx g x y rm) {t k : Nat} (d1 : Dn y pc .lcmp 1 k) (d : Dj y k (.ifCond .lt) n t) {a b : Int} (hr : -9223372036854775808 ≤ a ∧ a ≤ 9223372036854775807 ∧ -9223372036854775808 ≤ b ∧ b ≤ 9223372036854775807) (kt : a < b → Gd g x post mc ms nL cells slots Y I L t ls st) (kf : b ≤ a → Gd g x post mc ms nL cells slots Y I L n ls st) : Gd g x post mc ms nL cells slots Y I L pc ls (.long (lZ b) :: .long (lZ a) :: st) :=
  r_lcmp C d1 hr (r_if_lt C d (by split <;> (try split) <;> omega) (fun h => kt (by split at h <;> (try split at h) <;> omega)) (fun h => kf (by split at h <;> (try split at h) <;> omega)))
theorem r_if_ge (C : Cx g x y rm) {t : Nat} (d : Dj y pc (.ifCond .ge) n t) {a : Int} (hr : -2147483648 ≤ a ∧ a ≤ 2147483647) (kt : 0 ≤ a → Gd g x post mc ms nL cells slots Y I L t ls st) (kf : a < 0 → Gd g x post mc ms nL cells slots Y I L n ls st) : Gd g x post mc ms nL cells slots Y I L pc ls (.int (iZ a) :: st) := by
  obtain ⟨off, d, rfl, ht⟩ := d
  have e : (0 : Int32) = iZ 0 := rfl
  have h9 := iZ_le (a := 0) (b := a) (by omega) (by omega)
  exact fun H locs la hH hl hv => lv_if_ge C.1 C.2.1 d ht (fun h => kt (by first | (rw [e, h9] at h; omega) | (simp only [ne_eq, e, h9, Decidable.not_not] at h; omega)) H locs la hH hl hv) (fun h => kf (by first | (rw [e, h9] at h; omega) | (simp only [ne_eq, e, h9, Decidable.not_not] at h; omega)) H locs la hH hl hv)
theorem r_icmp_ge (C : Cx g x y rm) {t : Nat} (d : Dj y pc (.if_icmp .ge) n t) {a b : Int} (hr : -2147483648 ≤ a ∧ a ≤ 2147483647 ∧ -2147483648 ≤ b ∧ b ≤ 2147483647) (kt : b ≤ a → Gd g x post mc ms nL cells slots Y I L t ls st) (kf : a < b → Gd g x post mc ms nL cells slots Y I L n ls st) : Gd g x post mc ms nL cells slots Y I L pc ls (.int (iZ b) :: .int (iZ a) :: st) := by
  obtain ⟨off, d, rfl, ht⟩ := d
  have h9 := iZ_le (a := b) (b := a) (by omega) (by omega)
  exact fun H locs la hH hl hv => lv_icmp_ge C.1 C.2.1 d ht (fun h => kt (by first | (rw [h9] at h; omega) | (simp only [ne_eq, h9, Decidable.not_not] at h; omega)) H locs la hH hl hv) (fun h => kf (by first | (rw [h9] at h; omega) | (simp only [ne_eq, h9, Decidable.not_not] at h; omega)) H locs la hH hl hv)
theorem r_lc_ge (C : Cx g x y rm) {t k : Nat} (d1 : Dn y pc .lcmp 1 k) (d : Dj y k (.ifCond .ge) n t) {a b : Int} (hr : -9223372036854775808 ≤ a ∧ a ≤ 9223372036854775807 ∧ -9223372036854775808 ≤ b ∧ b ≤ 9223372036854775807) (kt : b ≤ a → Gd g x post mc ms nL cells slots Y I L t ls st) (kf : a < b → Gd g x post mc ms nL cells slots Y I L n ls st) : Gd g x post mc ms nL cells slots Y I L pc ls (.long (lZ b) :: .long (lZ a) :: st) :=
  r_lcmp C d1 hr (r_if_ge C d (by split <;> (try split) <;> omega) (fun h => kt (by split at h <;> (try split at h) <;> omega)) (fun h => kf (by split at h <;> (try split at h) <;> omega)))
theorem r_if_gt (C : Cx g x y rm) {t : Nat} (d : Dj y pc (.ifCond .gt) n t) {a : Int} (hr : -2147483648 ≤ a ∧ a ≤ 2147483647) (kt : 0 < a → Gd g x post mc ms nL cells slots Y I L t ls st) (kf : a ≤ 0 → Gd g x post mc ms nL cells slots Y I L n ls st) : Gd g x post mc ms nL cells slots Y I L pc ls (.int (iZ a) :: st) := by
  obtain ⟨off, d, rfl, ht⟩ := d
  have e : (0 : Int32) = iZ 0 := rfl
  have h9 := iZ_lt (a := 0) (b := a) (by omega) (by omega)
  exact fun H locs la hH hl hv => lv_if_gt C.1 C.2.1 d ht (fun h => kt (by first | (rw [e, h9] at h; omega) | (simp only [ne_eq, e, h9, Decidable.not_not] at h; omega)) H locs la hH hl hv) (fun h => kf (by first | (rw [e, h9] at h; omega) | (simp only [ne_eq, e, h9, Decidable.not_not] at h; omega)) H locs la hH hl hv)
theorem r_icmp_gt (C : Cx g x y rm) {t : Nat} (d : Dj y pc (.if_icmp .gt) n t) {a b : Int} (hr : -2147483648 ≤ a ∧ a ≤ 2147483647 ∧ -2147483648 ≤ b ∧ b ≤ 2147483647) (kt : b < a → Gd g x post mc ms nL cells slots Y I L t ls st) (kf : a ≤ b → Gd g x post mc ms nL cells slots Y I L n ls st) : Gd g x post mc ms nL cells slots Y I L pc ls (.int (iZ b) :: .int (iZ a) :: st) := by
  obtain ⟨off, d, rfl, ht⟩ := d
  have h9 := iZ_lt (a := b) (b := a) (by omega) (by omega)
  exact fun H locs la hH hl hv => lv_icmp_gt C.1 C.2.1 d ht (fun h => kt (by first | (rw [h9] at h; omega) | (simp only [ne_eq, h9, Decidable.not_not] at h; omega)) H locs la hH hl hv) (fun h => kf (by first | (rw [h9] at h; omega) | (simp only [ne_eq, h9, Decidable.not_not] at h; omega)) H locs la hH hl hv)
theorem r_lc_gt (C : Cx g x y rm) {t k : Nat} (d1 : Dn y pc .lcmp 1 k) (d : Dj y k (.ifCond .gt) n t) {a b : Int} (hr : -9223372036854775808 ≤ a ∧ a ≤ 9223372036854775807 ∧ -9223372036854775808 ≤ b ∧ b ≤ 9223372036854775807) (kt : b < a → Gd g x post mc ms nL cells slots Y I L t ls st) (kf : a ≤ b → Gd g x post mc ms nL cells slots Y I L n ls st) : Gd g x post mc ms nL cells slots Y I L pc ls (.long (lZ b) :: .long (lZ a) :: st) :=
  r_lcmp C d1 hr (r_if_gt C d (by split <;> (try split) <;> omega) (fun h => kt (by split at h <;> (try split at h) <;> omega)) (fun h => kf (by split at h <;> (try split at h) <;> omega)))
theorem r_if_le (C : Cx g x y rm) {t : Nat} (d : Dj y pc (.ifCond .le) n t) {a : Int} (hr : -2147483648 ≤ a ∧ a ≤ 2147483647) (kt : a ≤ 0 → Gd g x post mc ms nL cells slots Y I L t ls st) (kf : 0 < a → Gd g x post mc ms nL cells slots Y I L n ls st) : Gd g x post mc ms nL cells slots Y I L pc ls (.int (iZ a) :: st) := by
  obtain ⟨off, d, rfl, ht⟩ := d
  have e : (0 : Int32) = iZ 0 := rfl
  have h9 := iZ_le (a := a) (b := 0) (by omega) (by omega)
  exact fun H locs la hH hl hv => lv_if_le C.1 C.2.1 d ht (fun h => kt (by first | (rw [e, h9] at h; omega) | (simp only [ne_eq, e, h9, Decidable.not_not] at h; omega)) H locs la hH hl hv) (fun h => kf (by first | (rw [e, h9] at h; omega) | (simp only [ne_eq, e, h9, Decidable.not_not] at h; omega)) H locs la hH hl hv)
theorem r_icmp_le (C : Cx g x y rm) {t : Nat} (d : Dj y pc (.if_icmp .le) n t) {a b : Int} (hr : -2147483648 ≤ a ∧ a ≤ 2147483647 ∧ -2147483648 ≤ b ∧ b ≤ 2147483647) (kt : a ≤ b → Gd g x post mc ms nL cells slots Y I L t ls st) (kf : b < a → Gd g x post mc ms nL cells slots Y I L n ls st) : Gd g x post mc ms nL cells slots Y I L pc ls (.int (iZ b) :: .int (iZ a) :: st) := by
  obtain ⟨off, d, rfl, ht⟩ := d
  have h9 := iZ_le (a := a) (b := b) (by omega) (by omega)
  exact fun H locs la hH hl hv => lv_icmp_le C.1 C.2.1 d ht (fun h => kt (by first | (rw [h9] at h; omega) | (simp only [ne_eq, h9, Decidable.not_not] at h; omega)) H locs la hH hl hv) (fun h => kf (by first | (rw [h9] at h; omega) | (simp only [ne_eq, h9, Decidable.not_not] at h; omega)) H locs la hH hl hv)
theorem r_lc_le (C : Cx g x y rm) {t k : Nat} (d1 : Dn y pc .lcmp 1 k) (d : Dj y k (.ifCond .le) n t) {a b : Int} (hr : -9223372036854775808 ≤ a ∧ a ≤ 9223372036854775807 ∧ -9223372036854775808 ≤ b ∧ b ≤ 9223372036854775807) (kt : a ≤ b → Gd g x post mc ms nL cells slots Y I L t ls st) (kf : b < a → Gd g x post mc ms nL cells slots Y I L n ls st) : Gd g x post mc ms nL cells slots Y I L pc ls (.long (lZ b) :: .long (lZ a) :: st) :=
  r_lcmp C d1 hr (r_if_le C d (by split <;> (try split) <;> omega) (fun h => kt (by split at h <;> (try split at h) <;> omega)) (fun h => kf (by split at h <;> (try split at h) <;> omega)))
theorem r_goto (C : Cx g x y rm) {t : Nat} (d : Dj y pc .goto n t) (k : Gd g x post mc ms nL cells slots Y I L t ls st) : Gd g x post mc ms nL cells slots Y I L pc ls st := by
  obtain ⟨off, d, rfl, ht⟩ := d
  exact fun H locs la hH hl hv => lv_goto C.1 C.2.1 d ht (k H locs la hH hl hv)
theorem r_sw (C : Cx g x y rm) {t len : Nat} {df lo hi : Int} {offs : Array Int} {a : Int} (hr : -2147483648 ≤ a ∧ a ≤ 2147483647) (d : decode y.2.1 pc = .ok (.tableswitch df lo hi offs, len)) {off : Int} (h1 : lo ≤ a) (h2 : a ≤ hi) (ho : offs[(a - lo).toNat]? = some off) (ht : (pc : Int) + off = (t : Int)) (k : Gd g x post mc ms nL cells slots Y I L t ls st) : Gd g x post mc ms nL cells slots Y I L pc ls (.int (iZ a) :: st) :=
  fun H locs la hH hl hv => lv_tableIn C.1 C.2.1 d (by rw [iZ_toInt hr]; omega) (by rw [iZ_toInt hr]; omega) (by rw [iZ_toInt hr]; exact ho) ht (k H locs la hH hl hv)
theorem r_swD (C : Cx g x y rm) {t len : Nat} {df lo hi : Int} {offs : Array Int} {a : Int} (hr : -2147483648 ≤ a ∧ a ≤ 2147483647) (d : decode y.2.1 pc = .ok (.tableswitch df lo hi offs, len)) (h : a < lo ∨ hi < a) (ht : (pc : Int) + df = (t : Int)) (k : Gd g x post mc ms nL cells slots Y I L t ls st) : Gd g x post mc ms nL cells slots Y I L pc ls (.int (iZ a) :: st) :=
  fun H locs la hH hl hv => lv_tableOut C.1 C.2.1 d (by rw [iZ_toInt hr]; exact h) ht (k H locs la hH hl hv)
theorem r_lsw (C : Cx g x y rm) {t len : Nat} {df : Int} {ps : Array (Int × Int)} {a : Int} (hr : -2147483648 ≤ a ∧ a ≤ 2147483647) {off : Int} (d : decode y.2.1 pc = .ok (.lookupswitch df ps, len)) (hp : (ps.toList.zip (ps.toList.drop 1)).all (fun (a, next) => a.1 < next.1) = true) (ho : Op.lookupswitch.offset ps.toList df a = off) (ht : (pc : Int) + off = (t : Int)) (k : Gd g x post mc ms nL cells slots Y I L t ls st) : Gd g x post mc ms nL cells slots Y I L pc ls (.int (iZ a) :: st) :=
  fun H locs la hH hl hv => lv_lookup C.1 C.2.1 d hp (by rw [iZ_toInt hr]; exact ho) ht (k H locs la hH hl hv)
theorem r_iald (C : Cx g x y rm) (d : Dn y pc .iaload 1 n) {k N r : Nat} {i : Int} (hk : Y.2[k]? = some (.inr (0, N, r))) (hi : 0 ≤ i ∧ i < (N : Int)) (hN : N < 2147483648) (kk : Gd g x post mc ms nL cells slots Y I L n ls (.int (iZ (I k i)) :: st)) : Gd g x post mc ms nL cells slots Y I L pc ls (.int (iZ i) :: .ref k :: st) := by
  obtain ⟨d, rfl⟩ := d
  intro H locs la hH hl hv
  have kk := kk H locs la hH hl hv
  refine va_iald C.1 C.2.1 C.2.2.2.2.2.2.1.2.1 hH.2.2 k 0 (ed_ws_at hk) rfl (iZ_in hi.1 hi.2 hN) d ?_
  rw [iZ_clamp (by omega), Int.toNat_of_nonneg hi.1]
  exact kk
theorem r_zald (C : Cx g x y rm) (d : Dn y pc .baload 1 n) {k N r : Nat} {i : Int} (hk : Y.2[k]? = some (.inr (1, N, r))) (hi : 0 ≤ i ∧ i < (N : Int)) (hN : N < 2147483648) (kk : Gd g x post mc ms nL cells slots Y I L n ls (.int (iZ (I k i)) :: st)) : Gd g x post mc ms nL cells slots Y I L pc ls (.int (iZ i) :: .ref k :: st) := by
  obtain ⟨d, rfl⟩ := d
  intro H locs la hH hl hv
  have kk := kk H locs la hH hl hv
  refine va_zald C.1 C.2.1 C.2.2.2.2.2.2.1.2.1 hH.2.2 k 1 (ed_ws_at hk) rfl (iZ_in hi.1 hi.2 hN) d ?_
  rw [iZ_clamp (by omega), Int.toNat_of_nonneg hi.1]
  exact kk
theorem r_lald (C : Cx g x y rm) (d : Dn y pc .laload 1 n) {k N r : Nat} {i : Int} (hk : Y.2[k]? = some (.inr (2, N, r))) (hi : 0 ≤ i ∧ i < (N : Int)) (hN : N < 2147483648) (kk : Gd g x post mc ms nL cells slots Y I L n ls (.long (lZ (L k i)) :: st)) : Gd g x post mc ms nL cells slots Y I L pc ls (.int (iZ i) :: .ref k :: st) := by
  obtain ⟨d, rfl⟩ := d
  intro H locs la hH hl hv
  have kk := kk H locs la hH hl hv
  refine va_lald C.1 C.2.1 C.2.2.2.2.2.2.1.2.1 hH.2.2 k 2 (ed_ws_at hk) rfl (iZ_in hi.1 hi.2 hN) d ?_
  rw [iZ_clamp (by omega), Int.toNat_of_nonneg hi.1]
  exact kk
theorem r_iast (C : Cx g x y rm) (d : Dn y pc .iastore 1 n) (hY : Y.1 = false) {k N r : Nat} {i v : Int} (hk : Y.2[k]? = some (.inr (0, N, r))) (hi : 0 ≤ i ∧ i < (N : Int)) (hN : N < 2147483648) (kk : Gd g x post mc ms nL cells slots Y (upI I k i v) L n ls st) : Gd g x post mc ms nL cells slots Y I L pc ls (.int (iZ v) :: .int (iZ i) :: .ref k :: st) := by
  obtain ⟨d, rfl⟩ := d
  intro H locs la hH hl hv
  refine va_iast C.1 C.2.1 C.2.2.2.2.2.2.1.2.1 hH.2.2 (ed_ws_D g Y I L) ⟨Nat.le_refl _, fun _ _ _ => rfl, hl⟩ k 0 (ed_ws_at hk) rfl (iZ_in hi.1 hi.2 hN) d (fun H1 locs1 hP hD hS => ?_)
  rw [iZ_clamp (by omega), ed_ws_I (x := v) (i := i) hk (by simp only [ed_rc, upI_row I k hi.1])] at hP
  exact kk H1 locs1 la (hH.go hY hS hP) hS.2.2 hv
theorem r_last (C : Cx g x y rm) (d : Dn y pc .lastore 1 n) (hY : Y.1 = false) {k N r : Nat} {i v : Int} (hk : Y.2[k]? = some (.inr (2, N, r))) (hi : 0 ≤ i ∧ i < (N : Int)) (hN : N < 2147483648) (kk : Gd g x post mc ms nL cells slots Y I (upI L k i v) n ls st) : Gd g x post mc ms nL cells slots Y I L pc ls (.long (lZ v) :: .int (iZ i) :: .ref k :: st) := by
  obtain ⟨d, rfl⟩ := d
  intro H locs la hH hl hv
  refine va_last C.1 C.2.1 C.2.2.2.2.2.2.1.2.1 hH.2.2 (ed_ws_D g Y I L) ⟨Nat.le_refl _, fun _ _ _ => rfl, hl⟩ k 2 (ed_ws_at hk) rfl (iZ_in hi.1 hi.2 hN) d (fun H1 locs1 hP hD hS => ?_)
  rw [iZ_clamp (by omega), ed_ws_L (x := v) (i := i) hk (by simp only [ed_rc, upL_row L k hi.1])] at hP
  exact kk H1 locs1 la (hH.go hY hS hP) hS.2.2 hv
theorem ed_nar01 {v : Int} (h : v = 0 ∨ v = 1) : vp_nar .boolean (iZ v) = iZ v := by rcases h with rfl | rfl <;> rfl
theorem r_zast (C : Cx g x y rm) (d : Dn y pc .bastore 1 n) (hY : Y.1 = false) {k N r : Nat} {i v : Int} (hk : Y.2[k]? = some (.inr (1, N, r))) (hi : 0 ≤ i ∧ i < (N : Int)) (hN : N < 2147483648) (h01 : v = 0 ∨ v = 1) (kk : Gd g x post mc ms nL cells slots Y (upI I k i v) L n ls st) : Gd g x post mc ms nL cells slots Y I L pc ls (.int (iZ v) :: .int (iZ i) :: .ref k :: st) := by
  obtain ⟨d, rfl⟩ := d
  intro H locs la hH hl hv
  refine va_zast C.1 C.2.1 C.2.2.2.2.2.2.1.2.1 hH.2.2 (ed_ws_D g Y I L) ⟨Nat.le_refl _, fun _ _ _ => rfl, hl⟩ k 1 (ed_ws_at hk) rfl (iZ_in hi.1 hi.2 hN) d (fun H1 locs1 hP hD hS => ?_)
  rw [iZ_clamp (by omega), ed_nar01 h01, ed_ws_I (x := v) (i := i) hk (by simp only [ed_rc, upI_row I k hi.1])] at hP
  exact kk H1 locs1 la (hH.go hY hS hP) hS.2.2 hv
theorem r_aald (C : Cx g x y rm) (d : Dn y pc .aaload 1 n) {k N r : Nat} {i : Int} (hk : Y.2[k]? = some (.inr (3, N, r))) (hi : 0 ≤ i ∧ i < (N : Int)) (hN : N < 2147483648) (kk : Gd g x post mc ms nL cells slots Y I L n ls (.ref (r + i.toNat) :: st)) : Gd g x post mc ms nL cells slots Y I L pc ls (.int (iZ i) :: .ref k :: st) := by
  obtain ⟨d, rfl⟩ := d
  intro H locs la hH hl hv
  have kk := kk H locs la hH hl hv
  have hin := iZ_in hi.1 hi.2 hN
  have hlt : (iZ i).toNatClampNeg < N := Nat.not_le.mp fun q => hin (Or.inr q)
  refine W.aald (v := .ref (g.1 + (r + i.toNat))) (ty := .array .int) C.1 C.2.1 (hH.2.2 k _ (ed_ws_at hk)) ((C.2.2.2.2.2.2.1.2.1.2 3 _ rfl).1 N (fun j => va_rf (some (g.1 + (r + j))))) rfl (fun q => by cases q) (by show ¬ (iZ i < 0 ∨ (arrV _ _ _).slots.size ≤ _); rw [arrV_size]; exact hin) (by show (arrV _ _ _).slots[_]? = _; rw [arrV_read _ _ hlt, iZ_clamp (by omega)]; rfl) rfl rfl d kk
theorem r_alen (C : Cx g x y rm) (d : Dn y pc .arraylength 1 n) {k t N r : Nat} (ht : t < 3) (hk : Y.2[k]? = some (.inr (t, N, r))) (kk : Gd g x post mc ms nL cells slots Y I L n ls (.int (iZ N) :: st)) : Gd g x post mc ms nL cells slots Y I L pc ls (.ref k :: st) := by
  obtain ⟨d, rfl⟩ := d
  intro H locs la hH hl hv
  have kk := kk H locs la hH hl hv
  have hK := C.2.2.2.2.2.2.1.2.1
  have e : Int32.ofNat N = iZ N := by unfold iZ; exact Int32.ofInt_eq_ofNat.symm
  rcases (show t = 0 ∨ t = 1 ∨ t = 2 by omega) with rfl | rfl | rfl
  · exact va_alen C.1 C.2.1 hK hH.2.2 k 0 (ed_ws_at hk) (ty := .int) rfl e d kk
  · exact va_alen C.1 C.2.1 hK hH.2.2 k 1 (ed_ws_at hk) (ty := .boolean) rfl e d kk
  · exact va_alen C.1 C.2.1 hK hH.2.2 k 2 (ed_ws_at hk) (ty := .long) rfl e d kk
/-- pool entry of the field instruction at pc: field i of class number ci -/
def Df (y : ed_m) (pc : Nat) (mk : Nat → Instr) (ci i n : Nat) : Prop := ∃ (idx : Nat) (r : vw_C), decode y.2.1 pc = .ok (mk idx, 3) ∧ pc + 3 = n ∧ ed_cl[ci]? = some r ∧ i < r.2.2 ∧ (r.2.1 i).1 = r.1 ∧
  (Cond.fieldLink y.1.cls idx r.1 (r.2.1 i).2.1 (r.2.1 i).2.2.1 ∈ lw_tbl ∨ ∃ host, Cond.fieldLinkNest y.1.cls idx r.1 (r.2.1 i).2.1 (r.2.1 i).2.2.1 host ∈ lw_tbl)
theorem ed_uws {ci : Nat} {r : vw_C} (hr : ed_cl[ci]? = some r) {s : State} (hT : ed_T s) (a : Array Value) : ∀ w ∈ u_ws r.1 r.2.1 r.2.2, w.before a s = true := fun w hw => hT.use (ed_cl_ok ci r hr w hw).1 (ed_cl_ok ci r hr w hw).2 a
theorem r_get (C : Cx g x y rm) {ci i k : Nat} (d : Df y pc .getfield ci i n) {fs : List ed_f} {f : ed_f} (hk : Y.2[k]? = some (.inl (ci, fs))) (hf : fs[i]? = some f) (kk : Gd g x post mc ms nL cells slots Y I L n ls (ed_fv I L k i f :: st)) : Gd g x post mc ms nL cells slots Y I L pc ls (.ref k :: st) := by
  obtain ⟨idx, r, d, rfl, hr, hi, hd, hw⟩ := d
  intro H locs la hH hl hv
  have kk := kk H locs la hH hl hv
  have hT := C.2.2.2.2.2.2.1.1
  have hv9 : (fs.mapIdx (fun i f => ed_cv g (ed_fv I L k i f)))[i]? = some (ed_cv g (ed_fv I L k i f)) := by simp [List.getElem?_mapIdx, hf]
  rcases hw with hw | ⟨host, hw⟩
  · exact va_get C.1 C.2.1 (ed_uws hr hT _) (fun _ h => h) C.2.2.2.1 C.2.2.2.2.2.2.1.2.1 hH.2.2 k (ed_ws_at hk) hr i hi (hT.use hw rfl _) (fun _ h => by rw [hd] at h; exact h) hv9 d kk
  · exact va_getN C.1 C.2.1 (ed_uws hr hT _) (fun _ h => h) C.2.2.2.1 C.2.2.2.2.2.2.1.2.1 hH.2.2 k (ed_ws_at hk) hr i hi (hT.use hw rfl _) (fun _ h => by rw [hd] at h; exact h) hv9 d kk
theorem r_getR (C : Cx g x y rm) {ci i k r : Nat} (d : Df y pc .getfield ci i n) {fs : List ed_f} (hk : Y.2[k]? = some (.inl (ci, fs))) (hf : fs[i]? = some (.inl (some r))) (kk : Gd g x post mc ms nL cells slots Y I L n ls (.ref r :: st)) : Gd g x post mc ms nL cells slots Y I L pc ls (.ref k :: st) := r_get C d hk hf kk
theorem r_getI (C : Cx g x y rm) {ci i k : Nat} {z : Int} (d : Df y pc .getfield ci i n) {fs : List ed_f} (hk : Y.2[k]? = some (.inl (ci, fs))) (hf : fs[i]? = some (.inr false)) (hz : (i : Int) = z) (kk : Gd g x post mc ms nL cells slots Y I L n ls (.int (iZ (I k z)) :: st)) : Gd g x post mc ms nL cells slots Y I L pc ls (.ref k :: st) := by
  subst hz
  exact r_get C d hk hf kk
theorem r_getL (C : Cx g x y rm) {ci i k : Nat} {z : Int} (d : Df y pc .getfield ci i n) {fs : List ed_f} (hk : Y.2[k]? = some (.inl (ci, fs))) (hf : fs[i]? = some (.inr true)) (hz : (i : Int) = z) (kk : Gd g x post mc ms nL cells slots Y I L n ls (.long (lZ (L k z)) :: st)) : Gd g x post mc ms nL cells slots Y I L pc ls (.ref k :: st) := by
  subst hz
  exact r_get C d hk hf kk
theorem ed_set_fs {fs : List ed_f} {I I' : ed_I} {L L' : ed_L} {k i : Nat} {f : ed_f} (hf : fs[i]? = some f) (ho : ∀ j, j ≠ i → ∀ f, ed_fv I' L' k j f = ed_fv I L k j f) :
    (fs.mapIdx (fun i f => ed_cv g (ed_fv I L k i f))).set i (ed_cv g (ed_fv I' L' k i f)) = fs.mapIdx (fun i f => ed_cv g (ed_fv I' L' k i f)) := by
  apply List.ext_getElem?
  intro j
  have hi : i < fs.length := (List.getElem?_eq_some_iff.mp hf).1
  by_cases hj : i = j
  · subst hj
    rw [List.getElem?_set_self (by simpa using hi)]
    simp [List.getElem?_mapIdx, hf]
  · rw [List.getElem?_set_ne hj]
    simp only [List.getElem?_mapIdx, ho j (fun h => hj h.symm)]
theorem r_putI (C : Cx g x y rm) {ci i k : Nat} {z : Int} (d : Df y pc .putfield ci i n) (hY : Y.1 = false) {fs : List ed_f} {v : Int} (hk : Y.2[k]? = some (.inl (ci, fs))) (hf : fs[i]? = some (.inr false)) (hz : (i : Int) = z) (hb : ed_put ci i v) (kk : Gd g x post mc ms nL cells slots Y (upI I k z v) L n ls st) : Gd g x post mc ms nL cells slots Y I L pc ls (.int (iZ v) :: .ref k :: st) := by
  subst hz
  obtain ⟨idx, r, d, rfl, hr, hi, hd, hw⟩ := d
  intro H locs la hH hl hv
  have hT := C.2.2.2.2.2.2.1.1
  obtain ⟨ty0, hty, hnm⟩ := ed_cl_ty ci r hr
  obtain ⟨ty, hfin, hdd, hnar, hfit⟩ := hb r hr
  have hlen : i < (fs.mapIdx (fun i f => ed_cv g (ed_fv I L k i f))).length := by simpa using (List.getElem?_eq_some_iff.mp hf).1
  have e9 : ∀ j, j ≠ i → ∀ f, ed_fv (upI I k i v) L k j f = ed_fv I L k j f := by
    intro j hj f
    have h9 : ¬ (j : Int) = (i : Int) := by omega
    rcases f with (_ | r) | (_ | _) <;> simp [ed_fv, upI, h9]
  have e8 : (Value.int (iZ v)) = ed_cv g (ed_fv (upI I k i v) L k i (.inr false)) := by simp [ed_fv, upI, ed_cv]
  have kk : ∀ (H1 : Heap) (locs1 : List Loc), va_P g.2.2.2.2 ed_cl ((ed_ws g Y I L).set k (g.1 + k, .inr (ci, (fs.mapIdx (fun i f => ed_cv g (ed_fv I L k i f))).set i (.int (iZ v))))) H1 → va_D (fun q => g.1 ≤ q) ((ed_ws g Y I L).set k (g.1 + k, .inr (ci, (fs.mapIdx (fun i f => ed_cv g (ed_fv I L k i f))).set i (.int (iZ v))))) → va_S (fun q => g.1 ≤ q) H H1 locs1 → _ := fun H1 locs1 hP hD hS => by
    rw [e8, ed_set_fs hf e9, ed_ws_I (g := g) (I := I) (L := L) (x := v) (i := i) (e := .inr (ci, fs.mapIdx (fun j f => ed_cv g (ed_fv (upI I k i v) L k j f)))) hk rfl] at hP
    exact kk H1 locs1 la (hH.go hY hS hP) hS.2.2 hv
  rcases hw with hw | ⟨host, hw⟩
  · exact va_put C.1 C.2.1 (ed_uws hr hT _) (fun _ h => h) ty0 hty hnm C.2.2.2.1 C.2.2.2.2.2.2.1.2.1 hH.2.2 (ed_ws_D g Y I L) ⟨Nat.le_refl _, fun _ _ _ => rfl, hl⟩ k (ed_ws_at hk) hr i hi (hT.use hw rfl _) (fun _ h => by rw [hd] at h; exact h) hfin hdd hnar hfit hlen d kk
  · exact va_putN C.1 C.2.1 (ed_uws hr hT _) (fun _ h => h) ty0 hty hnm C.2.2.2.1 C.2.2.2.2.2.2.1.2.1 hH.2.2 (ed_ws_D g Y I L) ⟨Nat.le_refl _, fun _ _ _ => rfl, hl⟩ k (ed_ws_at hk) hr i hi (hT.use hw rfl _) (fun _ h => by rw [hd] at h; exact h) hfin hdd hnar hfit hlen d kk
theorem r_putL (C : Cx g x y rm) {ci i k : Nat} {z : Int} (d : Df y pc .putfield ci i n) (hY : Y.1 = false) {fs : List ed_f} {v : Int} (hk : Y.2[k]? = some (.inl (ci, fs))) (hf : fs[i]? = some (.inr true)) (hz : (i : Int) = z) (hb : ed_putl ci i) (kk : Gd g x post mc ms nL cells slots Y I (upI L k z v) n ls st) : Gd g x post mc ms nL cells slots Y I L pc ls (.long (lZ v) :: .ref k :: st) := by
  subst hz
  obtain ⟨idx, r, d, rfl, hr, hi, hd, hw⟩ := d
  intro H locs la hH hl hv
  have hT := C.2.2.2.2.2.2.1.1
  obtain ⟨ty0, hty, hnm⟩ := ed_cl_ty ci r hr
  obtain ⟨hfin, hdd⟩ := hb r hr
  have hlen : i < (fs.mapIdx (fun i f => ed_cv g (ed_fv I L k i f))).length := by simpa using (List.getElem?_eq_some_iff.mp hf).1
  have e9 : ∀ j, j ≠ i → ∀ f, ed_fv I (upI L k i v) k j f = ed_fv I L k j f := by
    intro j hj f
    have h9 : ¬ (j : Int) = (i : Int) := by omega
    rcases f with (_ | r) | (_ | _) <;> simp [ed_fv, upI, h9]
  have e8 : (Value.long (lZ v)) = ed_cv g (ed_fv I (upI L k i v) k i (.inr true)) := by simp [ed_fv, upI, ed_cv]
  have kk : ∀ (H1 : Heap) (locs1 : List Loc), va_P g.2.2.2.2 ed_cl ((ed_ws g Y I L).set k (g.1 + k, .inr (ci, (fs.mapIdx (fun i f => ed_cv g (ed_fv I L k i f))).set i (.long (lZ v))))) H1 → va_D (fun q => g.1 ≤ q) ((ed_ws g Y I L).set k (g.1 + k, .inr (ci, (fs.mapIdx (fun i f => ed_cv g (ed_fv I L k i f))).set i (.long (lZ v))))) → va_S (fun q => g.1 ≤ q) H H1 locs1 → _ := fun H1 locs1 hP hD hS => by
    rw [e8, ed_set_fs hf e9, ed_ws_L (g := g) (I := I) (L := L) (x := v) (i := i) (e := .inr (ci, fs.mapIdx (fun j f => ed_cv g (ed_fv I (upI L k i v) k j f)))) hk rfl] at hP
    exact kk H1 locs1 la (hH.go hY hS hP) hS.2.2 hv
  rcases hw with hw | ⟨host, hw⟩
  · exact va_put C.1 C.2.1 (ed_uws hr hT _) (fun _ h => h) ty0 hty hnm C.2.2.2.1 C.2.2.2.2.2.2.1.2.1 hH.2.2 (ed_ws_D g Y I L) ⟨Nat.le_refl _, fun _ _ _ => rfl, hl⟩ k (ed_ws_at hk) hr i hi (hT.use hw rfl _) (fun _ h => by rw [hd] at h; exact h) hfin hdd rfl rfl hlen d kk
  · exact va_putN C.1 C.2.1 (ed_uws hr hT _) (fun _ h => h) ty0 hty hnm C.2.2.2.1 C.2.2.2.2.2.2.1.2.1 hH.2.2 (ed_ws_D g Y I L) ⟨Nat.le_refl _, fun _ _ _ => rfl, hl⟩ k (ed_ws_at hk) hr i hi (hT.use hw rfl _) (fun _ h => by rw [hd] at h; exact h) hfin hdd rfl rfl hlen d kk
theorem ed_end {o : Outcome} {t : State} {v : Option Value} {locs : List Loc} (hv : o = .returned (v.map (ed_cv g))) (hH : ed_H g Y I L t.heap) (hp : post (.inl v) Y I L) (hl : ∀ q ∈ locs, g.1 ≤ q.base) (hF : FrameEnd x.2.2.2.2.1 o t locs cells slots) (hc : cells ≤ mc) (hs : slots ≤ ms) : ed_Qf g post mc ms x.2.2.2.2.1 o t :=
  ⟨locs, Y, I, L, hl, hF.2.1, hF.2.2.mono hc hs, hH, Or.inl ⟨v, hv, hp⟩⟩
theorem ed_mono {p : Program} {l : Launch} {e : Env} {R : Room} {s : State} {m : MethodId} {args : Array Value} {below : List Frame} {meth : Method} {c : Code} {H : Heap} {locs : List Loc} {Q Q' : State → Prop} {f : JFrame} (h : ∀ t, Q t → Q' t) (k : W p l e R s m args below meth c H locs cells slots Q f) : W p l e R s m args below meth c H locs cells slots Q' f := by
  intro T hT X
  obtain ⟨t, a, b⟩ := k T hT X
  exact ⟨t, a, h t b⟩
theorem r_iret (C : Cx g x y rm) (d : Dn y pc .ireturn 1 n) {v : Int32} (hr : y.2.2.2.1 = some .int) (hc : cells ≤ mc) (hs : slots ≤ ms) (hp : post (.inl (some (.int v))) Y I L) : Gd g x post mc ms nL cells slots Y I L pc ls [.int v] := by
  obtain ⟨d, rfl⟩ := d
  intro H locs la hH hl hv
  refine ed_mono ?_ (W.iret (Qc := fun _ st o t => o = .returned ((some (.int v) : Option Value).map (ed_cv g)) ∧ t.heap = H) (free := fun q => g.1 ≤ q) C.1 C.2.1 (C.2.2.2.2.2.2.2.2.1.trans hr) (fun t ht hW => ⟨rfl, ht⟩) hl d C.2.2.2.2.1)
  rintro t ⟨o, h1, h2, ⟨h3, h4⟩, Lc, h5, h6⟩
  exact ⟨o, h1, h2, ed_end h3 (by rw [h4]; exact hH) hp h6 h5 hc hs⟩
theorem r_zret (C : Cx g x y rm) (d : Dn y pc .ireturn 1 n) {v : Int} (hr : y.2.2.2.1 = some .boolean) (h01 : v = 0 ∨ v = 1) (hc : cells ≤ mc) (hs : slots ≤ ms) (hp : post (.inl (some (.int (iZ v)))) Y I L) : Gd g x post mc ms nL cells slots Y I L pc ls [.int (iZ v)] := by
  obtain ⟨d, rfl⟩ := d
  intro H locs la hH hl hv
  refine ed_mono ?_ (W.zret (Qc := fun _ st o t => o = .returned ((some (.int (iZ v)) : Option Value).map (ed_cv g)) ∧ t.heap = H) (free := fun q => g.1 ≤ q) C.1 C.2.1 (C.2.2.2.2.2.2.2.2.1.trans hr) (by rcases h01 with rfl | rfl <;> rfl) (fun t ht hW => ⟨rfl, ht⟩) hl d C.2.2.2.2.1)
  rintro t ⟨o, h1, h2, ⟨h3, h4⟩, Lc, h5, h6⟩
  exact ⟨o, h1, h2, ed_end h3 (by rw [h4]; exact hH) hp h6 h5 hc hs⟩
theorem r_lret (C : Cx g x y rm) (d : Dn y pc .lreturn 1 n) {v : Int64} (hr : y.2.2.2.1 = some .long) (hc : cells ≤ mc) (hs : slots ≤ ms) (hp : post (.inl (some (.long v))) Y I L) : Gd g x post mc ms nL cells slots Y I L pc ls [.long v] := by
  obtain ⟨d, rfl⟩ := d
  intro H locs la hH hl hv
  refine ed_mono ?_ (W.lret (Qc := fun _ st o t => o = .returned ((some (.long v) : Option Value).map (ed_cv g)) ∧ t.heap = H) (free := fun q => g.1 ≤ q) C.1 C.2.1 (C.2.2.2.2.2.2.2.2.1.trans hr) (fun t ht hW => ⟨rfl, ht⟩) hl d C.2.2.2.2.1)
  rintro t ⟨o, h1, h2, ⟨h3, h4⟩, Lc, h5, h6⟩
  exact ⟨o, h1, h2, ed_end h3 (by rw [h4]; exact hH) hp h6 h5 hc hs⟩
theorem r_vret (C : Cx g x y rm) (d : Dn y pc .return_ 1 n) (hr : y.2.2.2.1 = none) (hc : cells ≤ mc) (hs : slots ≤ ms) (hp : post (.inl (none)) Y I L) : Gd g x post mc ms nL cells slots Y I L pc ls [] := by
  obtain ⟨d, rfl⟩ := d
  intro H locs la hH hl hv
  refine ed_mono ?_ (W.vret (Qc := fun _ st o t => o = .returned ((none : Option Value).map (ed_cv g)) ∧ t.heap = H) (free := fun q => g.1 ≤ q) C.1 C.2.1 (C.2.2.2.2.2.2.2.2.1.trans hr) (fun t ht hW => ⟨rfl, ht⟩) hl d C.2.2.2.2.1)
  rintro t ⟨o, h1, h2, ⟨h3, h4⟩, Lc, h5, h6⟩
  exact ⟨o, h1, h2, ed_end h3 (by rw [h4]; exact hH) hp h6 h5 hc hs⟩
end ROWS
