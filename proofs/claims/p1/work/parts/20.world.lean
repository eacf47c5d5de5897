/-! a world by numbers: cell k of the world lies at B + k; what it is says the layout Y (true: no cell lies behind the world); what it holds say two functions, I (ints and booleans) and L (longs).
A cell: an object (its class's number in ed_cl, its fields: a reference or null, an int or boolean, a long), or an array (0 int, 1 boolean, 2 long, 3 int[], its length, for 3 the first row's cell) -/
abbrev ed_f : Type := Option Nat ⊕ Bool
abbrev ed_c : Type := (Nat × List ed_f) ⊕ (Nat × Nat × Nat)
abbrev ed_Y : Type := Bool × List ed_c
def ed_tys (ca : Nat → ClassId) : List (ClassId × FieldType) := [(ca 0, .int), (ca 1, .boolean), (ca 2, .long), (ca 3, .array .int)]
abbrev ed_g : Type := Nat × Nat × Heap × (Nat → ClassId) × va_G
/-- a number for a cell; 'retAddr' stands for the script, which lies below the world -/
def ed_cv (g : ed_g) : Value → Value
  | .ref k => .ref (g.1 + k)
  | .retAddr _ => .ref g.2.1
  | v => v
theorem ed_cv_cat (g : ed_g) (v : Value) : (ed_cv g v).category = v.category := by cases v <;> rfl
/-! numbers: every int is iZ of an Int, every long lZ of one -/
def iZ (z : Int) : Int32 := Int32.ofInt z
def lZ (z : Int) : Int64 := Int64.ofInt z
theorem iZ_of (x : Int32) : x = iZ x.toInt := (Int32.ofInt_toInt x).symm
theorem lZ_of (x : Int64) : x = lZ x.toInt := (Int64.ofInt_toInt x).symm
theorem iZ_toInt {z : Int} (h : -2147483648 ≤ z ∧ z ≤ 2147483647) : (iZ z).toInt = z := by
  unfold iZ
  rw [Int32.toInt_ofInt]
  have e : ((Int32.size : Nat) : Int) = 4294967296 := rfl
  apply Int.bmod_eq_of_le <;> omega
theorem lZ_toInt {z : Int} (h : -9223372036854775808 ≤ z ∧ z ≤ 9223372036854775807) : (lZ z).toInt = z := by
  unfold lZ
  rw [Int64.toInt_ofInt]
  have e : ((Int64.size : Nat) : Int) = 18446744073709551616 := rfl
  apply Int.bmod_eq_of_le <;> omega
theorem iZ_add (a b : Int) : iZ a + iZ b = iZ (a + b) := (Int32.ofInt_add a b).symm
theorem iZ_sub (a b : Int) : iZ a - iZ b = iZ (a - b) := (Int32.ofInt_sub a b).symm
theorem iZ_mul (a b : Int) : iZ a * iZ b = iZ (a * b) := (Int32.ofInt_mul a b).symm
theorem lZ_add (a b : Int) : lZ a + lZ b = lZ (a + b) := (Int64.ofInt_add a b).symm
theorem lZ_sub (a b : Int) : lZ a - lZ b = lZ (a - b) := (Int64.ofInt_sub a b).symm
theorem lZ_mul (a b : Int) : lZ a * lZ b = lZ (a * b) := (Int64.ofInt_mul a b).symm
theorem iZ_eq {a b : Int} (ha : -2147483648 ≤ a ∧ a ≤ 2147483647) (hb : -2147483648 ≤ b ∧ b ≤ 2147483647) : iZ a = iZ b ↔ a = b := by
  rw [← Int32.toInt_inj, iZ_toInt ha, iZ_toInt hb]
theorem iZ_lt {a b : Int} (ha : -2147483648 ≤ a ∧ a ≤ 2147483647) (hb : -2147483648 ≤ b ∧ b ≤ 2147483647) : iZ a < iZ b ↔ a < b := by
  rw [Int32.lt_iff_toInt_lt, iZ_toInt ha, iZ_toInt hb]
theorem iZ_le {a b : Int} (ha : -2147483648 ≤ a ∧ a ≤ 2147483647) (hb : -2147483648 ≤ b ∧ b ≤ 2147483647) : iZ a ≤ iZ b ↔ a ≤ b := by
  rw [Int32.le_iff_toInt_le, iZ_toInt ha, iZ_toInt hb]
theorem lZ_eq {a b : Int} (ha : -9223372036854775808 ≤ a ∧ a ≤ 9223372036854775807) (hb : -9223372036854775808 ≤ b ∧ b ≤ 9223372036854775807) : lZ a = lZ b ↔ a = b := by
  rw [← Int64.toInt_inj, lZ_toInt ha, lZ_toInt hb]
theorem lZ_lt {a b : Int} (ha : -9223372036854775808 ≤ a ∧ a ≤ 9223372036854775807) (hb : -9223372036854775808 ≤ b ∧ b ≤ 9223372036854775807) : lZ a < lZ b ↔ a < b := by
  rw [Int64.lt_iff_toInt_lt, lZ_toInt ha, lZ_toInt hb]
theorem lZ_le {a b : Int} (ha : -9223372036854775808 ≤ a ∧ a ≤ 9223372036854775807) (hb : -9223372036854775808 ≤ b ∧ b ≤ 9223372036854775807) : lZ a ≤ lZ b ↔ a ≤ b := by
  rw [Int64.le_iff_toInt_le, lZ_toInt ha, lZ_toInt hb]
theorem lZ_div {a b : Int} (ha : 0 ≤ a ∧ a ≤ 9223372036854775807) (hb : 0 < b ∧ b ≤ 9223372036854775807) : lZ a / lZ b = lZ (a / b) := by
  apply Int64.toInt_inj.mp
  have h1 : 0 ≤ a / b := Int.ediv_nonneg ha.1 (by omega)
  have h2 : a / b ≤ a := Int.ediv_le_self b ha.1
  rw [Int64.toInt_div, lZ_toInt (by omega), lZ_toInt (by omega), lZ_toInt (by omega), Int.tdiv_eq_ediv_of_nonneg ha.1]
  apply Int.bmod_eq_of_le <;> omega
theorem lZ_rem {a b : Int} (ha : 0 ≤ a ∧ a ≤ 9223372036854775807) (hb : 0 < b ∧ b ≤ 9223372036854775807) : lZ a - lZ a / lZ b * lZ b = lZ (a % b) := by
  rw [lZ_div ha hb, lZ_mul, lZ_sub]
  have h := Int.emod_def a b
  rw [Int.mul_comm] at h
  rw [h]
theorem iZ_l {a : Int} (ha : -2147483648 ≤ a ∧ a ≤ 2147483647) : (iZ a).toInt64 = lZ a := by
  apply Int64.toInt_inj.mp
  rw [Int32.toInt_toInt64, iZ_toInt ha, lZ_toInt (by omega)]
theorem iZ_clamp {z : Int} (h : 0 ≤ z ∧ z ≤ 2147483647) : (iZ z).toNatClampNeg = z.toNat := by
  unfold Int32.toNatClampNeg
  rw [iZ_toInt (by omega)]
theorem iZ_in {z : Int} {N : Nat} (h0 : 0 ≤ z) (h1 : z < N) (hN : N < 2147483648) : vp_in (iZ z) N := by
  rw [vp_in_iff, iZ_toInt (by omega)]
  omega
abbrev ed_I : Type := Nat → Int → Int
abbrev ed_L : Type := Nat → Int → Int
def upI (I : ed_I) (k : Nat) (i x : Int) : ed_I := fun a b => if a = k ∧ b = i then x else I a b
abbrev upL (L : ed_L) (k : Nat) (i x : Int) : ed_L := upI L k i x
theorem upI_ne {I : ed_I} {k a : Nat} {i x : Int} (h : a ≠ k) : upI I k i x a = I a := by funext b; simp [upI, h]
theorem upI_row (I : ed_I) (k : Nat) {i : Int} (hi : 0 ≤ i) (x : Int) : (fun m : Nat => iZ (upI I k i x k m)) = upd (fun m : Nat => iZ (I k m)) i.toNat (iZ x) := by
  funext m
  have : (m : Int) = i ↔ m = i.toNat := by omega
  simp only [upI, upd, this, true_and]
  split <;> rfl
theorem upL_row (L : ed_L) (k : Nat) {i : Int} (hi : 0 ≤ i) (x : Int) : (fun m : Nat => lZ (upI L k i x k m)) = vp_updL (fun m : Nat => lZ (L k m)) i.toNat (lZ x) := by
  funext m
  have : (m : Int) = i ↔ m = i.toNat := by omega
  simp only [upI, vp_updL, this, true_and]
  split <;> rfl
def ed_fv (I : ed_I) (L : ed_L) (k : Nat) (i : Nat) : ed_f → Value
  | .inl none => .null
  | .inl (some r) => .ref r
  | .inr false => .int (iZ (I k i))
  | .inr true => .long (lZ (L k i))
def ed_rc (g : ed_g) (I : ed_I) (L : ed_L) (k : Nat) : ed_c → va_E
  | .inl (ci, fs) => .inr (ci, fs.mapIdx (fun i f => ed_cv g (ed_fv I L k i f)))
  | .inr (0, n, _) => .inl (g.2.2.2.1 0, n, .inl (fun m => iZ (I k m)))
  | .inr (1, n, _) => .inl (g.2.2.2.1 1, n, .inl (fun m => iZ (I k m)))
  | .inr (2, n, _) => .inl (g.2.2.2.1 2, n, .inr (.inl (fun m => lZ (L k m))))
  | .inr (_ + 3, n, r) => .inl (g.2.2.2.1 3, n, .inr (.inr (.inr (.inr (fun j => some (g.1 + (r + j)))))))
theorem ed_rc_I {g : ed_g} {I : ed_I} {L : ed_L} {k a : Nat} {i x : Int} (h : a ≠ k) (c : ed_c) : ed_rc g (upI I k i x) L a c = ed_rc g I L a c := by
  rcases c with ⟨ci, fs⟩ | ⟨t, n, r⟩
  · have : ∀ (j : Nat) (f : ed_f), ed_fv (upI I k i x) L a j f = ed_fv I L a j f := by
      intro j f
      rcases f with (_ | r) | (_ | _) <;> simp [ed_fv, upI_ne h]
    simp [ed_rc, this]
  · rcases t with _ | _ | _ | t <;> simp [ed_rc, upI_ne h]
theorem ed_rc_L {g : ed_g} {I : ed_I} {L : ed_L} {k a : Nat} {i x : Int} (h : a ≠ k) (c : ed_c) : ed_rc g I (upL L k i x) a c = ed_rc g I L a c := by
  rcases c with ⟨ci, fs⟩ | ⟨t, n, r⟩
  · have : ∀ (j : Nat) (f : ed_f), ed_fv I (upL L k i x) a j f = ed_fv I L a j f := by
      intro j f
      rcases f with (_ | r) | (_ | _) <;> simp [ed_fv, upI_ne h]
    simp [ed_rc, this]
  · rcases t with _ | _ | _ | t <;> simp [ed_rc, upI_ne h]
def ed_ws (g : ed_g) (Y : ed_Y) (I : ed_I) (L : ed_L) : va_W := Y.2.mapIdx (fun k c => (g.1 + k, ed_rc g I L k c))
theorem ed_ws_at {g : ed_g} {Y : ed_Y} {I : ed_I} {L : ed_L} {k : Nat} {c : ed_c} (hk : Y.2[k]? = some c) : (ed_ws g Y I L)[k]? = some (g.1 + k, ed_rc g I L k c) := by simp [ed_ws, List.getElem?_mapIdx, hk]
theorem ed_ws_of {g : ed_g} {Y : ed_Y} {I : ed_I} {L : ed_L} {k : Nat} {q : Nat × va_E} (h : (ed_ws g Y I L)[k]? = some q) : ∃ c, Y.2[k]? = some c ∧ q = (g.1 + k, ed_rc g I L k c) := by
  simp only [ed_ws, List.getElem?_mapIdx, Option.map_eq_some_iff] at h
  obtain ⟨c, h1, h2⟩ := h
  exact ⟨c, h1, h2.symm⟩
theorem ed_ws_D (g : ed_g) (Y : ed_Y) (I : ed_I) (L : ed_L) : va_D (fun q => g.1 ≤ q) (ed_ws g Y I L) := by
  refine ⟨fun i j p q hi hj h => ?_, fun k q hk => ?_⟩
  · obtain ⟨c1, -, rfl⟩ := ed_ws_of hi
    obtain ⟨c2, -, rfl⟩ := ed_ws_of hj
    have h9 : g.1 + i = g.1 + j := h
    omega
  · obtain ⟨c1, -, rfl⟩ := ed_ws_of hk
    exact Nat.le_add_right _ _
theorem ed_ws_I {g : ed_g} {Y : ed_Y} {I : ed_I} {L : ed_L} {k : Nat} {i x : Int} {c : ed_c} (hk : Y.2[k]? = some c) {e : va_E} (he : e = ed_rc g (upI I k i x) L k c) : (ed_ws g Y I L).set k (g.1 + k, e) = ed_ws g Y (upI I k i x) L := by
  subst he
  apply List.ext_getElem?
  intro j
  have hlen : k < (ed_ws g Y I L).length := (List.getElem?_eq_some_iff.mp (ed_ws_at (g := g) (I := I) (L := L) hk)).1
  by_cases hj : k = j
  · subst hj
    rw [List.getElem?_set_self hlen, ed_ws_at hk]
  · rw [List.getElem?_set_ne hj]
    simp only [ed_ws, List.getElem?_mapIdx, ed_rc_I (fun h => hj h.symm)]
theorem ed_ws_L {g : ed_g} {Y : ed_Y} {I : ed_I} {L : ed_L} {k : Nat} {i x : Int} {c : ed_c} (hk : Y.2[k]? = some c) {e : va_E} (he : e = ed_rc g I (upL L k i x) k c) : (ed_ws g Y I L).set k (g.1 + k, e) = ed_ws g Y I (upL L k i x) := by
  subst he
  apply List.ext_getElem?
  intro j
  have hlen : k < (ed_ws g Y I L).length := (List.getElem?_eq_some_iff.mp (ed_ws_at (g := g) (I := I) (L := L) hk)).1
  by_cases hj : k = j
  · subst hj
    rw [List.getElem?_set_self hlen, ed_ws_at hk]
  · rw [List.getElem?_set_ne hj]
    simp only [ed_ws, List.getElem?_mapIdx, ed_rc_L (fun h => hj h.symm)]
/-- the heap holds the world; below it all is as at the law's start -/
def ed_H (g : ed_g) (Y : ed_Y) (I : ed_I) (L : ed_L) (H : Heap) : Prop := (g.1 ≤ H.size ∧ (Y.1 = true → H.size = g.1 + Y.2.length)) ∧ (∀ q : Nat, q < g.1 → H[q]? = g.2.2.1[q]?) ∧ va_P g.2.2.2.2 ed_cl (ed_ws g Y I L) H
theorem ed_H.go {g : ed_g} {Y : ed_Y} {I I' : ed_I} {L L' : ed_L} {H H1 : Heap} {locs : List Loc} (h : ed_H g Y I L H) (hY : Y.1 = false) (hs : va_S (fun q => g.1 ≤ q) H H1 locs) (hP : va_P g.2.2.2.2 ed_cl (ed_ws g Y I' L') H1) : ed_H g Y I' L' H1 :=
  ⟨⟨Nat.le_trans h.1.1 hs.1, fun h9 => by rw [hY] at h9; cases h9⟩, fun q hq => (hs.2.1 q (Nat.lt_of_lt_of_le hq h.1.1) (Nat.not_le.mpr hq)).trans (h.2.1 q hq), hP⟩
/-! the locals: a list of those that are known, in the order of their first store -/
def lk : List (Nat × Value) → Nat → Option Value
  | [], _ => none
  | (j, v) :: t, i => if j = i then some v else lk t i
theorem lk_mem : ∀ {ls : List (Nat × Value)} {i : Nat} {v : Value}, lk ls i = some v → (i, v) ∈ ls
  | [], _, _, h => by cases h
  | (j, w) :: t, i, v, h => by
    by_cases e : j = i
    · subst e
      simp [lk] at h
      subst h
      exact List.mem_cons_self
    · simp [lk, e] at h
      exact List.mem_cons_of_mem _ (lk_mem h)
def lst (f : Nat × Value → Bool) (i : Nat) (v : Value) : List (Nat × Value) → List (Nat × Value)
  | [] => [(i, v)]
  | q :: t => if q.1 = i then (i, v) :: t.filter f else if f q = true then q :: lst f i v t else lst f i v t
theorem lst_mem {f : Nat × Value → Bool} {i : Nat} {v : Value} : ∀ {ls : List (Nat × Value)} {q : Nat × Value}, q ∈ lst f i v ls → q = (i, v) ∨ q ∈ ls.filter f
  | [], q, h => by simp [lst] at h; exact Or.inl h
  | a :: t, q, h => by
    unfold lst at h
    split at h
    · rcases List.mem_cons.mp h with h | h
      · exact Or.inl h
      · right
        obtain ⟨h1, h2⟩ := List.mem_filter.mp h
        exact List.mem_filter.mpr ⟨List.mem_cons_of_mem _ h1, h2⟩
    · split at h
      · rename_i hf
        rcases List.mem_cons.mp h with h | h
        · right; subst h; exact List.mem_filter.mpr ⟨List.mem_cons_self, hf⟩
        · rcases lst_mem h with h | h
          · exact Or.inl h
          · right
            obtain ⟨h1, h2⟩ := List.mem_filter.mp h
            exact List.mem_filter.mpr ⟨List.mem_cons_of_mem _ h1, h2⟩
      · rcases lst_mem h with h | h
        · exact Or.inl h
        · right
          obtain ⟨h1, h2⟩ := List.mem_filter.mp h
          exact List.mem_filter.mpr ⟨List.mem_cons_of_mem _ h1, h2⟩
abbrev lf1 (i : Nat) : Nat × Value → Bool := fun q => !(q.1 == i) && !(q.1 + 1 == i && q.2.category == 2)
abbrev lf2 (i : Nat) : Nat × Value → Bool := fun q => !(q.1 == i) && (!(q.1 == i + 1) && !(q.1 + 1 == i && q.2.category == 2))
abbrev ls1 (i : Nat) (v : Value) (ls : List (Nat × Value)) : List (Nat × Value) := lst (lf1 i) i v ls
abbrev ls2 (i : Nat) (v : Value) (ls : List (Nat × Value)) : List (Nat × Value) := lst (lf2 i) i v ls
def ed_lv (g : ed_g) (ls : List (Nat × Value)) : List (Nat × Value) := ls.map fun q => (q.1, ed_cv g q.2)
theorem ed_lv_at {g : ed_g} {nL : Nat} {la : Array Slot} {ls : List (Nat × Value)} (h : lv_has la nL (ed_lv g ls)) {i : Nat} {v : Value} (hl : lk ls i = some v) : la[i]? = some (.val (ed_cv g v)) :=
  h.2.2 (i, ed_cv g v) (List.mem_map.mpr ⟨(i, v), lk_mem hl, rfl⟩)
theorem ed_lv_set {g : ed_g} {nL : Nat} {la : Array Slot} {ls : List (Nat × Value)} {f : Nat × Value → Bool} (hf : ∀ q, f (q.1, ed_cv g q.2) = f q) {i : Nat} {v : Value} (h : lv_has la nL ((i, ed_cv g v) :: (ed_lv g ls).filter f)) : lv_has la nL (ed_lv g (lst f i v ls)) := by
  refine ⟨h.1, h.2.1, fun q hq => h.2.2 q ?_⟩
  obtain ⟨q0, hq0, rfl⟩ := List.mem_map.mp hq
  rcases lst_mem hq0 with rfl | hq0
  · exact List.mem_cons_self
  · obtain ⟨h1, h2⟩ := List.mem_filter.mp hq0
    exact List.mem_cons_of_mem _ (List.mem_filter.mpr ⟨List.mem_map.mpr ⟨q0, h1, rfl⟩, by rw [hf]; exact h2⟩)
theorem lf1_cv (g : ed_g) (i : Nat) (q : Nat × Value) : lf1 i (q.1, ed_cv g q.2) = lf1 i q := by simp only [lf1, ed_cv_cat]
theorem lf2_cv (g : ed_g) (i : Nat) (q : Nat × Value) : lf2 i (q.1, ed_cv g q.2) = lf2 i q := by simp only [lf2, ed_cv_cat]
theorem ed_lv_args (g : ed_g) : ∀ (vs : List Value) (n : Nat), lv_args n (vs.map (ed_cv g)) = ed_lv g (lv_args n vs)
  | [], n => rfl
  | v :: t, n => by
    simp only [List.map_cons, lv_args, ed_cv_cat]
    rw [ed_lv_args g t]
    rfl
/-! the tables' words that stay as the tables warm -/
def ed_stab : Cond → Bool
  | .fieldLinkNest _ _ _ _ _ _ => true
  | .methodLinkNest _ _ _ _ => true
  | w => goodWord w || (w.onTables && w.keepsFace)
theorem ed_stab_good {w : Cond} (h : goodWord w = true) : ed_stab w = true := by
  unfold ed_stab
  split <;> first | rfl | (rw [h]; rfl)
theorem ed_cl_ok (ci : Nat) (r : vw_C) (hr : ed_cl[ci]? = some r) (w : Cond) (hw : w ∈ u_ws r.1 r.2.1 r.2.2) : w ∈ lw_tbl ∧ ed_stab w = true := ⟨(ed_cl_good ci r hr w hw).1, ed_stab_good (ed_cl_good ci r hr w hw).2⟩
def ed_T (U : State) : Prop := ∀ w ∈ lw_tbl, ed_stab w = true → w.before #[] U = true
theorem ed_word {w : Cond} (hs : ed_stab w = true) {s U : State} {a a' : Array Value} (hW : s.WarmedH U.vm) (h : w.before a s = true) : w.before a' U = true := by
  unfold ed_stab at hs
  split at hs
  · exact va_Nw.use rfl (va_Nw.warmF hW (va_Nw.of rfl h))
  · exact va_Nw.use rfl (va_Nw.warmM hW (va_Nw.of rfl h))
  · rcases (Bool.or_eq_true _ _).mp hs with hs | hs
    · exact word_at hW (good_of_word hs) h
    · obtain ⟨h1, h2⟩ := (Bool.and_eq_true _ _).mp hs
      exact va_tabs h1 (rfl : (s.setVm U.vm).vm = U.vm) (Cond.before_shiftedFace (State.Shifted.of_warmed hW) _ h2 h)
theorem ed_T.warm {s U : State} (h : ed_T s) (hW : s.WarmedH U.vm) : ed_T U := fun w hw hs => ed_word hs hW (h w hw hs)
theorem ed_T.use {s : State} (h : ed_T s) {w : Cond} (hw : w ∈ lw_tbl) (hs : ed_stab w = true) (a : Array Value) : w.before a s = true := ed_word hs (State.WarmedH.refl s) (h w hw hs)
/-- words that speak of static fields below the world -/
def ed_S (g : ed_g) (U : State) : Prop := ∀ V : State, U.vm.Alike V.vm → (∀ q : Nat, q < g.1 → V.heap[q]? = g.2.2.1[q]?) → ∀ w ∈ ed_stw, ∀ a, w.before a V = true
def ed_N (U : State) : Prop := va_Nc "java/lang/IllegalStateException" "java/lang/IllegalArgumentException" U ∧ (Cond.arrayOver (.array .int)).before #[] U = true
theorem ed_N.moved {s U : State} (hvm : s.vm.Alike U.vm) (h : ed_N s) : ed_N U := by
  refine ⟨va_Nc.moved hvm h.1, ?_⟩
  have h9 : (Cond.arrayOver (.array .int)).before #[] (s.setVm U.vm) = true := Jvm.Cond.overAtom_setVm hvm _ rfl h.2
  exact h9
def ed_ok (g : ed_g) (U : State) : Prop := ed_T U ∧ va_K g.2.2.2.2 ed_cl (ed_tys g.2.2.2.1) U ∧ ed_S g U ∧ ed_N U
theorem ed_ok.warm {g : ed_g} {s U : State} (h : ed_ok g s) (hW : s.WarmedH U.vm) : ed_ok g U :=
  ⟨h.1.warm hW, va_K.moved hW.alike h.2.1, fun V hV hq w hw a => h.2.2.1 V (hW.alike.trans hV) hq w hw a, ed_N.moved hW.alike h.2.2.2⟩
/-! contracts over worlds -/
abbrev ed_post : Type := Option Value ⊕ String → ed_Y → ed_I → ed_L → Prop
def ed_Qf (g : ed_g) (post : ed_post) (mc ms : Nat) (s : State) (o : Outcome) (t : State) : Prop :=
  ∃ (Lc : List Loc) (Y : ed_Y) (I : ed_I) (L : ed_L), (∀ q ∈ Lc, g.1 ≤ q.base) ∧ s.WarmedH t.vm ∧ s.sameButNew ({ t with vm := s.vm } : State) Lc mc ms ∧ ed_H g Y I L t.heap ∧
    ((∃ v : Option Value, o = .returned (v.map (ed_cv g)) ∧ post (.inl v) Y I L) ∨
     (∃ (q : Addr) (E : String) (ce : Cell), o = .threw q ∧ t.heap[q]? = some ce ∧ ce.vm = .none ∧ s.vm.findClass E = some ce.cls ∧ post (.inr E) Y I L))
def ed_Pc (g : ed_g) (av : List Value) (Y : ed_Y) (I : ed_I) (L : ed_L) (a : Array Value) (U : State) : Prop := a = (av.map (ed_cv g)).toArray ∧ ed_H g Y I L U.heap ∧ ed_ok g U
/-- a method: its class, name, code, locals, answer, handlers -/
abbrev ed_m : Type := MethodName × ByteArray × Nat × Option FieldType × List (Nat × Nat × Nat × Nat)
def ed_cw (y : ed_m) : Cond := match y.2.2.2.2 with
  | [] => .code y.1 y.2.1 y.2.2.1 y.2.2.2.1
  | hh => .codeWith y.1 y.2.1 y.2.2.1 y.2.2.2.1 hh
def ed_rm (d mc ms : Nat) : Room := { frames := d + 6, cells := mc, slots := ms, locals := 40 * d + 84 }
/-- y, called with av in a world of I and L, ends as post says; it is d calls deep and makes at most mc cells of ms slots -/
def ed_Ct (g : ed_g) (l : Launch) (y : ed_m) (d mc ms : Nat) (av : List Value) (Y : ed_Y) (I : ed_I) (L : ed_L) (post : ed_post) : Prop :=
  MetFree l y.1 (headSpec [ed_cw y] (ed_rm d mc ms)) (ed_Pc g av Y I L) (fun _ _ _ _ _ => True) (fun _ st o t => ed_Qf g post mc ms st o t)
abbrev ed_x : Type := Program × Launch × Env × Room × State × MethodId × Array Value × List Frame × Method × Code
def ed_Z (g : ed_g) (x : ed_x) (post : ed_post) (mc ms : Nat) : State → Prop := fun t => ∃ o, t.status = .running ∧ Ended t x.2.2.2.2.2.2.2.1 o ∧ ed_Qf g post mc ms x.2.2.2.2.1 o t
/-- the machine at pc of a method with these locals, this stack, this world comes to an end that post allows -/
def Gd (g : ed_g) (x : ed_x) (post : ed_post) (mc ms nL cells slots : Nat) (Y : ed_Y) (I : ed_I) (L : ed_L) (pc : Nat) (ls : List (Nat × Value)) (st : List Value) : Prop :=
  ∀ (H : Heap) (locs : List Loc) (la : Array Slot), ed_H g Y I L H → (∀ q ∈ locs, g.1 ≤ q.base) → lv_has la nL (ed_lv g ls) →
    W x.1 x.2.1 x.2.2.1 x.2.2.2.1 x.2.2.2.2.1 x.2.2.2.2.2.1 x.2.2.2.2.2.2.1 x.2.2.2.2.2.2.2.1 x.2.2.2.2.2.2.2.2.1 x.2.2.2.2.2.2.2.2.2 H locs cells slots (ed_Z g x post mc ms) (F0 x.2.2.2.2.2.1 pc la (st.map (ed_cv g)))
/-- what holds in the body of y -/
def Cx (g : ed_g) (x : ed_x) (y : ed_m) (rm : Room) : Prop :=
  x.1.tables.exec = Jvm.exec ∧ x.2.2.2.2.2.2.2.2.2.code = y.2.1 ∧ x.2.2.2.2.2.2.2.2.2.maxLocals = y.2.2.1 ∧ x.2.2.2.2.1.vm.findClass y.1.cls = some x.2.2.2.2.2.1.cls ∧ x.2.2.2.2.2.2.2.2.1.locks = false ∧ x.2.1.stackTraces = false ∧ ed_ok g x.2.2.2.2.1 ∧
  x.2.2.2.1 = rm ∧ x.2.2.2.2.2.2.2.2.1.sig.returnType = y.2.2.2.1 ∧ x.2.2.2.2.2.2.2.2.2.exceptionTable.toList.map (fun h => (h.startPc, h.endPc, h.handlerPc, h.catchType)) = y.2.2.2.2 ∧ x.2.2.2.2.2.2.2.2.1.name = y.1.name
theorem Gd.sub {g : ed_g} {x : ed_x} {post : ed_post} {mc ms nL cells slots : Nat} {Y : ed_Y} {I : ed_I} {L : ed_L} {pc : Nat} {ls ls' : List (Nat × Value)} {st : List Value} (h : ∀ q ∈ ls', q ∈ ls) (k : Gd g x post mc ms nL cells slots Y I L pc ls' st) : Gd g x post mc ms nL cells slots Y I L pc ls st :=
  fun H locs la hH hl hv => k H locs la hH hl ⟨hv.1, hv.2.1, fun q hq => by
    obtain ⟨q0, h0, rfl⟩ := List.mem_map.mp hq
    exact hv.2.2 _ (List.mem_map.mpr ⟨q0, h q0 h0, rfl⟩)⟩
theorem Gd.wide {g : ed_g} {x : ed_x} {post : ed_post} {mc ms nL cells slots c2 s2 : Nat} {Y : ed_Y} {I : ed_I} {L : ed_L} {pc : Nat} {ls : List (Nat × Value)} {st : List Value} (h1 : cells ≤ c2) (h2 : slots ≤ s2) (k : Gd g x post mc ms nL c2 s2 Y I L pc ls st) : Gd g x post mc ms nL cells slots Y I L pc ls st :=
  fun H locs la hH hl hv => W.widen h1 h2 (k H locs la hH hl hv)
/-- a body gives the contract: from the entry, over the heap as it is there -/
theorem ed_Ct.ofW {g : ed_g} {l : Launch} {y : ed_m} {d mc ms : Nat} {av : List Value} {Y : ed_Y} {I : ed_I} {L : ed_L} {post : ed_post} (hl : l.stackTraces = false) (hy : plainName y.1.cls = true) (hn : (lg_sl av).length ≤ y.2.2.1)
    (body : ∀ (x : ed_x) (la : Array Slot), x.2.1 = l → Cx g x y (ed_rm d mc ms) → ed_H g Y I L x.2.2.2.2.1.heap → lv_has la y.2.2.1 (ed_lv g (lv_args 0 av)) →
      W x.1 x.2.1 x.2.2.1 x.2.2.2.1 x.2.2.2.2.1 x.2.2.2.2.2.1 x.2.2.2.2.2.2.1 x.2.2.2.2.2.2.2.1 x.2.2.2.2.2.2.2.2.1 x.2.2.2.2.2.2.2.2.2 x.2.2.2.2.1.heap [] 0 0 (ed_Z g x post mc ms) (F0 x.2.2.2.2.2.1 0 la [])) : ed_Ct g l y d mc ms av Y I L post := by
  obtain ⟨nm, cc, nL, ret, hh⟩ := y
  have key : ∀ {args : Array Value} {s : State}, (ed_cw (nm, cc, nL, ret, hh)).before args s = true → ∃ (mk : MethodId) (meth : Method) (c : Code), s.methodNamed? nm = some mk ∧ s.vm.method? mk = some meth ∧ meth.code = some c ∧ c.code = cc ∧ c.maxLocals = nL ∧ c.exceptionTable.toList.map (fun h => (h.startPc, h.endPc, h.handlerPc, h.catchType)) = hh ∧ meth.sig.returnType = ret ∧ meth.locks = false := by
    intro args s h
    cases hh with
    | nil =>
      obtain ⟨mk, hn⟩ := Cond.code_named h
      obtain ⟨meth, c, h1, h2, h3, h4, h5, h6, h7, -⟩ := Cond.code_spec hn h
      exact ⟨mk, meth, c, hn, h1, h2, h3, h4, by rw [Array.isEmpty_iff.mp h7]; rfl, h5, h6⟩
    | cons a t =>
      obtain ⟨mk, meth, c, hn, h1, h2, h3, h4, h5, h6, h7, -⟩ := Cond.codeWith_spec h
      exact ⟨mk, meth, c, hn, h1, h2, h3, h4, h5, h6, h7⟩
  refine MetFree.of_bodyS (code := cc) (maxLocals := nL) (ret := ret) hy ?_ ?_
  · intro args s m h hnm
    obtain ⟨mk, meth, c, hn, h1, h2, h3, h4, -, h5, h6⟩ := key (atoms_spec (ws := [ed_cw (nm, cc, nL, ret, hh)]) h _ List.mem_cons_self)
    cases hnm.symm.trans hn
    exact ⟨meth, c, h1, h2, h3, h4, h5, h6⟩
  · intro p e s m args below meth c s₁ B hml hP _
    obtain ⟨rfl, hH, hok⟩ := hP
    obtain ⟨mk, meth9, c9, hn9, h1, h2, -, -, ht, -, -⟩ := key (atoms_spec (ws := [ed_cw (nm, cc, nL, ret, hh)]) B.pre _ List.mem_cons_self)
    cases B.named.symm.trans hn9
    cases Option.some.inj (h1.symm.trans B.method)
    cases Option.some.inj (h2.symm.trans (Stand.of_body B).code)
    have hh0 : s₁.heap = s.heap := by rw [B.state]; rfl
    have hsl : (lg_sl (av.map (ed_cv g))).length = (lg_sl av).length := by
      clear hH hok B h1 h2 hn9 hn body
      induction av with
      | nil => rfl
      | cons v t ih =>
        simp only [lg_sl, List.map_cons, List.flatMap_cons, List.length_append, ed_cv_cat] at ih ⊢
        rw [ih]
        split <;> rfl
    have hent := lv_entry (av.map (ed_cv g)) (n := nL) (by rw [hsl]; exact hn)
    rw [ed_lv_args] at hent
    have k := body (p, l, e, ed_rm d mc ms, s, m, (av.map (ed_cv g)).toArray, below, meth, c) _ rfl
      ⟨B.exec, B.bytes, hml, findClass_of_methodNamed B.named, B.notSynchronized, hl, hok, rfl, B.returns, ht, (name_of_methodNamed B.named B.method).1⟩ hH hent
    have k3 : W p l e (ed_rm d mc ms) s m (av.map (ed_cv g)).toArray below meth c s.heap [] 0 0 (ed_Z g (p, l, e, ed_rm d mc ms, s, m, (av.map (ed_cv g)).toArray, below, meth, c) post mc ms) (entryFrame m (av.map (ed_cv g)).toArray nL) := by
      rw [lg_entry_eq]
      exact k
    obtain ⟨t, a1, o, b1, b2, b3⟩ := k3 s₁ hh0 (Stand.of_body B)
    exact ⟨t, o, a1, b1, b2, b3⟩
/-- .. over any heap that holds the world -/
theorem ed_Ct.of {g : ed_g} {l : Launch} {y : ed_m} {d mc ms : Nat} {av : List Value} {Y : ed_Y} {I : ed_I} {L : ed_L} {post : ed_post} (hl : l.stackTraces = false) (hy : plainName y.1.cls = true) (hn : (lg_sl av).length ≤ y.2.2.1)
    (body : ∀ x : ed_x, x.2.1 = l → Cx g x y (ed_rm d mc ms) → Gd g x post mc ms y.2.2.1 0 0 Y I L 0 (lv_args 0 av) []) : ed_Ct g l y d mc ms av Y I L post :=
  ed_Ct.ofW hl hy hn (fun x la hx C hH hla => body x hx C _ [] la hH (fun _ h => by cases h) hla)
