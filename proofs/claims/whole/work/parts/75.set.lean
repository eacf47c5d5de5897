/-! rows set whole -/
def setR (I : ed_I) (k : Nat) (f : Int → Int) : ed_I := fun a b => if a = k then f b else I a b
def up1 (f : Int → Int) (i v : Int) : Int → Int := fun b => if b = i then v else f b
theorem up1_s (f : Int → Int) (i v : Int) : up1 f i v i = v := if_pos rfl
theorem up1_o (f : Int → Int) {i v b : Int} (h : b ≠ i) : up1 f i v b = f b := if_neg h
theorem rd (I : ed_I) (k : Nat) (f : Int → Int) (a : Nat) (b : Int) : setR I k f a b = if a = k then f b else I a b := rfl
theorem rdU (I : ed_I) (k : Nat) (i v : Int) (a : Nat) (b : Int) : upI I k i v a b = if a = k ∧ b = i then v else I a b := rfl
theorem setR_id (I : ed_I) (k : Nat) : setR I k (I k) = I := by
  funext a b
  unfold setR
  split
  · next h => rw [h]
  · rfl
theorem up_eq (I : ed_I) (k : Nat) (f : Int → Int) (i v : Int) : upI (setR I k f) k i v = setR I k (up1 f i v) := by
  funext a b
  simp only [upI, setR, up1]
  by_cases h : a = k <;> by_cases h2 : b = i <;> simp [h, h2]
theorem up_ne (I : ed_I) (k k2 : Nat) (f : Int → Int) (i v : Int) (h : ¬ k = k2) : upI (setR I k f) k2 i v = setR (upI I k2 i v) k f := by
  funext a b
  simp only [upI, setR]
  by_cases h1 : a = k
  · subst h1; simp [h]
  · simp [h1]
theorem rowS (I : ed_I) (k a : Nat) (f : Int → Int) (h : ¬ a = k) : setR I k f a = I a := by
  funext b
  unfold setR
  rw [if_neg h]
theorem rowE (I : ed_I) (k : Nat) (f : Int → Int) : setR I k f k = f := by
  funext b
  unfold setR
  rw [if_pos rfl]
theorem rowU (I : ed_I) (k a : Nat) (i v : Int) (h : ¬ a = k) : upI I k i v a = I a := by
  funext b
  exact upI_o I k i v (Or.inl h)
theorem setR2 (I : ed_I) (k : Nat) (f f2 : Int → Int) : setR (setR I k f) k f2 = setR I k f2 := by
  funext a b
  simp only [setR]
  split <;> rfl
set_option maxRecDepth 100000 in
set_option maxHeartbeats 4000000 in
theorem cJ_fillL {g : ed_g} {l : Launch} (hl : l.stackTraces = false) {I : ed_I} {L : ed_L} {k : Nat} {v : Int} (hk : ed_lay[k]? = some (.inr (2, 41, 0))) {post : ed_post} (hn : ∀ f : Int → Int, (∀ j, 0 ≤ j → j ≤ 40 → f j = v) → post (.inl none) Yw I (setR L k f)) : ed_Ct g l mJ_fillL 0 0 0 [.ref k, .long (lZ v)] Yw I L post := by
  refine ed_Ct.of hl rfl (Nat.le_of_ble_eq_true rfl) (fun x _ C => ?_)
  show Gd g x post _ _ _ _ _ _ _ _ 0 [(0, _), (1, _)] []
  have loop : ∀ (q : Nat) (i : Int) (f : Int → Int), (41 - i).toNat < q → 0 ≤ i ∧ i ≤ 41 → (∀ j, 0 ≤ j → j < i → f j = v) → Gd g x post 0 0 mJ_fillL.2.2.1 0 0 Yw I (setR L k f) 6 [(0, .ref k), (1, .long (lZ v)), (3, .int (iZ i)), (4, .int (iZ 41))] [] := by
    intro q
    induction q with
    | zero => intro i f hq; omega
    | succ q ih =>
      intro i f hq g1 g2
      refine r_ild C dJ_fillL_6 rfl ?_
      refine r_ild C dJ_fillL_7 rfl ?_
      refine r_icmp_ge C dJ_fillL_9 (by omega) (fun b9 => ?_) (fun b9 => ?_)
      · exact r_vret C dJ_fillL_22 rfl (Nat.le_of_ble_eq_true rfl) (Nat.le_of_ble_eq_true rfl) (hn f (fun j j0 j1 => g2 j j0 (by omega)))
      · refine r_ald C dJ_fillL_12 rfl ?_
        refine r_ild C dJ_fillL_13 rfl ?_
        refine r_lld C dJ_fillL_14 rfl ?_
        refine r_last C dJ_fillL_15 rfl hk ⟨by omega, by omega⟩ (by decide) ?_
        refine r_iinc C dJ_fillL_16 (by decide) rfl (ls' := [(0, _), (1, _), (3, _), (4, _)]) rfl ?_
        refine r_goto C dJ_fillL_19 ?_
        simp only [up_eq, up_ne, rd, rdU, rowS, rowU, rowE, ne_eq, Nat.reduceEqDiff, Int.reduceEq, not_false_eq_true, true_and, false_and, and_true, and_false, ↓reduceIte]
        exact ih _ _ (by omega) (by omega) (fun j j0 j1 => by by_cases e : j = i; (subst e; exact up1_s _ _ _); (rw [up1_o _ e]; exact g2 j j0 (by omega)))
  refine r_ik C dJ_fillL_0 ?_
  refine r_ist C dJ_fillL_1 (by decide) (ls' := [(0, _), (1, _), (3, _)]) rfl ?_
  refine r_ald C dJ_fillL_2 rfl ?_
  refine r_alen C dJ_fillL_3 (by decide) hk ?_
  refine r_ist C dJ_fillL_4 (by decide) (ls' := [(0, _), (1, _), (3, _), (4, _)]) rfl ?_
  have h := loop 50 0 (L k) (by omega) (by omega) (fun j j0 j1 => by omega)
  rw [setR_id] at h
  exact h
set_option maxRecDepth 100000 in
set_option maxHeartbeats 4000000 in
theorem cJ_fillI {g : ed_g} {l : Launch} (hl : l.stackTraces = false) {I : ed_I} {L : ed_L} {k : Nat} {v : Int} (hk : ed_lay[k]? = some (.inr (0, 41, 0))) {post : ed_post} (hn : ∀ f : Int → Int, (∀ j, 0 ≤ j → j ≤ 40 → f j = v) → post (.inl none) Yw (setR I k f) L) : ed_Ct g l mJ_fillI 0 0 0 [.ref k, .int (iZ v)] Yw I L post := by
  refine ed_Ct.of hl rfl (Nat.le_of_ble_eq_true rfl) (fun x _ C => ?_)
  show Gd g x post _ _ _ _ _ _ _ _ 0 [(0, _), (1, _)] []
  have loop : ∀ (q : Nat) (i : Int) (f : Int → Int), (41 - i).toNat < q → 0 ≤ i ∧ i ≤ 41 → (∀ j, 0 ≤ j → j < i → f j = v) → Gd g x post 0 0 mJ_fillI.2.2.1 0 0 Yw (setR I k f) L 5 [(0, .ref k), (1, .int (iZ v)), (2, .int (iZ i)), (3, .int (iZ 41))] [] := by
    intro q
    induction q with
    | zero => intro i f hq; omega
    | succ q ih =>
      intro i f hq g1 g2
      refine r_ild C dJ_fillI_5 rfl ?_
      refine r_ild C dJ_fillI_6 rfl ?_
      refine r_icmp_ge C dJ_fillI_7 (by omega) (fun b7 => ?_) (fun b7 => ?_)
      · exact r_vret C dJ_fillI_20 rfl (Nat.le_of_ble_eq_true rfl) (Nat.le_of_ble_eq_true rfl) (hn f (fun j j0 j1 => g2 j j0 (by omega)))
      · refine r_ald C dJ_fillI_10 rfl ?_
        refine r_ild C dJ_fillI_11 rfl ?_
        refine r_ild C dJ_fillI_12 rfl ?_
        refine r_iast C dJ_fillI_13 rfl hk ⟨by omega, by omega⟩ (by decide) ?_
        refine r_iinc C dJ_fillI_14 (by decide) rfl (ls' := [(0, _), (1, _), (2, _), (3, _)]) rfl ?_
        refine r_goto C dJ_fillI_17 ?_
        simp only [up_eq, up_ne, rd, rdU, rowS, rowU, rowE, ne_eq, Nat.reduceEqDiff, Int.reduceEq, not_false_eq_true, true_and, false_and, and_true, and_false, ↓reduceIte]
        exact ih _ _ (by omega) (by omega) (fun j j0 j1 => by by_cases e : j = i; (subst e; exact up1_s _ _ _); (rw [up1_o _ e]; exact g2 j j0 (by omega)))
  refine r_ik C dJ_fillI_0 ?_
  refine r_ist C dJ_fillI_1 (by decide) (ls' := [(0, _), (1, _), (2, _)]) rfl ?_
  refine r_ald C dJ_fillI_2 rfl ?_
  refine r_alen C dJ_fillI_3 (by decide) hk ?_
  refine r_ist C dJ_fillI_4 (by decide) (ls' := [(0, _), (1, _), (2, _), (3, _)]) rfl ?_
  have h := loop 50 0 (I k) (by omega) (by omega) (fun j j0 j1 => by omega)
  rw [setR_id] at h
  exact h
/-! min and max of longs -/
section MM
variable {g : ed_g} {x : ed_x} {post : ed_post} {mc ms nL cells slots : Nat} {Y : ed_Y} {I : ed_I} {L : ed_L} {pc n : Nat} {ls : List (Nat × Value)} {st : List Value} {y : ed_m} {rm : Room}
theorem r_mmin (C : Cx g x y rm) {idx : Nat} (hdg : decode y.2.1 pc = .ok (.invokestatic idx, 3)) (hn : pc + 3 = n) (hlk : Cond.methodLink y.1.cls idx mJ_min.1 ∈ lw_tbl) (hnL : y.2.2.1 = nL) (hfr : 1 ≤ rm.frames) (hlo : ((st.map (ed_cv g)).map fun v => v.category).sum + 15 ≤ rm.locals) (hce : cells ≤ rm.cells) (hsl : slots ≤ rm.slots) {a b : Int} (hr : -9223372036854775808 ≤ a ∧ a ≤ 9223372036854775807 ∧ -9223372036854775808 ≤ b ∧ b ≤ 9223372036854775807) (k : Gd g x post mc ms nL cells slots Y I L n ls (.long (lZ (min a b)) :: st)) : Gd g x post mc ms nL cells slots Y I L pc ls (.long (lZ b) :: .long (lZ a) :: st) := by
  subst hn
  have hok := C.2.2.2.2.2.2.1
  have hR := C.2.2.2.2.2.2.2.1
  have hst : Cond.static mJ_min.1 ∈ lw_tbl := tb3 59 rfl
  intro H locs la hH hl hv
  have k := k H locs la hH hl hv
  have e : lZ (min a b) = if lZ b < lZ a then lZ b else lZ a := by
    by_cases h : b < a
    · rw [if_pos ((lZ_lt (by omega) (by omega)).mpr h), show min a b = b by omega]
    · rw [if_neg (fun h2 => h ((lZ_lt (by omega) (by omega)).mp h2)), show min a b = a by omega]
  rw [e] at k
  exact va_mmin_long C.1 C.2.1 (C.2.2.1.trans (hnL.trans hv.1.symm)) C.2.2.2.1 (hok.1.use hlk rfl _) (hok.1.use hst rfl _) (hok.1.use lzJ_min.2.2.1 rfl _) (hok.1.use lzJ_min.1 rfl _) (by rw [hR]; exact hfr) (by rw [hR]; exact hlo) (by rw [hR]; exact hce) (by rw [hR]; exact hsl) hdg k
theorem r_mmax (C : Cx g x y rm) {idx : Nat} (hdg : decode y.2.1 pc = .ok (.invokestatic idx, 3)) (hn : pc + 3 = n) (hlk : Cond.methodLink y.1.cls idx mJ_max.1 ∈ lw_tbl) (hnL : y.2.2.1 = nL) (hfr : 1 ≤ rm.frames) (hlo : ((st.map (ed_cv g)).map fun v => v.category).sum + 15 ≤ rm.locals) (hce : cells ≤ rm.cells) (hsl : slots ≤ rm.slots) {a b : Int} (hr : -9223372036854775808 ≤ a ∧ a ≤ 9223372036854775807 ∧ -9223372036854775808 ≤ b ∧ b ≤ 9223372036854775807) (k : Gd g x post mc ms nL cells slots Y I L n ls (.long (lZ (max a b)) :: st)) : Gd g x post mc ms nL cells slots Y I L pc ls (.long (lZ b) :: .long (lZ a) :: st) := by
  subst hn
  have hok := C.2.2.2.2.2.2.1
  have hR := C.2.2.2.2.2.2.2.1
  have hst : Cond.static mJ_max.1 ∈ lw_tbl := tb3 78 rfl
  intro H locs la hH hl hv
  have k := k H locs la hH hl hv
  have e : lZ (max a b) = if lZ b < lZ a then lZ a else lZ b := by
    by_cases h : b < a
    · rw [if_pos ((lZ_lt (by omega) (by omega)).mpr h), show max a b = a by omega]
    · rw [if_neg (fun h2 => h ((lZ_lt (by omega) (by omega)).mp h2)), show max a b = b by omega]
  rw [e] at k
  exact va_mmax_long C.1 C.2.1 (C.2.2.1.trans (hnL.trans hv.1.symm)) C.2.2.2.1 (hok.1.use hlk rfl _) (hok.1.use hst rfl _) (hok.1.use lzJ_max.2.2.1 rfl _) (hok.1.use lzJ_max.1 rfl _) (by rw [hR]; exact hfr) (by rw [hR]; exact hlo) (by rw [hR]; exact hce) (by rw [hR]; exact hsl) hdg k
end MM
set_option maxRecDepth 100000 in
set_option maxHeartbeats 4000000 in
theorem cP_forgetSettling {g : ed_g} {l : Launch} (hl : l.stackTraces = false) {I : ed_I} {L : ed_L} {post : ed_post} (hn : ∀ f1 f2 f3 : Int → Int, (∀ j, 0 ≤ j → j ≤ 40 → f1 j = 0) → (∀ j, 0 ≤ j → j ≤ 40 → f2 j = 0) → (∀ j, 0 ≤ j → j ≤ 40 → f3 j = 0) → post (.inl none) Yw I (setR (setR (setR L 3 f1) 4 f2) 5 f3)) : ed_Ct g l mP_forgetSettling 1 0 0 [.ref 1] Yw I L post := by
  refine ed_Ct.of hl rfl (Nat.le_of_ble_eq_true rfl) (fun x _ C => ?_)
  show Gd g x post _ _ _ _ _ _ _ _ 0 [(0, _)] []
  refine r_ald C dP_forgetSettling_0 rfl ?_
  refine r_getR C dP_forgetSettling_1 rfl rfl ?_
  refine r_lk C dP_forgetSettling_4 ?_
  refine r_callS C lzJ_fillL dP_forgetSettling_5 [_, _] [] rfl rfl (Nat.le_of_ble_eq_true rfl) ⟨(Nat.le_of_ble_eq_true rfl), (Nat.le_of_ble_eq_true rfl), (Nat.le_of_ble_eq_true rfl), (Nat.le_of_ble_eq_true rfl)⟩ rfl (cJ_fillL C.2.2.2.2.2.1 rfl (fun f1 hf1 => ?_))
  refine r_ald C dP_forgetSettling_8 rfl ?_
  refine r_getR C dP_forgetSettling_9 rfl rfl ?_
  refine r_lk C dP_forgetSettling_12 ?_
  refine r_callS C lzJ_fillL dP_forgetSettling_13 [_, _] [] rfl rfl (Nat.le_of_ble_eq_true rfl) ⟨(Nat.le_of_ble_eq_true rfl), (Nat.le_of_ble_eq_true rfl), (Nat.le_of_ble_eq_true rfl), (Nat.le_of_ble_eq_true rfl)⟩ rfl (cJ_fillL C.2.2.2.2.2.1 rfl (fun f2 hf2 => ?_))
  refine r_ald C dP_forgetSettling_16 rfl ?_
  refine r_getR C dP_forgetSettling_17 rfl rfl ?_
  refine r_lk C dP_forgetSettling_20 ?_
  refine r_callS C lzJ_fillL dP_forgetSettling_21 [_, _] [] rfl rfl (Nat.le_of_ble_eq_true rfl) ⟨(Nat.le_of_ble_eq_true rfl), (Nat.le_of_ble_eq_true rfl), (Nat.le_of_ble_eq_true rfl), (Nat.le_of_ble_eq_true rfl)⟩ rfl (cJ_fillL C.2.2.2.2.2.1 rfl (fun f3 hf3 => ?_))
  exact r_vret C dP_forgetSettling_24 rfl (Nat.le_of_ble_eq_true rfl) (Nat.le_of_ble_eq_true rfl) (hn f1 f2 f3 hf1 hf2 hf3)
/-- what an asset has at first -/
def lf0 (I : ed_I) (L : ed_L) (a : Int) : Int := if I 7 a ≠ 0 ∧ I 10 a = 0 then L 8 a else 0
set_option maxRecDepth 100000 in
set_option maxHeartbeats 4000000 in
theorem cA_forgetSettling {g : ed_g} {l : Launch} (hl : l.stackTraces = false) {I : ed_I} {L : ed_L} (ht : ∀ j, 0 ≤ j → j ≤ 40 → (I 7 j = 0 ∨ I 7 j = 1) ∧ (I 10 j = 0 ∨ I 10 j = 1)) {post : ed_post} (hn : ∀ f f1 f2 : Int → Int, (∀ j, 1 ≤ j → j ≤ 40 → f j = lf0 I L j) → f 0 = L 11 0 → (∀ j, 0 ≤ j → j ≤ 40 → f1 j = 0) → (∀ j, 0 ≤ j → j ≤ 40 → f2 j = -1) → post (.inl none) Yw (setR (setR I 12 f1) 13 f2) (setR L 11 f)) : ed_Ct g l mA_forgetSettling 1 0 0 [.ref 6] Yw I L post := by
  refine ed_Ct.of hl rfl (Nat.le_of_ble_eq_true rfl) (fun x _ C => ?_)
  show Gd g x post _ _ _ _ _ _ _ _ 0 [(0, _)] []
  have loop : ∀ (q : Nat) (i : Int) (f : Int → Int), (41 - i).toNat < q → 1 ≤ i ∧ i ≤ 41 → (∀ j, 1 ≤ j → j < i → f j = lf0 I L j) → f 0 = L 11 0 → Gd g x post 0 0 mA_forgetSettling.2.2.1 0 0 Yw I (setR L 11 f) 2 [(0, .ref 6), (1, .int (iZ i))] [] := by
    intro q
    induction q with
    | zero => intro i f hq; omega
    | succ q ih =>
      intro i f hq g1 g2 g3
      refine r_ild C dA_forgetSettling_2 rfl ?_
      refine r_ik C dA_forgetSettling_3 ?_
      refine r_icmp_gt C dA_forgetSettling_5 (by omega) (fun b5 => ?_) (fun b5 => ?_)
      · refine r_ald C dA_forgetSettling_38 rfl ?_
        refine r_getR C dA_forgetSettling_39 rfl rfl ?_
        refine r_ik C dA_forgetSettling_42 ?_
        refine r_callS C lzJ_fillI dA_forgetSettling_43 [_, _] [] rfl rfl (Nat.le_of_ble_eq_true rfl) ⟨(Nat.le_of_ble_eq_true rfl), (Nat.le_of_ble_eq_true rfl), (Nat.le_of_ble_eq_true rfl), (Nat.le_of_ble_eq_true rfl)⟩ rfl (cJ_fillI C.2.2.2.2.2.1 rfl (fun f1 hf1 => ?_))
        refine r_ald C dA_forgetSettling_46 rfl ?_
        refine r_getR C dA_forgetSettling_47 rfl rfl ?_
        refine r_ik C dA_forgetSettling_50 ?_
        refine r_callS C lzJ_fillI dA_forgetSettling_51 [_, _] [] rfl rfl (Nat.le_of_ble_eq_true rfl) ⟨(Nat.le_of_ble_eq_true rfl), (Nat.le_of_ble_eq_true rfl), (Nat.le_of_ble_eq_true rfl), (Nat.le_of_ble_eq_true rfl)⟩ rfl (cJ_fillI C.2.2.2.2.2.1 rfl (fun f2 hf2 => ?_))
        exact r_vret C dA_forgetSettling_54 rfl (Nat.le_of_ble_eq_true rfl) (Nat.le_of_ble_eq_true rfl) (hn f f1 f2 (fun j j0 j1 => g2 j j0 (by omega)) g3 hf1 hf2)
      · refine r_ald C dA_forgetSettling_8 rfl ?_
        refine r_getR C dA_forgetSettling_9 rfl rfl ?_
        refine r_ild C dA_forgetSettling_12 rfl ?_
        refine r_ald C dA_forgetSettling_13 rfl ?_
        refine r_ild C dA_forgetSettling_14 rfl ?_
        refine r_callV C lzA_isThere dA_forgetSettling_15 _ [_] [_, _] rfl rfl rfl rfl rfl (Nat.le_of_ble_eq_true rfl) ⟨(Nat.le_of_ble_eq_true rfl), (Nat.le_of_ble_eq_true rfl), (Nat.le_of_ble_eq_true rfl), (Nat.le_of_ble_eq_true rfl)⟩ rfl (cA_isThere C.2.2.2.2.2.1 ⟨by omega, by omega⟩ (ht i (by omega) (by omega)) (fun b15 => ?_) (fun b15 => ?_))
        · refine r_if_eq C dA_forgetSettling_18 (by omega) (fun b18 => ?_) (fun b18 => ?_)
          · omega
          · refine r_ald C dA_forgetSettling_21 rfl ?_
            refine r_getR C dA_forgetSettling_22 rfl rfl ?_
            refine r_ild C dA_forgetSettling_25 rfl ?_
            refine r_lald C dA_forgetSettling_26 rfl ⟨by omega, by omega⟩ (by decide) ?_
            try simp only [rd, rdU, rowS, rowU, rowE, ne_eq, not_false_eq_true, Nat.reduceEqDiff, Int.reduceEq, true_and, false_and, and_true, and_false, ↓reduceIte]
            refine r_goto C dA_forgetSettling_27 ?_
            refine r_last C dA_forgetSettling_31 rfl rfl ⟨by omega, by omega⟩ (by decide) ?_
            refine r_iinc C dA_forgetSettling_32 (by decide) rfl (ls' := [(0, _), (1, _)]) rfl ?_
            refine r_goto C dA_forgetSettling_35 ?_
            simp only [up_eq, up_ne, rd, rdU, rowS, rowU, rowE, ne_eq, Nat.reduceEqDiff, Int.reduceEq, not_false_eq_true, true_and, false_and, and_true, and_false, ↓reduceIte]
            exact ih _ _ (by omega) (by omega) (fun j j0 j1 => by by_cases e : j = i; (subst e; rw [up1_s, lf0]; first | rw [if_pos b15] | rw [if_neg b15]); (rw [up1_o _ e]; exact g2 j j0 (by omega))) (by rw [up1_o _ (by omega)]; exact g3)
        · refine r_if_eq C dA_forgetSettling_18 (by omega) (fun b18 => ?_) (fun b18 => ?_)
          · refine r_lk C dA_forgetSettling_30 ?_
            refine r_last C dA_forgetSettling_31 rfl rfl ⟨by omega, by omega⟩ (by decide) ?_
            refine r_iinc C dA_forgetSettling_32 (by decide) rfl (ls' := [(0, _), (1, _)]) rfl ?_
            refine r_goto C dA_forgetSettling_35 ?_
            simp only [up_eq, up_ne, rd, rdU, rowS, rowU, rowE, ne_eq, Nat.reduceEqDiff, Int.reduceEq, not_false_eq_true, true_and, false_and, and_true, and_false, ↓reduceIte]
            exact ih _ _ (by omega) (by omega) (fun j j0 j1 => by by_cases e : j = i; (subst e; rw [up1_s, lf0]; first | rw [if_pos b15] | rw [if_neg b15]); (rw [up1_o _ e]; exact g2 j j0 (by omega))) (by rw [up1_o _ (by omega)]; exact g3)
          · omega
  refine r_ik C dA_forgetSettling_0 ?_
  refine r_ist C dA_forgetSettling_1 (by decide) (ls' := [(0, _), (1, _)]) rfl ?_
  have h := loop 50 1 (L 11) (by omega) (by omega) (fun j j0 j1 => by omega) rfl
  rw [setR_id] at h
  exact h
set_option maxRecDepth 100000 in
set_option maxHeartbeats 4000000 in
theorem cC_forgetSettling {g : ed_g} {l : Launch} (hl : l.stackTraces = false) {I : ed_I} {L : ed_L} {post : ed_post} (hn : ∀ f1 f2 f3 f4 f5 f6 f7 f8 : Int → Int, (∀ j, 0 ≤ j → j ≤ 40 → f1 j = -1) → (∀ j, 0 ≤ j → j ≤ 40 → f2 j = 0) → (∀ j, 0 ≤ j → j ≤ 40 → f3 j = 0) → (∀ j, 0 ≤ j → j ≤ 40 → f4 j = 0) → (∀ j, 0 ≤ j → j ≤ 40 → f5 j = 0) → (∀ j, 0 ≤ j → j ≤ 40 → f6 j = 0) → (∀ j, 0 ≤ j → j ≤ 40 → f7 j = 0) → (∀ j, 0 ≤ j → j ≤ 40 → f8 j = 0) → post (.inl none) Yw (setR (setR I 61 f1) 62 f2) (setR (setR (setR (setR (setR (setR L 63 f3) 64 f4) 65 f5) 66 f6) 67 f7) 68 f8)) : ed_Ct g l mC_forgetSettling 1 0 0 [.ref 14] Yw I L post := by
  refine ed_Ct.of hl rfl (Nat.le_of_ble_eq_true rfl) (fun x _ C => ?_)
  show Gd g x post _ _ _ _ _ _ _ _ 0 [(0, _)] []
  refine r_ald C dC_forgetSettling_0 rfl ?_
  refine r_getR C dC_forgetSettling_1 rfl rfl ?_
  refine r_ik C dC_forgetSettling_4 ?_
  refine r_callS C lzJ_fillI dC_forgetSettling_5 [_, _] [] rfl rfl (Nat.le_of_ble_eq_true rfl) ⟨(Nat.le_of_ble_eq_true rfl), (Nat.le_of_ble_eq_true rfl), (Nat.le_of_ble_eq_true rfl), (Nat.le_of_ble_eq_true rfl)⟩ rfl (cJ_fillI C.2.2.2.2.2.1 rfl (fun f1 hf1 => ?_))
  refine r_ald C dC_forgetSettling_8 rfl ?_
  refine r_getR C dC_forgetSettling_9 rfl rfl ?_
  refine r_ik C dC_forgetSettling_12 ?_
  refine r_callS C lzJ_fillI dC_forgetSettling_13 [_, _] [] rfl rfl (Nat.le_of_ble_eq_true rfl) ⟨(Nat.le_of_ble_eq_true rfl), (Nat.le_of_ble_eq_true rfl), (Nat.le_of_ble_eq_true rfl), (Nat.le_of_ble_eq_true rfl)⟩ rfl (cJ_fillI C.2.2.2.2.2.1 rfl (fun f2 hf2 => ?_))
  refine r_ald C dC_forgetSettling_16 rfl ?_
  refine r_getR C dC_forgetSettling_17 rfl rfl ?_
  refine r_lk C dC_forgetSettling_20 ?_
  refine r_callS C lzJ_fillL dC_forgetSettling_21 [_, _] [] rfl rfl (Nat.le_of_ble_eq_true rfl) ⟨(Nat.le_of_ble_eq_true rfl), (Nat.le_of_ble_eq_true rfl), (Nat.le_of_ble_eq_true rfl), (Nat.le_of_ble_eq_true rfl)⟩ rfl (cJ_fillL C.2.2.2.2.2.1 rfl (fun f3 hf3 => ?_))
  refine r_ald C dC_forgetSettling_24 rfl ?_
  refine r_getR C dC_forgetSettling_25 rfl rfl ?_
  refine r_lk C dC_forgetSettling_28 ?_
  refine r_callS C lzJ_fillL dC_forgetSettling_29 [_, _] [] rfl rfl (Nat.le_of_ble_eq_true rfl) ⟨(Nat.le_of_ble_eq_true rfl), (Nat.le_of_ble_eq_true rfl), (Nat.le_of_ble_eq_true rfl), (Nat.le_of_ble_eq_true rfl)⟩ rfl (cJ_fillL C.2.2.2.2.2.1 rfl (fun f4 hf4 => ?_))
  refine r_ald C dC_forgetSettling_32 rfl ?_
  refine r_getR C dC_forgetSettling_33 rfl rfl ?_
  refine r_lk C dC_forgetSettling_36 ?_
  refine r_callS C lzJ_fillL dC_forgetSettling_37 [_, _] [] rfl rfl (Nat.le_of_ble_eq_true rfl) ⟨(Nat.le_of_ble_eq_true rfl), (Nat.le_of_ble_eq_true rfl), (Nat.le_of_ble_eq_true rfl), (Nat.le_of_ble_eq_true rfl)⟩ rfl (cJ_fillL C.2.2.2.2.2.1 rfl (fun f5 hf5 => ?_))
  refine r_ald C dC_forgetSettling_40 rfl ?_
  refine r_getR C dC_forgetSettling_41 rfl rfl ?_
  refine r_lk C dC_forgetSettling_44 ?_
  refine r_callS C lzJ_fillL dC_forgetSettling_45 [_, _] [] rfl rfl (Nat.le_of_ble_eq_true rfl) ⟨(Nat.le_of_ble_eq_true rfl), (Nat.le_of_ble_eq_true rfl), (Nat.le_of_ble_eq_true rfl), (Nat.le_of_ble_eq_true rfl)⟩ rfl (cJ_fillL C.2.2.2.2.2.1 rfl (fun f6 hf6 => ?_))
  refine r_ald C dC_forgetSettling_48 rfl ?_
  refine r_getR C dC_forgetSettling_49 rfl rfl ?_
  refine r_lk C dC_forgetSettling_52 ?_
  refine r_callS C lzJ_fillL dC_forgetSettling_53 [_, _] [] rfl rfl (Nat.le_of_ble_eq_true rfl) ⟨(Nat.le_of_ble_eq_true rfl), (Nat.le_of_ble_eq_true rfl), (Nat.le_of_ble_eq_true rfl), (Nat.le_of_ble_eq_true rfl)⟩ rfl (cJ_fillL C.2.2.2.2.2.1 rfl (fun f7 hf7 => ?_))
  refine r_ald C dC_forgetSettling_56 rfl ?_
  refine r_getR C dC_forgetSettling_57 rfl rfl ?_
  refine r_lk C dC_forgetSettling_60 ?_
  refine r_callS C lzJ_fillL dC_forgetSettling_61 [_, _] [] rfl rfl (Nat.le_of_ble_eq_true rfl) ⟨(Nat.le_of_ble_eq_true rfl), (Nat.le_of_ble_eq_true rfl), (Nat.le_of_ble_eq_true rfl), (Nat.le_of_ble_eq_true rfl)⟩ rfl (cJ_fillL C.2.2.2.2.2.1 rfl (fun f8 hf8 => ?_))
  exact r_vret C dC_forgetSettling_64 rfl (Nat.le_of_ble_eq_true rfl) (Nat.le_of_ble_eq_true rfl) (hn f1 f2 f3 f4 f5 f6 f7 f8 hf1 hf2 hf3 hf4 hf5 hf6 hf7 hf8)
/-- may p take -/
abbrev olv (I : ed_I) (p : Int) : Prop := p ≠ 0 ∧ (I 2 p = 0 ∨ I 1 0 < I 2 p)
/-- the first of four who may -/
def tk (I : ed_I) (r : Int → Int) : Int := if olv I (r 1) then r 1 else if olv I (r 2) then r 2 else if olv I (r 3) then r 3 else if olv I (r 4) then r 4 else 0
theorem tk_at {I : ed_I} {r : Int → Int} {i : Int} (hi : 1 ≤ i ∧ i ≤ 4) (h : ∀ j, 1 ≤ j → j < i → ¬ olv I (r j)) (h2 : olv I (r i)) : tk I r = r i := by
  unfold tk
  have e : i = 1 ∨ i = 2 ∨ i = 3 ∨ i = 4 := by omega
  rcases e with rfl | rfl | rfl | rfl
  · rw [if_pos h2]
  · rw [if_neg (h 1 (by decide) (by decide)), if_pos h2]
  · rw [if_neg (h 1 (by decide) (by decide)), if_neg (h 2 (by decide) (by decide)), if_pos h2]
  · rw [if_neg (h 1 (by decide) (by decide)), if_neg (h 2 (by decide) (by decide)), if_neg (h 3 (by decide) (by decide)), if_pos h2]
theorem tk_none {I : ed_I} {r : Int → Int} (h : ∀ j, 1 ≤ j → j ≤ 4 → ¬ olv I (r j)) : tk I r = 0 := by
  unfold tk
  rw [if_neg (h 1 (by decide) (by decide)), if_neg (h 2 (by decide) (by decide)), if_neg (h 3 (by decide) (by decide)), if_neg (h 4 (by decide) (by decide))]
theorem tk_in {I : ed_I} {r : Int → Int} (h : ∀ j, 1 ≤ j → j ≤ 4 → 0 ≤ r j ∧ r j ≤ 40) : 0 ≤ tk I r ∧ tk I r ≤ 40 := by
  have h1 := h 1 (by decide) (by decide)
  have h2 := h 2 (by decide) (by decide)
  have h3 := h 3 (by decide) (by decide)
  have h4 := h 4 (by decide) (by decide)
  unfold tk
  repeat (first | omega | split)
set_option maxRecDepth 100000 in
set_option maxHeartbeats 4000000 in
theorem cS_firstWhoOutlived {g : ed_g} {l : Launch} (hl : l.stackTraces = false) {I : ed_I} {L : ed_L} {c : Nat} (hc : c < 41) (hrk : ∀ j, 1 ≤ j → j ≤ 4 → 0 ≤ I (20 + c) j ∧ I (20 + c) j ≤ 40) (hdy : (0 ≤ I 1 0 ∧ I 1 0 ≤ 100000) ∧ ∀ j, 0 ≤ j → j ≤ 40 → 0 ≤ I 2 j ∧ I 2 j ≤ 100000) {post : ed_post} (hn : post (.inl (some (.int (iZ (tk I (I (20 + c))))))) Yw I L) : ed_Ct g l mS_firstWhoOutlived 1 0 0 [.ref 74, .ref (20 + c)] Yw I L post := by
  refine ed_Ct.of hl rfl (Nat.le_of_ble_eq_true rfl) (fun x _ C => ?_)
  show Gd g x post _ _ _ _ _ _ _ _ 0 [(0, _), (1, _)] []
  have loop : ∀ (q : Nat) (i : Int), (5 - i).toNat < q → 1 ≤ i ∧ i ≤ 5 → (∀ j, 1 ≤ j → j < i → ¬ olv I (I (20 + c) j)) → Gd g x post 0 0 mS_firstWhoOutlived.2.2.1 0 0 Yw I L 2 [(0, .ref 74), (1, .ref (20 + c)), (2, .int (iZ i))] [] := by
    intro q
    induction q with
    | zero => intro i hq; omega
    | succ q ih =>
      intro i hq g1 g2
      have hri := fun (h : i ≤ 4) => hrk i (by omega) h
      refine r_ild C dS_firstWhoOutlived_2 rfl ?_
      refine r_ik C dS_firstWhoOutlived_3 ?_
      refine r_icmp_gt C dS_firstWhoOutlived_4 (by omega) (fun b4 => ?_) (fun b4 => ?_)
      · refine r_ik C dS_firstWhoOutlived_36 ?_
        exact r_iret C dS_firstWhoOutlived_37 rfl (Nat.le_of_ble_eq_true rfl) (Nat.le_of_ble_eq_true rfl) (by first | (rw [tk_at (i := i) (by omega) g2 (by unfold olv; omega)] at hn; exact hn) | (rw [tk_none (fun j j0 j1 => g2 j j0 (by omega))] at hn; exact hn))
      · refine r_ald C dS_firstWhoOutlived_7 rfl ?_
        refine r_ild C dS_firstWhoOutlived_8 rfl ?_
        refine r_iald C dS_firstWhoOutlived_9 (ed_row c hc) ⟨by omega, by omega⟩ (by decide) ?_
        refine r_if_eq C dS_firstWhoOutlived_10 (by omega) (fun b10 => ?_) (fun b10 => ?_)
        · refine r_iinc C dS_firstWhoOutlived_30 (by decide) rfl (ls' := [(0, _), (1, _), (2, _)]) rfl ?_
          refine r_goto C dS_firstWhoOutlived_33 ?_
          exact ih _ (by omega) (by omega) (fun j j0 j1 => by by_cases e : j = i; (subst e; unfold olv; omega); (exact g2 j j0 (by omega)))
        · refine r_ald C dS_firstWhoOutlived_13 rfl ?_
          refine r_getR C dS_firstWhoOutlived_14 rfl rfl ?_
          refine r_ald C dS_firstWhoOutlived_17 rfl ?_
          refine r_ild C dS_firstWhoOutlived_18 rfl ?_
          refine r_iald C dS_firstWhoOutlived_19 (ed_row c hc) ⟨by omega, by omega⟩ (by decide) ?_
          refine r_callV C lzP_outlived dS_firstWhoOutlived_20 _ [_] [] rfl rfl rfl rfl rfl (Nat.le_of_ble_eq_true rfl) ⟨(Nat.le_of_ble_eq_true rfl), (Nat.le_of_ble_eq_true rfl), (Nat.le_of_ble_eq_true rfl), (Nat.le_of_ble_eq_true rfl)⟩ rfl (cP_outlived C.2.2.2.2.2.1 ⟨by omega, by omega⟩ (by have q1 := hdy.1; have q2 := hdy.2 (I (20 + c) i) (by omega) (by omega); omega) (fun b20 => ?_) (fun b20 => ?_))
          · refine r_if_eq C dS_firstWhoOutlived_23 (by omega) (fun b23 => ?_) (fun b23 => ?_)
            · omega
            · refine r_ald C dS_firstWhoOutlived_26 rfl ?_
              refine r_ild C dS_firstWhoOutlived_27 rfl ?_
              refine r_iald C dS_firstWhoOutlived_28 (ed_row c hc) ⟨by omega, by omega⟩ (by decide) ?_
              exact r_iret C dS_firstWhoOutlived_29 rfl (Nat.le_of_ble_eq_true rfl) (Nat.le_of_ble_eq_true rfl) (by first | (rw [tk_at (i := i) (by omega) g2 (by unfold olv; omega)] at hn; exact hn) | (rw [tk_none (fun j j0 j1 => g2 j j0 (by omega))] at hn; exact hn))
          · refine r_if_eq C dS_firstWhoOutlived_23 (by omega) (fun b23 => ?_) (fun b23 => ?_)
            · refine r_iinc C dS_firstWhoOutlived_30 (by decide) rfl (ls' := [(0, _), (1, _), (2, _)]) rfl ?_
              refine r_goto C dS_firstWhoOutlived_33 ?_
              exact ih _ (by omega) (by omega) (fun j j0 j1 => by by_cases e : j = i; (subst e; unfold olv; omega); (exact g2 j j0 (by omega)))
            · omega
  refine r_ik C dS_firstWhoOutlived_0 ?_
  refine r_ist C dS_firstWhoOutlived_1 (by decide) (ls' := [(0, _), (1, _), (2, _)]) rfl ?_
  exact loop 9 1 (by omega) (by omega) (fun j j0 j1 => by omega)
set_option maxRecDepth 100000 in
set_option maxHeartbeats 4000000 in
theorem cS_judge {g : ed_g} {l : Launch} (hl : l.stackTraces = false) {I : ed_I} {L : ed_L} {c p : Int} (hc : 1 ≤ c ∧ c ≤ 40) (hp : 0 ≤ p ∧ p ≤ 40) (hkd : 0 ≤ I 15 c ∧ I 15 c ≤ 4) (has : 0 ≤ I 17 c ∧ I 17 c ≤ 40) (hgo : I 10 (I 17 c) = 0 ∨ I 10 (I 17 c) = 1) {post : ed_post} (h1 : p = 0 → post (.inl none) Yw (upI I 61 c 1) L) (h2 : p ≠ 0 → I 15 c = 1 ∧ I 10 (I 17 c) ≠ 0 → post (.inl none) Yw (upI I 61 c 2) L) (h3 : p ≠ 0 → I 15 c = 1 ∧ I 10 (I 17 c) = 0 → post (.inl none) Yw (upI (upI (upI I 61 c 0) 62 c p) 12 (I 17 c) c) L) (h4 : p ≠ 0 → I 15 c ≠ 1 → post (.inl none) Yw (upI (upI I 61 c 0) 62 c p) L) : ed_Ct g l mS_judge 0 0 0 [.ref 74, .int (iZ c), .int (iZ p)] Yw I L post := by
  refine ed_Ct.of hl rfl (Nat.le_of_ble_eq_true rfl) (fun x _ C => ?_)
  show Gd g x post _ _ _ _ _ _ _ _ 0 [(0, _), (1, _), (2, _)] []
  refine r_ald C dS_judge_0 rfl ?_
  refine r_getR C dS_judge_1 rfl rfl ?_
  refine r_getR C dS_judge_4 rfl rfl ?_
  refine r_ild C dS_judge_7 rfl ?_
  refine r_iald C dS_judge_8 rfl ⟨by omega, by omega⟩ (by decide) ?_
  refine r_ik C dS_judge_9 ?_
  refine r_icmp_ne C dS_judge_10 (by omega) (fun b10 => ?_) (fun b10 => ?_)
  · refine r_ik C dS_judge_17 ?_
    refine r_ist C dS_judge_18 (by decide) (ls' := [(0, _), (1, _), (2, _), (3, _)]) rfl ?_
    refine r_ald C dS_judge_19 rfl ?_
    refine r_getR C dS_judge_20 rfl rfl ?_
    refine r_getR C dS_judge_23 rfl rfl ?_
    refine r_ild C dS_judge_26 rfl ?_
    refine r_iald C dS_judge_27 rfl ⟨by omega, by omega⟩ (by decide) ?_
    refine r_ist C dS_judge_28 (by decide) (ls' := [(0, _), (1, _), (2, _), (3, _), (4, _)]) rfl ?_
    refine r_ild C dS_judge_30 rfl ?_
    refine r_if_ne C dS_judge_31 (by omega) (fun b31 => ?_) (fun b31 => ?_)
    · refine r_ild C dS_judge_47 rfl ?_
      refine r_if_eq C dS_judge_48 (by omega) (fun b48 => ?_) (fun b48 => ?_)
      · refine r_ald C dS_judge_77 rfl ?_
        refine r_getR C dS_judge_78 rfl rfl ?_
        refine r_getR C dS_judge_81 rfl rfl ?_
        refine r_ild C dS_judge_84 rfl ?_
        refine r_ik C dS_judge_85 ?_
        refine r_iast C dS_judge_86 rfl rfl ⟨by omega, by omega⟩ (by decide) ?_
        refine r_ald C dS_judge_87 rfl ?_
        refine r_getR C dS_judge_88 rfl rfl ?_
        refine r_getR C dS_judge_91 rfl rfl ?_
        refine r_ild C dS_judge_94 rfl ?_
        refine r_ild C dS_judge_95 rfl ?_
        refine r_iast C dS_judge_96 rfl rfl ⟨by omega, by omega⟩ (by decide) ?_
        refine r_ild C dS_judge_97 rfl ?_
        refine r_if_eq C dS_judge_98 (by omega) (fun b98 => ?_) (fun b98 => ?_)
        · exact r_vret C dS_judge_112 rfl (Nat.le_of_ble_eq_true rfl) (Nat.le_of_ble_eq_true rfl) (by first | exact h1 (by omega) | exact h2 (by omega) (by omega) | exact h3 (by omega) (by omega) | exact h4 (by omega) (by omega))
        · omega
      · omega
    · refine r_ald C dS_judge_34 rfl ?_
      refine r_getR C dS_judge_35 rfl rfl ?_
      refine r_getR C dS_judge_38 rfl rfl ?_
      refine r_ild C dS_judge_41 rfl ?_
      refine r_ik C dS_judge_42 ?_
      refine r_iast C dS_judge_43 rfl rfl ⟨by omega, by omega⟩ (by decide) ?_
      refine r_goto C dS_judge_44 ?_
      exact r_vret C dS_judge_112 rfl (Nat.le_of_ble_eq_true rfl) (Nat.le_of_ble_eq_true rfl) (by first | exact h1 (by omega) | exact h2 (by omega) (by omega) | exact h3 (by omega) (by omega) | exact h4 (by omega) (by omega))
  · refine r_ik C dS_judge_13 ?_
    refine r_goto C dS_judge_14 ?_
    refine r_ist C dS_judge_18 (by decide) (ls' := [(0, _), (1, _), (2, _), (3, _)]) rfl ?_
    refine r_ald C dS_judge_19 rfl ?_
    refine r_getR C dS_judge_20 rfl rfl ?_
    refine r_getR C dS_judge_23 rfl rfl ?_
    refine r_ild C dS_judge_26 rfl ?_
    refine r_iald C dS_judge_27 rfl ⟨by omega, by omega⟩ (by decide) ?_
    refine r_ist C dS_judge_28 (by decide) (ls' := [(0, _), (1, _), (2, _), (3, _), (4, _)]) rfl ?_
    refine r_ild C dS_judge_30 rfl ?_
    refine r_if_ne C dS_judge_31 (by omega) (fun b31 => ?_) (fun b31 => ?_)
    · refine r_ild C dS_judge_47 rfl ?_
      refine r_if_eq C dS_judge_48 (by omega) (fun b48 => ?_) (fun b48 => ?_)
      · omega
      · refine r_ald C dS_judge_51 rfl ?_
        refine r_getR C dS_judge_52 rfl rfl ?_
        refine r_getR C dS_judge_55 rfl rfl ?_
        refine r_ild C dS_judge_58 rfl ?_
        refine r_zald C dS_judge_60 rfl ⟨by omega, by omega⟩ (by decide) ?_
        refine r_if_eq C dS_judge_61 (by omega) (fun b61 => ?_) (fun b61 => ?_)
        · refine r_ald C dS_judge_77 rfl ?_
          refine r_getR C dS_judge_78 rfl rfl ?_
          refine r_getR C dS_judge_81 rfl rfl ?_
          refine r_ild C dS_judge_84 rfl ?_
          refine r_ik C dS_judge_85 ?_
          refine r_iast C dS_judge_86 rfl rfl ⟨by omega, by omega⟩ (by decide) ?_
          refine r_ald C dS_judge_87 rfl ?_
          refine r_getR C dS_judge_88 rfl rfl ?_
          refine r_getR C dS_judge_91 rfl rfl ?_
          refine r_ild C dS_judge_94 rfl ?_
          refine r_ild C dS_judge_95 rfl ?_
          refine r_iast C dS_judge_96 rfl rfl ⟨by omega, by omega⟩ (by decide) ?_
          refine r_ild C dS_judge_97 rfl ?_
          refine r_if_eq C dS_judge_98 (by omega) (fun b98 => ?_) (fun b98 => ?_)
          · omega
          · refine r_ald C dS_judge_101 rfl ?_
            refine r_getR C dS_judge_102 rfl rfl ?_
            refine r_getR C dS_judge_105 rfl rfl ?_
            refine r_ild C dS_judge_108 rfl ?_
            refine r_ild C dS_judge_110 rfl ?_
            refine r_iast C dS_judge_111 rfl rfl ⟨by omega, by omega⟩ (by decide) ?_
            exact r_vret C dS_judge_112 rfl (Nat.le_of_ble_eq_true rfl) (Nat.le_of_ble_eq_true rfl) (by first | exact h1 (by omega) | exact h2 (by omega) (by omega) | exact h3 (by omega) (by omega) | exact h4 (by omega) (by omega))
        · refine r_ald C dS_judge_64 rfl ?_
          refine r_getR C dS_judge_65 rfl rfl ?_
          refine r_getR C dS_judge_68 rfl rfl ?_
          refine r_ild C dS_judge_71 rfl ?_
          refine r_ik C dS_judge_72 ?_
          refine r_iast C dS_judge_73 rfl rfl ⟨by omega, by omega⟩ (by decide) ?_
          refine r_goto C dS_judge_74 ?_
          exact r_vret C dS_judge_112 rfl (Nat.le_of_ble_eq_true rfl) (Nat.le_of_ble_eq_true rfl) (by first | exact h1 (by omega) | exact h2 (by omega) (by omega) | exact h3 (by omega) (by omega) | exact h4 (by omega) (by omega))
    · refine r_ald C dS_judge_34 rfl ?_
      refine r_getR C dS_judge_35 rfl rfl ?_
      refine r_getR C dS_judge_38 rfl rfl ?_
      refine r_ild C dS_judge_41 rfl ?_
      refine r_ik C dS_judge_42 ?_
      refine r_iast C dS_judge_43 rfl rfl ⟨by omega, by omega⟩ (by decide) ?_
      refine r_goto C dS_judge_44 ?_
      exact r_vret C dS_judge_112 rfl (Nat.le_of_ble_eq_true rfl) (Nat.le_of_ble_eq_true rfl) (by first | exact h1 (by omega) | exact h2 (by omega) (by omega) | exact h3 (by omega) (by omega) | exact h4 (by omega) (by omega))
