/-! the reference's small methods, its dividing -/
section MG
variable {g : ed_g} {x : ed_x} {post : ed_post} {mc ms nL cells slots : Nat} {Y : ed_Y} {I : ed_I} {L : ed_L} {pc : Nat} {ls : List (Nat × Value)} {st : List Value}
/-- several ways lead to one place with the same value -/
theorem Gd.mgI (E : Int) (p2 : Nat) (k1 : ∀ v : Int, v = E → Gd g x post mc ms nL cells slots Y I L p2 ls (.int (iZ v) :: st)) (k2 : (∀ v : Int, v = E → Gd g x post mc ms nL cells slots Y I L p2 ls (.int (iZ v) :: st)) → Gd g x post mc ms nL cells slots Y I L pc ls st) : Gd g x post mc ms nL cells slots Y I L pc ls st := k2 k1
theorem Gd.mgL (E : Int) (p2 : Nat) (k1 : ∀ v : Int, v = E → Gd g x post mc ms nL cells slots Y I L p2 ls (.long (lZ v) :: st)) (k2 : (∀ v : Int, v = E → Gd g x post mc ms nL cells slots Y I L p2 ls (.long (lZ v) :: st)) → Gd g x post mc ms nL cells slots Y I L pc ls st) : Gd g x post mc ms nL cells slots Y I L pc ls st := k2 k1
end MG
set_option maxRecDepth 100000 in
set_option maxHeartbeats 4000000 in
theorem cM_outlived {g : ed_g} {l : Launch} (hl : l.stackTraces = false) {I : ed_I} {L : ed_L} {p : Int} (hp : 0 ≤ p ∧ p ≤ 40) (hr : 0 ≤ I 80 p ∧ I 80 p ≤ 100000) (hd : 0 ≤ I 79 1 ∧ I 79 1 ≤ 100000) {post : ed_post} (h1 : (I 80 p = 0 ∨ I 79 1 < I 80 p) → post (.inl (some (.int (iZ 1)))) Yw I L) (h0 : ¬ (I 80 p = 0 ∨ I 79 1 < I 80 p) → post (.inl (some (.int (iZ 0)))) Yw I L) : ed_Ct g l mM_outlived 0 0 0 [.ref 79, .int (iZ p)] Yw I L post := by
  refine ed_Ct.of hl rfl (Nat.le_of_ble_eq_true rfl) (fun x _ C => ?_)
  show Gd g x post _ _ _ _ _ _ _ _ 0 [(0, _), (1, _)] []
  refine r_ald C dM_outlived_0 rfl ?_
  refine r_getR C dM_outlived_1 rfl rfl ?_
  refine r_ild C dM_outlived_4 rfl ?_
  refine r_iald C dM_outlived_5 rfl ⟨by omega, by omega⟩ (by decide) ?_
  refine r_if_eq C dM_outlived_6 (by omega) (fun b6 => ?_) (fun b6 => ?_)
  · refine r_ik C dM_outlived_22 ?_
    refine r_goto C dM_outlived_23 ?_
    exact r_zret C dM_outlived_27 rfl (by omega) (Nat.le_of_ble_eq_true rfl) (Nat.le_of_ble_eq_true rfl) (by first | exact h1 (by omega) | exact h0 (by omega))
  · refine r_ald C dM_outlived_9 rfl ?_
    refine r_getR C dM_outlived_10 rfl rfl ?_
    refine r_ild C dM_outlived_13 rfl ?_
    refine r_iald C dM_outlived_14 rfl ⟨by omega, by omega⟩ (by decide) ?_
    refine r_ald C dM_outlived_15 rfl ?_
    refine r_getI (z := 1) C dM_outlived_16 rfl rfl rfl ?_
    refine r_icmp_le C dM_outlived_19 (by omega) (fun b19 => ?_) (fun b19 => ?_)
    · refine r_ik C dM_outlived_26 ?_
      exact r_zret C dM_outlived_27 rfl (by omega) (Nat.le_of_ble_eq_true rfl) (Nat.le_of_ble_eq_true rfl) (by first | exact h1 (by omega) | exact h0 (by omega))
    · refine r_ik C dM_outlived_22 ?_
      refine r_goto C dM_outlived_23 ?_
      exact r_zret C dM_outlived_27 rfl (by omega) (Nat.le_of_ble_eq_true rfl) (Nat.le_of_ble_eq_true rfl) (by first | exact h1 (by omega) | exact h0 (by omega))
set_option maxRecDepth 100000 in
set_option maxHeartbeats 4000000 in
theorem cM_takerOf {g : ed_g} {l : Launch} (hl : l.stackTraces = false) {I0 : ed_I} {L0 : ed_L} {I : ed_I} {L : ed_L} {c : Int} (hc : 0 ≤ c ∧ c ≤ 40) (hm : Mt I0 L0 I L) {post : ed_post} (hn : post (.inl (some (.int (iZ (sTk I0 c))))) Yw I L) : ed_Ct g l mM_takerOf 1 0 0 [.ref 79, .int (iZ c)] Yw I L post := by
  refine ed_Ct.of hl rfl (Nat.le_of_ble_eq_true rfl) (fun x _ C => ?_)
  show Gd g x post _ _ _ _ _ _ _ _ 0 [(0, _), (1, _)] []
  have loop : ∀ (q : Nat) (i : Int), (5 - i).toNat < q → 1 ≤ i ∧ i ≤ 5 → (∀ j, 1 ≤ j → j < i → ¬ olv I0 (I0 (20 + c.toNat) j)) → Gd g x post 0 0 mM_takerOf.2.2.1 0 0 Yw I L 2 [(0, .ref 79), (1, .int (iZ c)), (2, .int (iZ i))] [] := by
    intro q
    induction q with
    | zero => intro i hq; omega
    | succ q ih =>
      intro i hq g1 g2
      have e90 : i ≤ 4 → I 90 (5 * c + i) = I0 (20 + c.toNat) i ∧ 0 ≤ I 90 (5 * c + i) ∧ I 90 (5 * c + i) ≤ 40 := fun h => hm.rnk hc.1 hc.2 g1.1 h
      refine r_ild C dM_takerOf_2 rfl ?_
      refine r_ik C dM_takerOf_3 ?_
      refine r_icmp_ge C dM_takerOf_4 (by omega) (fun b4 => ?_) (fun b4 => ?_)
      · refine r_ik C dM_takerOf_38 ?_
        exact r_iret C dM_takerOf_39 rfl (Nat.le_of_ble_eq_true rfl) (Nat.le_of_ble_eq_true rfl) (by have e2 : sTk I0 c = 0 := tk_none (fun j j0 j1 => g2 j j0 (by omega)); rw [e2] at hn; exact hn)
      · refine r_ald C dM_takerOf_7 rfl ?_
        refine r_getR C dM_takerOf_8 rfl rfl ?_
        refine r_ik C dM_takerOf_11 ?_
        refine r_ild C dM_takerOf_12 rfl ?_
        refine r_imul C dM_takerOf_13 ?_
        refine r_ild C dM_takerOf_14 rfl ?_
        refine r_iadd C dM_takerOf_15 ?_
        refine r_iald C dM_takerOf_16 rfl ⟨by omega, by omega⟩ (by decide) ?_
        refine r_ist C dM_takerOf_17 (by decide) (ls' := [(0, _), (1, _), (2, _), (3, _)]) rfl ?_
        refine r_ild C dM_takerOf_18 rfl ?_
        refine r_if_le C dM_takerOf_19 (by omega) (fun b19 => ?_) (fun b19 => ?_)
        · refine r_iinc C dM_takerOf_32 (by decide) rfl (ls' := [(0, _), (1, _), (2, _), (3, _)]) rfl ?_
          refine r_goto C dM_takerOf_35 ?_
          refine Gd.drop (ls := [_, _, _]) (ls2 := [_]) ?_
          refine ih (i + 1) (by omega) (by omega) (fun j j0 j1 => ?_)
          by_cases e : j = i
          · subst e; intro h9; rw [← (e90 (by omega)).1] at h9; have hp9 := hm.prs (j := I 90 (5 * c + j)) (by omega) (by omega); have hd9 := hm.day; omega
          · exact g2 j j0 (by omega)
        · refine r_ald C dM_takerOf_22 rfl ?_
          refine r_ild C dM_takerOf_23 rfl ?_
          refine r_callV C lzM_outlived dM_takerOf_24 _ [_] [] rfl rfl rfl rfl rfl (Nat.le_of_ble_eq_true rfl) ⟨(Nat.le_of_ble_eq_true rfl), (Nat.le_of_ble_eq_true rfl), (Nat.le_of_ble_eq_true rfl), (Nat.le_of_ble_eq_true rfl)⟩ rfl (cM_outlived C.2.2.2.2.2.1 ⟨by omega, by omega⟩ (hm.prs (by omega) (by omega)).2 hm.day.2 (fun b24 => ?_) (fun b24 => ?_))
          · refine r_if_eq C dM_takerOf_27 (by omega) (fun b27 => ?_) (fun b27 => ?_)
            · omega
            · refine r_ild C dM_takerOf_30 rfl ?_
              exact r_iret C dM_takerOf_31 rfl (Nat.le_of_ble_eq_true rfl) (Nat.le_of_ble_eq_true rfl) (by have e := (e90 (by omega)).1; have hp9 := hm.prs (j := I 90 (5 * c + i)) (by omega) (by omega); have hd9 := hm.day; have e2 : sTk I0 c = _ := tk_at (I := I0) (r := I0 (20 + c.toNat)) (i := i) (by omega) g2 (by rw [← e]; exact ⟨by omega, by omega⟩); rw [e2, ← e] at hn; exact hn)
          · refine r_if_eq C dM_takerOf_27 (by omega) (fun b27 => ?_) (fun b27 => ?_)
            · refine r_iinc C dM_takerOf_32 (by decide) rfl (ls' := [(0, _), (1, _), (2, _), (3, _)]) rfl ?_
              refine r_goto C dM_takerOf_35 ?_
              refine Gd.drop (ls := [_, _, _]) (ls2 := [_]) ?_
              refine ih (i + 1) (by omega) (by omega) (fun j j0 j1 => ?_)
              by_cases e : j = i
              · subst e; intro h9; rw [← (e90 (by omega)).1] at h9; have hp9 := hm.prs (j := I 90 (5 * c + j)) (by omega) (by omega); have hd9 := hm.day; omega
              · exact g2 j j0 (by omega)
            · omega
  refine r_ik C dM_takerOf_0 ?_
  refine r_ist C dM_takerOf_1 (by decide) (ls' := [(0, _), (1, _), (2, _)]) rfl ?_
  exact loop 50 1 (by omega) (by omega) (fun j j0 j1 => by omega)
set_option maxRecDepth 100000 in
set_option maxHeartbeats 4000000 in
theorem cM_isGood {g : ed_g} {l : Launch} (hl : l.stackTraces = false) {I : ed_I} {L : ed_L} {c k : Int} (hc : 0 ≤ c ∧ c ≤ 40) (hk : 0 ≤ k ∧ k ≤ 4) (h85 : 0 ≤ I 85 c ∧ I 85 c ≤ 4) (h94 : -1 ≤ I 94 c ∧ I 94 c ≤ 3) {post : ed_post} (h1 : I 85 c = k ∧ I 94 c = 0 → post (.inl (some (.int (iZ 1)))) Yw I L) (h0 : ¬ (I 85 c = k ∧ I 94 c = 0) → post (.inl (some (.int (iZ 0)))) Yw I L) : ed_Ct g l mM_isGood 0 0 0 [.ref 79, .int (iZ c), .int (iZ k)] Yw I L post := by
  refine ed_Ct.of hl rfl (Nat.le_of_ble_eq_true rfl) (fun x _ C => ?_)
  show Gd g x post _ _ _ _ _ _ _ _ 0 [(0, _), (1, _), (2, _)] []
  refine r_ald C dM_isGood_0 rfl ?_
  refine r_getR C dM_isGood_1 rfl rfl ?_
  refine r_ild C dM_isGood_4 rfl ?_
  refine r_iald C dM_isGood_5 rfl ⟨by omega, by omega⟩ (by decide) ?_
  refine r_ild C dM_isGood_6 rfl ?_
  refine r_icmp_ne C dM_isGood_7 (by omega) (fun b7 => ?_) (fun b7 => ?_)
  · refine r_ik C dM_isGood_23 ?_
    exact r_zret C dM_isGood_24 rfl (by omega) (Nat.le_of_ble_eq_true rfl) (Nat.le_of_ble_eq_true rfl) (by first | exact h1 (by omega) | exact h0 (by omega))
  · refine r_ald C dM_isGood_10 rfl ?_
    refine r_getR C dM_isGood_11 rfl rfl ?_
    refine r_ild C dM_isGood_14 rfl ?_
    refine r_iald C dM_isGood_15 rfl ⟨by omega, by omega⟩ (by decide) ?_
    refine r_if_ne C dM_isGood_16 (by omega) (fun b16 => ?_) (fun b16 => ?_)
    · refine r_ik C dM_isGood_23 ?_
      exact r_zret C dM_isGood_24 rfl (by omega) (Nat.le_of_ble_eq_true rfl) (Nat.le_of_ble_eq_true rfl) (by first | exact h1 (by omega) | exact h0 (by omega))
    · refine r_ik C dM_isGood_19 ?_
      refine r_goto C dM_isGood_20 ?_
      exact r_zret C dM_isGood_24 rfl (by omega) (Nat.le_of_ble_eq_true rfl) (Nat.le_of_ble_eq_true rfl) (by first | exact h1 (by omega) | exact h0 (by omega))
set_option maxRecDepth 100000 in
set_option maxHeartbeats 4000000 in
theorem cM_giftOf {g : ed_g} {l : Launch} (hl : l.stackTraces = false) {I0 : ed_I} {L0 : ed_L} {I : ed_I} {L : ed_L} {a : Int} (ha : 0 ≤ a ∧ a ≤ 40) (hm : Mt I0 L0 I L) (hs : ∀ j, 1 ≤ j → j ≤ 40 → I 94 j = st0 I0 j) {post : ed_post} (hn : post (.inl (some (.int (iZ (sGv I0 a))))) Yw I L) : ed_Ct g l mM_giftOf 1 0 0 [.ref 79, .int (iZ a)] Yw I L post := by
  refine ed_Ct.of hl rfl (Nat.le_of_ble_eq_true rfl) (fun x _ C => ?_)
  show Gd g x post _ _ _ _ _ _ _ _ 0 [(0, _), (1, _)] []
  have loop : ∀ (q : Nat) (i f : Int), (41 - i).toNat < q → 1 ≤ i ∧ i ≤ 41 → f = gvF (st0 I0) (I0 15) (I0 17) (i - 1).toNat a → Gd g x post 0 0 mM_giftOf.2.2.1 0 0 Yw I L 4 [(0, .ref 79), (1, .int (iZ a)), (2, .int (iZ f)), (3, .int (iZ i))] [] := by
    intro q
    induction q with
    | zero => intro i f hq; omega
    | succ q ih =>
      intro i f hq g1 g2
      have hc1 := fun (h : i ≤ 40) => (hm.cla (j := i) (by omega) h).2.2.1
      refine r_ild C dM_giftOf_4 rfl ?_
      refine r_ik C dM_giftOf_5 ?_
      refine r_icmp_ge C dM_giftOf_7 (by omega) (fun b7 => ?_) (fun b7 => ?_)
      · refine r_ild C dM_giftOf_45 rfl ?_
        exact r_iret C dM_giftOf_46 rfl (Nat.le_of_ble_eq_true rfl) (Nat.le_of_ble_eq_true rfl) (by have e : sGv I0 a = f := (by rw [g2, show (i - 1).toNat = 40 by omega]; try rfl); rw [e] at hn; exact hn)
      · refine r_ald C dM_giftOf_10 rfl ?_
        refine r_ild C dM_giftOf_11 rfl ?_
        refine r_ik C dM_giftOf_12 ?_
        refine r_callV C lzM_isGood dM_giftOf_13 _ [_, _] [] rfl rfl rfl rfl rfl (Nat.le_of_ble_eq_true rfl) ⟨(Nat.le_of_ble_eq_true rfl), (Nat.le_of_ble_eq_true rfl), (Nat.le_of_ble_eq_true rfl), (Nat.le_of_ble_eq_true rfl)⟩ rfl (cM_isGood C.2.2.2.2.2.1 ⟨by omega, by omega⟩ (by decide) (hm.cla (j := i) (by omega) (by omega)).2.1 (by have := hs i (by omega) (by omega); have := st0_in (I := I0) i; omega) (fun b13 => ?_) (fun b13 => ?_))
        · refine r_if_eq C dM_giftOf_16 (by omega) (fun b16 => ?_) (fun b16 => ?_)
          · omega
          · refine r_ald C dM_giftOf_19 rfl ?_
            refine r_getR C dM_giftOf_20 rfl rfl ?_
            refine r_ild C dM_giftOf_23 rfl ?_
            refine r_iald C dM_giftOf_24 rfl ⟨by omega, by omega⟩ (by decide) ?_
            refine r_ild C dM_giftOf_25 rfl ?_
            refine r_icmp_ne C dM_giftOf_26 (by omega) (fun b26 => ?_) (fun b26 => ?_)
            · refine r_ild C dM_giftOf_37 rfl ?_
              refine r_ist C dM_giftOf_38 (by decide) (ls' := [(0, _), (1, _), (2, _), (3, _)]) rfl ?_
              refine r_iinc C dM_giftOf_39 (by decide) rfl (ls' := [(0, _), (1, _), (2, _), (3, _)]) rfl ?_
              refine r_goto C dM_giftOf_42 ?_
              refine ih (i + 1) _ (by omega) (by omega) ?_
              rw [gvF_to _ _ _ g1.1, ← g2]
              have hc9 := hm.cla (j := i) (by omega) (by omega)
              have hs9 := hs i (by omega) (by omega)
              split <;> omega
            · refine r_ild C dM_giftOf_29 rfl ?_
              refine r_if_le C dM_giftOf_30 (by omega) (fun b30 => ?_) (fun b30 => ?_)
              · refine r_ild C dM_giftOf_37 rfl ?_
                refine r_ist C dM_giftOf_38 (by decide) (ls' := [(0, _), (1, _), (2, _), (3, _)]) rfl ?_
                refine r_iinc C dM_giftOf_39 (by decide) rfl (ls' := [(0, _), (1, _), (2, _), (3, _)]) rfl ?_
                refine r_goto C dM_giftOf_42 ?_
                refine ih (i + 1) _ (by omega) (by omega) ?_
                rw [gvF_to _ _ _ g1.1, ← g2]
                have hc9 := hm.cla (j := i) (by omega) (by omega)
                have hs9 := hs i (by omega) (by omega)
                split <;> omega
              · refine r_ild C dM_giftOf_33 rfl ?_
                refine r_goto C dM_giftOf_34 ?_
                refine r_ist C dM_giftOf_38 (by decide) (ls' := [(0, _), (1, _), (2, _), (3, _)]) rfl ?_
                refine r_iinc C dM_giftOf_39 (by decide) rfl (ls' := [(0, _), (1, _), (2, _), (3, _)]) rfl ?_
                refine r_goto C dM_giftOf_42 ?_
                refine ih (i + 1) _ (by omega) (by omega) ?_
                rw [gvF_to _ _ _ g1.1, ← g2]
                have hc9 := hm.cla (j := i) (by omega) (by omega)
                have hs9 := hs i (by omega) (by omega)
                split <;> omega
        · refine r_if_eq C dM_giftOf_16 (by omega) (fun b16 => ?_) (fun b16 => ?_)
          · refine r_ild C dM_giftOf_37 rfl ?_
            refine r_ist C dM_giftOf_38 (by decide) (ls' := [(0, _), (1, _), (2, _), (3, _)]) rfl ?_
            refine r_iinc C dM_giftOf_39 (by decide) rfl (ls' := [(0, _), (1, _), (2, _), (3, _)]) rfl ?_
            refine r_goto C dM_giftOf_42 ?_
            refine ih (i + 1) _ (by omega) (by omega) ?_
            rw [gvF_to _ _ _ g1.1, ← g2]
            have hc9 := hm.cla (j := i) (by omega) (by omega)
            have hs9 := hs i (by omega) (by omega)
            split <;> omega
          · omega
  refine r_ik C dM_giftOf_0 ?_
  refine r_ist C dM_giftOf_1 (by decide) (ls' := [(0, _), (1, _), (2, _)]) rfl ?_
  refine r_ik C dM_giftOf_2 ?_
  refine r_ist C dM_giftOf_3 (by decide) (ls' := [(0, _), (1, _), (2, _), (3, _)]) rfl ?_
  exact loop 50 1 0 (by omega) (by omega) rfl
set_option maxRecDepth 100000 in
set_option maxHeartbeats 4000000 in
theorem cM_ownOf {g : ed_g} {l : Launch} (hl : l.stackTraces = false) {I0 : ed_I} {L0 : ed_L} {I : ed_I} {L : ed_L} {a : Int} (ha : 1 ≤ a ∧ a ≤ 40) (hm : Mt I0 L0 I L) (ho : ∀ j, 1 ≤ j → j ≤ 40 → L 101 j = sOwn I0 L0 j) {post : ed_post} (hn : post (.inl (some (.long (lZ (ow I0 L0 a))))) Yw I L) : ed_Ct g l mM_ownOf 0 0 0 [.ref 79, .int (iZ a)] Yw I L post := by
  refine ed_Ct.of hl rfl (Nat.le_of_ble_eq_true rfl) (fun x _ C => ?_)
  show Gd g x post _ _ _ _ _ _ _ _ 0 [(0, _), (1, _)] []
  have loop : ∀ (q : Nat) (i t : Int), (41 - i).toNat < q → 1 ≤ i ∧ i ≤ 41 → t = sm (fun j => if I0 71 j = a then sOwn I0 L0 j else 0) (i - 1).toNat → Gd g x post 0 0 mM_ownOf.2.2.1 0 0 Yw I L 5 [(0, .ref 79), (1, .int (iZ a)), (2, .long (lZ t)), (4, .int (iZ i))] [] := by
    intro q
    induction q with
    | zero => intro i t hq; omega
    | succ q ih =>
      intro i t hq g1 g2
      have hd1 := fun (h : i ≤ 40) => (hm.dbt (j := i) (by omega) h).2.2.2
      refine r_ild C dM_ownOf_5 rfl ?_
      refine r_ik C dM_ownOf_7 ?_
      refine r_icmp_ge C dM_ownOf_9 (by omega) (fun b9 => ?_) (fun b9 => ?_)
      · refine r_lld C dM_ownOf_53 rfl ?_
        exact r_lret C dM_ownOf_54 rfl (Nat.le_of_ble_eq_true rfl) (Nat.le_of_ble_eq_true rfl) (by have e : ow I0 L0 a = t := (by rw [g2, show (i - 1).toNat = 40 by omega]; try rfl); rw [e] at hn; exact hn)
      · refine r_ald C dM_ownOf_12 rfl ?_
        refine r_getR C dM_ownOf_13 rfl rfl ?_
        refine r_ild C dM_ownOf_16 rfl ?_
        refine r_zald C dM_ownOf_18 rfl ⟨by omega, by omega⟩ (by decide) ?_
        refine r_if_eq C dM_ownOf_19 (by omega) (fun b19 => ?_) (fun b19 => ?_)
        · refine r_lld C dM_ownOf_45 rfl ?_
          refine r_lst C dM_ownOf_46 (by decide) (ls' := [(0, _), (1, _), (2, _), (4, _)]) rfl ?_
          refine r_iinc C dM_ownOf_47 (by decide) rfl (ls' := [(0, _), (1, _), (2, _), (4, _)]) rfl ?_
          refine r_goto C dM_ownOf_50 ?_
          refine ih (i + 1) _ (by omega) (by omega) ?_
          rw [sm_to _ g1.1, ← g2]
          have hd9 := hm.dbt (j := i) (by omega) (by omega)
          have ho9 := ho i (by omega) (by omega)
          show _ = t + (if I0 71 i = a then sOwn I0 L0 i else 0)
          split <;> omega
        · refine r_ald C dM_ownOf_22 rfl ?_
          refine r_getR C dM_ownOf_23 rfl rfl ?_
          refine r_ild C dM_ownOf_26 rfl ?_
          refine r_iald C dM_ownOf_28 rfl ⟨by omega, by omega⟩ (by decide) ?_
          refine r_ild C dM_ownOf_29 rfl ?_
          refine r_icmp_ne C dM_ownOf_30 (by omega) (fun b30 => ?_) (fun b30 => ?_)
          · refine r_lld C dM_ownOf_45 rfl ?_
            refine r_lst C dM_ownOf_46 (by decide) (ls' := [(0, _), (1, _), (2, _), (4, _)]) rfl ?_
            refine r_iinc C dM_ownOf_47 (by decide) rfl (ls' := [(0, _), (1, _), (2, _), (4, _)]) rfl ?_
            refine r_goto C dM_ownOf_50 ?_
            refine ih (i + 1) _ (by omega) (by omega) ?_
            rw [sm_to _ g1.1, ← g2]
            have hd9 := hm.dbt (j := i) (by omega) (by omega)
            have ho9 := ho i (by omega) (by omega)
            show _ = t + (if I0 71 i = a then sOwn I0 L0 i else 0)
            split <;> omega
          · refine r_lld C dM_ownOf_33 rfl ?_
            refine r_ald C dM_ownOf_34 rfl ?_
            refine r_getR C dM_ownOf_35 rfl rfl ?_
            refine r_ild C dM_ownOf_38 rfl ?_
            refine r_lald C dM_ownOf_40 rfl ⟨by omega, by omega⟩ (by decide) ?_
            refine r_ladd C dM_ownOf_41 ?_
            refine r_goto C dM_ownOf_42 ?_
            refine r_lst C dM_ownOf_46 (by decide) (ls' := [(0, _), (1, _), (2, _), (4, _)]) rfl ?_
            refine r_iinc C dM_ownOf_47 (by decide) rfl (ls' := [(0, _), (1, _), (2, _), (4, _)]) rfl ?_
            refine r_goto C dM_ownOf_50 ?_
            refine ih (i + 1) _ (by omega) (by omega) ?_
            rw [sm_to _ g1.1, ← g2]
            have hd9 := hm.dbt (j := i) (by omega) (by omega)
            have ho9 := ho i (by omega) (by omega)
            show _ = t + (if I0 71 i = a then sOwn I0 L0 i else 0)
            split <;> omega
  refine r_lk C dM_ownOf_0 ?_
  refine r_lst C dM_ownOf_1 (by decide) (ls' := [(0, _), (1, _), (2, _)]) rfl ?_
  refine r_ik C dM_ownOf_2 ?_
  refine r_ist C dM_ownOf_3 (by decide) (ls' := [(0, _), (1, _), (2, _), (4, _)]) rfl ?_
  exact loop 50 1 0 (by omega) (by omega) rfl
set_option maxRecDepth 100000 in
set_option maxHeartbeats 4000000 in
theorem cM_lesser {g : ed_g} {l : Launch} (hl : l.stackTraces = false) {I : ed_I} {L : ed_L} {a b : Int} (ra : -9223372036854775808 ≤ a ∧ a ≤ 9223372036854775807) (rb : -9223372036854775808 ≤ b ∧ b ≤ 9223372036854775807) {post : ed_post} (hn : post (.inl (some (.long (lZ (min a b))))) Yw I L) : ed_Ct g l mM_lesser 0 0 0 [.long (lZ a), .long (lZ b)] Yw I L post := by
  refine ed_Ct.of hl rfl (Nat.le_of_ble_eq_true rfl) (fun x _ C => ?_)
  show Gd g x post _ _ _ _ _ _ _ _ 0 [(0, _), (2, _)] []
  refine r_lld C dM_lesser_0 rfl ?_
  refine r_lld C dM_lesser_1 rfl ?_
  refine r_lc_ge C dM_lesser_2 dM_lesser_3 (by omega) (fun b3 => ?_) (fun b3 => ?_)
  · refine r_lld C dM_lesser_10 rfl ?_
    exact r_lret C dM_lesser_11 rfl (Nat.le_of_ble_eq_true rfl) (Nat.le_of_ble_eq_true rfl) (by first | (have e : min a b = a := (by omega); rw [e] at hn; exact hn) | (have e : min a b = b := (by omega); rw [e] at hn; exact hn))
  · refine r_lld C dM_lesser_6 rfl ?_
    refine r_goto C dM_lesser_7 ?_
    exact r_lret C dM_lesser_11 rfl (Nat.le_of_ble_eq_true rfl) (Nat.le_of_ble_eq_true rfl) (by first | (have e : min a b = a := (by omega); rw [e] at hn; exact hn) | (have e : min a b = b := (by omega); rw [e] at hn; exact hn))
set_option maxRecDepth 100000 in
set_option maxHeartbeats 4000000 in
theorem cM_notBelow0 {g : ed_g} {l : Launch} (hl : l.stackTraces = false) {I : ed_I} {L : ed_L} {a : Int} (ra : -9223372036854775808 ≤ a ∧ a ≤ 9223372036854775807) {post : ed_post} (hn : post (.inl (some (.long (lZ (max 0 a))))) Yw I L) : ed_Ct g l mM_notBelow0 0 0 0 [.long (lZ a)] Yw I L post := by
  refine ed_Ct.of hl rfl (Nat.le_of_ble_eq_true rfl) (fun x _ C => ?_)
  show Gd g x post _ _ _ _ _ _ _ _ 0 [(0, _)] []
  refine r_lld C dM_notBelow0_0 rfl ?_
  refine r_lk C dM_notBelow0_1 ?_
  refine r_lc_ge C dM_notBelow0_2 dM_notBelow0_3 (by omega) (fun b3 => ?_) (fun b3 => ?_)
  · refine r_lld C dM_notBelow0_10 rfl ?_
    exact r_lret C dM_notBelow0_11 rfl (Nat.le_of_ble_eq_true rfl) (Nat.le_of_ble_eq_true rfl) (by first | (have e : max 0 a = 0 := (by omega); rw [e] at hn; exact hn) | (have e : max 0 a = a := (by omega); rw [e] at hn; exact hn))
  · refine r_lk C dM_notBelow0_6 ?_
    refine r_goto C dM_notBelow0_7 ?_
    exact r_lret C dM_notBelow0_11 rfl (Nat.le_of_ble_eq_true rfl) (Nat.le_of_ble_eq_true rfl) (by first | (have e : max 0 a = 0 := (by omega); rw [e] at hn; exact hn) | (have e : max 0 a = a := (by omega); rw [e] at hn; exact hn))
set_option maxRecDepth 100000 in
set_option maxHeartbeats 4000000 in
theorem cM_share {g : ed_g} {l : Launch} (hl : l.stackTraces = false) {I : ed_I} {L : ed_L} {k A W : Int} (hk : 0 ≤ k ∧ k ≤ 40) (hA : 0 ≤ A ∧ A ≤ 1000000000000000) (hW : 1 ≤ W ∧ W ≤ 1000000000000000) (hw : 0 ≤ L 109 k ∧ L 109 k ≤ 1000000000000) {post : ed_post} (hn : post (.inl none) Yw I (upI (upI L 110 k (A * L 109 k / W)) 111 k (if 0 < L 109 k then A * L 109 k % W else -1))) : ed_Ct g l mM_share 0 0 0 [.ref 79, .int (iZ k), .long (lZ A), .long (lZ W)] Yw I L post := by
  refine ed_Ct.of hl rfl (Nat.le_of_ble_eq_true rfl) (fun x _ C => ?_)
  show Gd g x post _ _ _ _ _ _ _ _ 0 [(0, _), (1, _), (2, _), (4, _)] []
  have loop : ∀ (q : Nat) (b q9 r9 : Int), (b + 1).toNat < q → -1 ≤ b ∧ b ≤ 45 → 0 ≤ r9 ∧ r9 < W → q9 * W + r9 = A * (L 109 k / 2 ^ (b + 1).toNat) → Gd g x post 0 0 mM_share.2.2.1 0 0 Yw I L 22 [(0, .ref 79), (1, .int (iZ k)), (2, .long (lZ A)), (4, .long (lZ W)), (6, .long (lZ (A / W))), (8, .long (lZ (A % W))), (10, .long (lZ q9)), (12, .long (lZ r9)), (14, .int (iZ b))] [] := by
    intro q
    induction q with
    | zero => intro b q9 r9 hq; omega
    | succ q ih =>
      intro b q9 r9 hq g1 g2 g3
      have ho := Int.emod_nonneg A (show W ≠ 0 by omega)
      have ho2 := Int.emod_lt_of_pos A (show 0 < W by omega)
      refine r_ild C dM_share_22 rfl ?_
      refine r_if_lt C dM_share_24 (by omega) (fun b24 => ?_) (fun b24 => ?_)
      · refine r_ald C dM_share_121 rfl ?_
        refine r_getR C dM_share_122 rfl rfl ?_
        refine r_ild C dM_share_125 rfl ?_
        refine r_lld C dM_share_126 rfl ?_
        refine r_last C dM_share_128 rfl rfl ⟨by omega, by omega⟩ (by decide) ?_
        refine r_ald C dM_share_129 rfl ?_
        refine r_getR C dM_share_130 rfl rfl ?_
        refine r_ild C dM_share_133 rfl ?_
        refine r_ald C dM_share_134 rfl ?_
        refine r_getR C dM_share_135 rfl rfl ?_
        refine r_ild C dM_share_138 rfl ?_
        refine r_lald C dM_share_139 rfl ⟨by omega, by omega⟩ (by decide) ?_
        try simp only [rd, rdU, rowS, rowU, rowE, ne_eq, not_false_eq_true, Nat.reduceEqDiff, Int.reduceEq, true_and, false_and, and_true, and_false, and_self, ↓reduceIte]
        refine r_lk C dM_share_140 ?_
        refine r_lc_le C dM_share_141 dM_share_142 (by omega) (fun b142 => ?_) (fun b142 => ?_)
        · refine r_lk C dM_share_150 ?_
          refine r_last C dM_share_153 rfl rfl ⟨by omega, by omega⟩ (by decide) ?_
          exact r_vret C dM_share_154 rfl (Nat.le_of_ble_eq_true rfl) (Nat.le_of_ble_eq_true rfl) (by have e := sh_end (A := A) (w := L 109 k) g2 (by have h9 : b = -1 := (by omega); rw [h9] at g3; simpa using g3); rw [← e.1, ← e.2] at hn; first | (rw [if_pos (by omega)] at hn; exact hn) | (rw [if_neg (by omega)] at hn; exact hn))
        · refine r_lld C dM_share_145 rfl ?_
          refine r_goto C dM_share_147 ?_
          refine r_last C dM_share_153 rfl rfl ⟨by omega, by omega⟩ (by decide) ?_
          exact r_vret C dM_share_154 rfl (Nat.le_of_ble_eq_true rfl) (Nat.le_of_ble_eq_true rfl) (by have e := sh_end (A := A) (w := L 109 k) g2 (by have h9 : b = -1 := (by omega); rw [h9] at g3; simpa using g3); rw [← e.1, ← e.2] at hn; first | (rw [if_pos (by omega)] at hn; exact hn) | (rw [if_neg (by omega)] at hn; exact hn))
      · refine r_lk C dM_share_27 ?_
        refine r_lld C dM_share_30 rfl ?_
        refine r_lmul C dM_share_32 ?_
        refine r_lst C dM_share_33 (by decide) (ls' := [(0, _), (1, _), (2, _), (4, _), (6, _), (8, _), (10, _), (12, _), (14, _)]) rfl ?_
        refine r_lk C dM_share_35 ?_
        refine r_lld C dM_share_38 rfl ?_
        refine r_lmul C dM_share_40 ?_
        refine r_lst C dM_share_41 (by decide) (ls' := [(0, _), (1, _), (2, _), (4, _), (6, _), (8, _), (10, _), (12, _), (14, _)]) rfl ?_
        refine r_lld C dM_share_43 rfl ?_
        refine r_lld C dM_share_45 rfl ?_
        refine r_lc_lt C dM_share_47 dM_share_48 (by omega) (fun b48 => ?_) (fun b48 => ?_)
        · refine r_ald C dM_share_64 rfl ?_
          refine r_getR C dM_share_65 rfl rfl ?_
          refine r_ild C dM_share_68 rfl ?_
          refine r_lald C dM_share_69 rfl ⟨by omega, by omega⟩ (by decide) ?_
          try simp only [rd, rdU, rowS, rowU, rowE, ne_eq, not_false_eq_true, Nat.reduceEqDiff, Int.reduceEq, true_and, false_and, and_true, and_false, and_self, ↓reduceIte]
          refine r_ild C dM_share_70 rfl ?_
          refine r_lshr C dM_share_72 ?_
          refine r_lk C dM_share_73 ?_
          refine r_land C dM_share_74 ?_
          rw [shr_bit ⟨by omega, by omega⟩ ⟨by omega, by omega⟩]
          refine r_lk C dM_share_75 ?_
          refine r_lc_ne C dM_share_76 dM_share_77 (by omega) (fun b77 => ?_) (fun b77 => ?_)
          · refine r_iinc C dM_share_115 (by decide) rfl (ls' := [(0, _), (1, _), (2, _), (4, _), (6, _), (8, _), (10, _), (12, _), (14, _)]) rfl ?_
            refine r_goto C dM_share_118 ?_
            refine ih _ _ _ (by omega) (by omega) (by omega) ?_
            rw [show b + -1 + 1 = b by omega, sh_bit (L 109 k) (show 0 ≤ b by omega)]
            first | (rw [show L 109 k / 2 ^ b.toNat % 2 = 1 by omega]; first | exact sh_3 (sh_1 g3) | exact sh_2 (sh_3 (sh_1 g3)) | exact sh_3 (sh_2 (sh_1 g3)) | exact sh_2 (sh_3 (sh_2 (sh_1 g3)))) | (rw [show L 109 k / 2 ^ b.toNat % 2 = 0 by omega, Int.add_zero]; first | exact sh_1 g3 | exact sh_2 (sh_1 g3))
          · refine r_lld C dM_share_80 rfl ?_
            refine r_lld C dM_share_82 rfl ?_
            refine r_ladd C dM_share_84 ?_
            refine r_lst C dM_share_85 (by decide) (ls' := [(0, _), (1, _), (2, _), (4, _), (6, _), (8, _), (10, _), (12, _), (14, _)]) rfl ?_
            refine r_lld C dM_share_87 rfl ?_
            refine r_lld C dM_share_89 rfl ?_
            refine r_ladd C dM_share_91 ?_
            refine r_lst C dM_share_92 (by decide) (ls' := [(0, _), (1, _), (2, _), (4, _), (6, _), (8, _), (10, _), (12, _), (14, _)]) rfl ?_
            refine r_lld C dM_share_94 rfl ?_
            refine r_lld C dM_share_96 rfl ?_
            refine r_lc_lt C dM_share_98 dM_share_99 (by omega) (fun b99 => ?_) (fun b99 => ?_)
            · refine r_iinc C dM_share_115 (by decide) rfl (ls' := [(0, _), (1, _), (2, _), (4, _), (6, _), (8, _), (10, _), (12, _), (14, _)]) rfl ?_
              refine r_goto C dM_share_118 ?_
              refine ih _ _ _ (by omega) (by omega) (by omega) ?_
              rw [show b + -1 + 1 = b by omega, sh_bit (L 109 k) (show 0 ≤ b by omega)]
              first | (rw [show L 109 k / 2 ^ b.toNat % 2 = 1 by omega]; first | exact sh_3 (sh_1 g3) | exact sh_2 (sh_3 (sh_1 g3)) | exact sh_3 (sh_2 (sh_1 g3)) | exact sh_2 (sh_3 (sh_2 (sh_1 g3)))) | (rw [show L 109 k / 2 ^ b.toNat % 2 = 0 by omega, Int.add_zero]; first | exact sh_1 g3 | exact sh_2 (sh_1 g3))
            · refine r_lld C dM_share_102 rfl ?_
              refine r_lld C dM_share_104 rfl ?_
              refine r_lsub C dM_share_106 ?_
              refine r_lst C dM_share_107 (by decide) (ls' := [(0, _), (1, _), (2, _), (4, _), (6, _), (8, _), (10, _), (12, _), (14, _)]) rfl ?_
              refine r_lld C dM_share_109 rfl ?_
              refine r_lk C dM_share_111 ?_
              refine r_ladd C dM_share_112 ?_
              refine r_lst C dM_share_113 (by decide) (ls' := [(0, _), (1, _), (2, _), (4, _), (6, _), (8, _), (10, _), (12, _), (14, _)]) rfl ?_
              refine r_iinc C dM_share_115 (by decide) rfl (ls' := [(0, _), (1, _), (2, _), (4, _), (6, _), (8, _), (10, _), (12, _), (14, _)]) rfl ?_
              refine r_goto C dM_share_118 ?_
              refine ih _ _ _ (by omega) (by omega) (by omega) ?_
              rw [show b + -1 + 1 = b by omega, sh_bit (L 109 k) (show 0 ≤ b by omega)]
              first | (rw [show L 109 k / 2 ^ b.toNat % 2 = 1 by omega]; first | exact sh_3 (sh_1 g3) | exact sh_2 (sh_3 (sh_1 g3)) | exact sh_3 (sh_2 (sh_1 g3)) | exact sh_2 (sh_3 (sh_2 (sh_1 g3)))) | (rw [show L 109 k / 2 ^ b.toNat % 2 = 0 by omega, Int.add_zero]; first | exact sh_1 g3 | exact sh_2 (sh_1 g3))
        · refine r_lld C dM_share_51 rfl ?_
          refine r_lld C dM_share_53 rfl ?_
          refine r_lsub C dM_share_55 ?_
          refine r_lst C dM_share_56 (by decide) (ls' := [(0, _), (1, _), (2, _), (4, _), (6, _), (8, _), (10, _), (12, _), (14, _)]) rfl ?_
          refine r_lld C dM_share_58 rfl ?_
          refine r_lk C dM_share_60 ?_
          refine r_ladd C dM_share_61 ?_
          refine r_lst C dM_share_62 (by decide) (ls' := [(0, _), (1, _), (2, _), (4, _), (6, _), (8, _), (10, _), (12, _), (14, _)]) rfl ?_
          refine r_ald C dM_share_64 rfl ?_
          refine r_getR C dM_share_65 rfl rfl ?_
          refine r_ild C dM_share_68 rfl ?_
          refine r_lald C dM_share_69 rfl ⟨by omega, by omega⟩ (by decide) ?_
          try simp only [rd, rdU, rowS, rowU, rowE, ne_eq, not_false_eq_true, Nat.reduceEqDiff, Int.reduceEq, true_and, false_and, and_true, and_false, and_self, ↓reduceIte]
          refine r_ild C dM_share_70 rfl ?_
          refine r_lshr C dM_share_72 ?_
          refine r_lk C dM_share_73 ?_
          refine r_land C dM_share_74 ?_
          rw [shr_bit ⟨by omega, by omega⟩ ⟨by omega, by omega⟩]
          refine r_lk C dM_share_75 ?_
          refine r_lc_ne C dM_share_76 dM_share_77 (by omega) (fun b77 => ?_) (fun b77 => ?_)
          · refine r_iinc C dM_share_115 (by decide) rfl (ls' := [(0, _), (1, _), (2, _), (4, _), (6, _), (8, _), (10, _), (12, _), (14, _)]) rfl ?_
            refine r_goto C dM_share_118 ?_
            refine ih _ _ _ (by omega) (by omega) (by omega) ?_
            rw [show b + -1 + 1 = b by omega, sh_bit (L 109 k) (show 0 ≤ b by omega)]
            first | (rw [show L 109 k / 2 ^ b.toNat % 2 = 1 by omega]; first | exact sh_3 (sh_1 g3) | exact sh_2 (sh_3 (sh_1 g3)) | exact sh_3 (sh_2 (sh_1 g3)) | exact sh_2 (sh_3 (sh_2 (sh_1 g3)))) | (rw [show L 109 k / 2 ^ b.toNat % 2 = 0 by omega, Int.add_zero]; first | exact sh_1 g3 | exact sh_2 (sh_1 g3))
          · refine r_lld C dM_share_80 rfl ?_
            refine r_lld C dM_share_82 rfl ?_
            refine r_ladd C dM_share_84 ?_
            refine r_lst C dM_share_85 (by decide) (ls' := [(0, _), (1, _), (2, _), (4, _), (6, _), (8, _), (10, _), (12, _), (14, _)]) rfl ?_
            refine r_lld C dM_share_87 rfl ?_
            refine r_lld C dM_share_89 rfl ?_
            refine r_ladd C dM_share_91 ?_
            refine r_lst C dM_share_92 (by decide) (ls' := [(0, _), (1, _), (2, _), (4, _), (6, _), (8, _), (10, _), (12, _), (14, _)]) rfl ?_
            refine r_lld C dM_share_94 rfl ?_
            refine r_lld C dM_share_96 rfl ?_
            refine r_lc_lt C dM_share_98 dM_share_99 (by omega) (fun b99 => ?_) (fun b99 => ?_)
            · refine r_iinc C dM_share_115 (by decide) rfl (ls' := [(0, _), (1, _), (2, _), (4, _), (6, _), (8, _), (10, _), (12, _), (14, _)]) rfl ?_
              refine r_goto C dM_share_118 ?_
              refine ih _ _ _ (by omega) (by omega) (by omega) ?_
              rw [show b + -1 + 1 = b by omega, sh_bit (L 109 k) (show 0 ≤ b by omega)]
              first | (rw [show L 109 k / 2 ^ b.toNat % 2 = 1 by omega]; first | exact sh_3 (sh_1 g3) | exact sh_2 (sh_3 (sh_1 g3)) | exact sh_3 (sh_2 (sh_1 g3)) | exact sh_2 (sh_3 (sh_2 (sh_1 g3)))) | (rw [show L 109 k / 2 ^ b.toNat % 2 = 0 by omega, Int.add_zero]; first | exact sh_1 g3 | exact sh_2 (sh_1 g3))
            · refine r_lld C dM_share_102 rfl ?_
              refine r_lld C dM_share_104 rfl ?_
              refine r_lsub C dM_share_106 ?_
              refine r_lst C dM_share_107 (by decide) (ls' := [(0, _), (1, _), (2, _), (4, _), (6, _), (8, _), (10, _), (12, _), (14, _)]) rfl ?_
              refine r_lld C dM_share_109 rfl ?_
              refine r_lk C dM_share_111 ?_
              refine r_ladd C dM_share_112 ?_
              refine r_lst C dM_share_113 (by decide) (ls' := [(0, _), (1, _), (2, _), (4, _), (6, _), (8, _), (10, _), (12, _), (14, _)]) rfl ?_
              refine r_iinc C dM_share_115 (by decide) rfl (ls' := [(0, _), (1, _), (2, _), (4, _), (6, _), (8, _), (10, _), (12, _), (14, _)]) rfl ?_
              refine r_goto C dM_share_118 ?_
              refine ih _ _ _ (by omega) (by omega) (by omega) ?_
              rw [show b + -1 + 1 = b by omega, sh_bit (L 109 k) (show 0 ≤ b by omega)]
              first | (rw [show L 109 k / 2 ^ b.toNat % 2 = 1 by omega]; first | exact sh_3 (sh_1 g3) | exact sh_2 (sh_3 (sh_1 g3)) | exact sh_3 (sh_2 (sh_1 g3)) | exact sh_2 (sh_3 (sh_2 (sh_1 g3)))) | (rw [show L 109 k / 2 ^ b.toNat % 2 = 0 by omega, Int.add_zero]; first | exact sh_1 g3 | exact sh_2 (sh_1 g3))
  refine r_lld C dM_share_0 rfl ?_
  refine r_lld C dM_share_1 rfl ?_
  refine r_ldiv C dM_share_3 (by omega) ?_
  refine r_lst C dM_share_4 (by decide) (ls' := [(0, _), (1, _), (2, _), (4, _), (6, _)]) rfl ?_
  refine r_lld C dM_share_6 rfl ?_
  refine r_lld C dM_share_7 rfl ?_
  refine r_lrem C dM_share_9 (by omega) ?_
  refine r_lst C dM_share_10 (by decide) (ls' := [(0, _), (1, _), (2, _), (4, _), (6, _), (8, _)]) rfl ?_
  refine r_lk C dM_share_12 ?_
  refine r_lst C dM_share_13 (by decide) (ls' := [(0, _), (1, _), (2, _), (4, _), (6, _), (8, _), (10, _)]) rfl ?_
  refine r_lk C dM_share_15 ?_
  refine r_lst C dM_share_16 (by decide) (ls' := [(0, _), (1, _), (2, _), (4, _), (6, _), (8, _), (10, _), (12, _)]) rfl ?_
  refine r_ik C dM_share_18 ?_
  refine r_ist C dM_share_20 (by decide) (ls' := [(0, _), (1, _), (2, _), (4, _), (6, _), (8, _), (10, _), (12, _), (14, _)]) rfl ?_
  exact loop 50 45 0 0 (by omega) (by omega) (by omega) (by have e46 : (2 : Int) ^ ((45 : Int) + 1).toNat = 70368744177664 := (by decide); rw [e46, Int.ediv_eq_zero_of_lt hw.1 (by omega)]; simp)
set_option maxRecDepth 100000 in
set_option maxHeartbeats 4000000 in
theorem cM_split {g : ed_g} {l : Launch} (hl : l.stackTraces = false) {I : ed_I} {L : ed_L} {A : Int} (hA : 0 ≤ A ∧ A ≤ 1000000000000000) (hw : ∀ j, 0 ≤ j → j ≤ 40 → 0 ≤ L 109 j ∧ L 109 j ≤ 1000000000000) (hw0 : L 109 0 = 0) {post : ed_post} (hn : ∀ s r : Int → Int, (∀ j, 1 ≤ j → j ≤ 40 → s j = spl (L 109) A j) → post (.inl none) Yw I (setR (setR L 110 s) 111 r)) : ed_Ct g l mM_split 1 0 0 [.ref 79, .long (lZ A)] Yw I L post := by
  refine ed_Ct.of hl rfl (Nat.le_of_ble_eq_true rfl) (fun x _ C => ?_)
  show Gd g x post _ _ _ _ _ _ _ _ 0 [(0, _), (1, _)] []
  have hs8 := sm_le (f := L 109) (B := 1000000000000) (fun j j0 j1 => hw j (by omega) j1)
  have loop3 : ∀ (q : Nat) (n : Nat) (t : Int) (s r : Int → Int), t.toNat < q → 0 < sm (L 109) 40 → n ≤ (lck (L 109) A).toNat → t = lck (L 109) A - n → (∀ j, 1 ≤ j → j ≤ 40 → s j = (pk (bs (L 109) A) (rs (L 109) A) n).1 j) → rsim r (pk (bs (L 109) A) (rs (L 109) A) n).2 → (∀ j, 0 ≤ j → j ≤ 40 → -1 ≤ r j ∧ r j ≤ 1000000000000000) → Gd g x post 0 0 mM_split.2.2.1 0 0 Yw I (setR (setR L 110 s) 111 r) 92 [(0, .ref 79), (1, .long (lZ A)), (3, .long (lZ (sm (L 109) 40))), (5, .long (lZ t))] [] := by
    intro q
    induction q with
    | zero => intro n t s r hq; omega
    | succ q ih =>
      intro n t s r hq g1 g2 g3 g4 g5 g6
      have hl9 := lck_in (A := A) g1
      refine r_lld C dM_split_92 rfl ?_
      refine r_lk C dM_split_94 ?_
      refine r_lc_le C dM_split_95 dM_split_96 (by omega) (fun b96 => ?_) (fun b96 => ?_)
      · exact r_vret C dM_split_180 rfl (Nat.le_of_ble_eq_true rfl) (Nat.le_of_ble_eq_true rfl) (hn s r (fun j j0 j1 => spl_at hA.1 g1 (by rw [show (lck (L 109) A).toNat = n by omega]; exact g4) ⟨j0, j1⟩))
      · refine r_ik C dM_split_99 ?_
        refine r_ist C dM_split_100 (by decide) (ls' := [(0, _), (1, _), (3, _), (5, _), (7, _)]) rfl ?_
        refine r_ik C dM_split_102 ?_
        refine r_ist C dM_split_103 (by decide) (ls' := [(0, _), (1, _), (3, _), (5, _), (7, _), (8, _)]) rfl ?_
        have inner : ∀ (q2 : Nat) (k b : Int), (41 - k).toNat < q2 → 1 ≤ k ∧ k ≤ 41 → b = amM r (k - 1).toNat → Gd g x post 0 0 mM_split.2.2.1 0 0 Yw I (setR (setR L 110 s) 111 r) 105 [(0, .ref 79), (1, .long (lZ A)), (3, .long (lZ (sm (L 109) 40))), (5, .long (lZ t)), (7, .int (iZ b)), (8, .int (iZ k))] [] := by
          intro q2
          induction q2 with
          | zero => intro k b hq2; omega
          | succ q2 ih2 =>
            intro k b hq2 k1 k2
            have hb9 := amM_in r (k - 1).toNat
            rw [← k2] at hb9
            have hrk := fun (h : k ≤ 40) => g6 k (by omega) h
            have hrb := g6 b (by omega) (by omega)
            refine r_ild C dM_split_105 rfl ?_
            refine r_ik C dM_split_107 ?_
            refine r_icmp_ge C dM_split_109 (by omega) (fun b109 => ?_) (fun b109 => ?_)
            · refine r_ald C dM_split_145 rfl ?_
              refine r_getR C dM_split_146 rfl rfl ?_
              refine r_ild C dM_split_149 rfl ?_
              refine r_ald C dM_split_151 rfl ?_
              refine r_getR C dM_split_152 rfl rfl ?_
              refine r_ild C dM_split_155 rfl ?_
              refine r_lald C dM_split_157 rfl ⟨by omega, by omega⟩ (by decide) ?_
              try simp only [rd, rdU, rowS, rowU, rowE, ne_eq, not_false_eq_true, Nat.reduceEqDiff, Int.reduceEq, true_and, false_and, and_true, and_false, and_self, ↓reduceIte]
              refine r_lk C dM_split_158 ?_
              refine r_ladd C dM_split_159 ?_
              refine r_last C dM_split_160 rfl rfl ⟨by omega, by omega⟩ (by decide) ?_
              refine r_ald C dM_split_161 rfl ?_
              refine r_getR C dM_split_162 rfl rfl ?_
              refine r_ild C dM_split_165 rfl ?_
              refine r_lk C dM_split_167 ?_
              refine r_last C dM_split_170 rfl rfl ⟨by omega, by omega⟩ (by decide) ?_
              refine r_lld C dM_split_171 rfl ?_
              refine r_lk C dM_split_173 ?_
              refine r_lsub C dM_split_174 ?_
              refine r_lst C dM_split_175 (by decide) (ls' := [(0, _), (1, _), (3, _), (5, _), (7, _), (8, _)]) rfl ?_
              refine r_goto C dM_split_177 ?_
              refine Gd.drop (ls := [_, _, _, _]) (ls2 := [_, _]) ?_
              have e40 : amM r 40 = b := by rw [k2, show (k - 1).toNat = 40 by omega]
              have pn := pk_next (s := s) (r := r) (n := n) (m := (lck (L 109) A).toNat) g1 (fun j _ _ => rs_in (A := A) g1 j) (by rw [rs_sm, show (((lck (L 109) A).toNat : Nat) : Int) = lck (L 109) A by omega]) (by omega) g4 g5
              rw [e40] at pn
              simp only [up_eq, up_ne, rd, rdU, rowS, rowU, rowE, ne_eq, Nat.reduceEqDiff, Int.reduceEq, not_false_eq_true, true_and, false_and, and_true, and_false, ↓reduceIte]
              refine ih (n + 1) _ _ _ (by omega) g1 (by omega) (by omega) pn.2.1 pn.2.2 (fun j j0 j1 => ?_)
              by_cases e : j = b
              · subst e; rw [up1_s]; decide
              · rw [up1_o _ e]; exact g6 j j0 j1
            · refine r_ald C dM_split_112 rfl ?_
              refine r_getR C dM_split_113 rfl rfl ?_
              refine r_ild C dM_split_116 rfl ?_
              refine r_lald C dM_split_118 rfl ⟨by omega, by omega⟩ (by decide) ?_
              try simp only [rd, rdU, rowS, rowU, rowE, ne_eq, not_false_eq_true, Nat.reduceEqDiff, Int.reduceEq, true_and, false_and, and_true, and_false, and_self, ↓reduceIte]
              refine r_ald C dM_split_119 rfl ?_
              refine r_getR C dM_split_120 rfl rfl ?_
              refine r_ild C dM_split_123 rfl ?_
              refine r_lald C dM_split_125 rfl ⟨by omega, by omega⟩ (by decide) ?_
              try simp only [rd, rdU, rowS, rowU, rowE, ne_eq, not_false_eq_true, Nat.reduceEqDiff, Int.reduceEq, true_and, false_and, and_true, and_false, and_self, ↓reduceIte]
              refine r_lc_le C dM_split_126 dM_split_127 (by omega) (fun b127 => ?_) (fun b127 => ?_)
              · refine r_ild C dM_split_135 rfl ?_
                refine r_ist C dM_split_137 (by decide) (ls' := [(0, _), (1, _), (3, _), (5, _), (7, _), (8, _)]) rfl ?_
                refine r_iinc C dM_split_139 (by decide) rfl (ls' := [(0, _), (1, _), (3, _), (5, _), (7, _), (8, _)]) rfl ?_
                refine r_goto C dM_split_142 ?_
                exact ih2 (k + 1) _ (by omega) (by omega) (by rw [amM_to _ k1.1, ← k2]; first | rw [if_pos (by omega)] | rw [if_neg (by omega)])
              · refine r_ild C dM_split_130 rfl ?_
                refine r_goto C dM_split_132 ?_
                refine r_ist C dM_split_137 (by decide) (ls' := [(0, _), (1, _), (3, _), (5, _), (7, _), (8, _)]) rfl ?_
                refine r_iinc C dM_split_139 (by decide) rfl (ls' := [(0, _), (1, _), (3, _), (5, _), (7, _), (8, _)]) rfl ?_
                refine r_goto C dM_split_142 ?_
                exact ih2 (k + 1) _ (by omega) (by omega) (by rw [amM_to _ k1.1, ← k2]; first | rw [if_pos (by omega)] | rw [if_neg (by omega)])
        exact inner 50 1 0 (by omega) (by omega) rfl
  have loop2 : ∀ (q : Nat) (i t : Int) (s r : Int → Int), (41 - i).toNat < q → 0 ≤ i ∧ i ≤ 41 → 0 < sm (L 109) 40 → t = A - sm (bs (L 109) A) (i - 1).toNat → (∀ j, 0 ≤ j → j < i → s j = bs (L 109) A j) → (∀ j, 0 ≤ j → j < i → r j = if 0 < L 109 j then A * L 109 j % sm (L 109) 40 else -1) → Gd g x post 0 0 mM_split.2.2.1 0 0 Yw I (setR (setR L 110 s) 111 r) 59 [(0, .ref 79), (1, .long (lZ A)), (3, .long (lZ (sm (L 109) 40))), (5, .long (lZ t)), (7, .int (iZ i))] [] := by
    intro q
    induction q with
    | zero => intro i t s r hq; omega
    | succ q ih =>
      intro i t s r hq g1 g2 g3 g4 g5
      have hs9 := hs8 40 (by decide)
      refine r_ild C dM_split_59 rfl ?_
      refine r_ik C dM_split_61 ?_
      refine r_icmp_ge C dM_split_63 (by omega) (fun b63 => ?_) (fun b63 => ?_)
      · refine Gd.drop (ls := [_, _, _, _]) (ls2 := [_]) ?_
        have hl9 := lck_in (A := A) g2
        have et : t = lck (L 109) A := by rw [g3, show (i - 1).toNat = 40 by omega]; rfl
        refine loop3 50 0 t s r (by omega) g2 (by omega) (by omega) (fun j j0 j1 => g4 j (by omega) (by omega)) (rs_start g2 (fun j j0 j1 => (hw j (by omega) j1).1) ?_ (fun j j0 j1 => g5 j (by omega) (by omega))) (fun j j0 j1 => ?_)
        · rw [g5 0 (by omega) (by omega), hw0, if_neg (by decide)]; decide
        · rw [g5 j j0 (by omega)]; have q1 := Int.emod_nonneg (A * L 109 j) (show sm (L 109) 40 ≠ 0 by omega); have q2 := Int.emod_lt_of_pos (A * L 109 j) g2; split <;> omega
      · refine r_ald C dM_split_66 rfl ?_
        refine r_ild C dM_split_67 rfl ?_
        refine r_lld C dM_split_69 rfl ?_
        refine r_lld C dM_split_70 rfl ?_
        refine r_callV C lzM_share dM_split_71 _ [_, _, _] [] rfl rfl rfl rfl rfl (Nat.le_of_ble_eq_true rfl) ⟨(Nat.le_of_ble_eq_true rfl), (Nat.le_of_ble_eq_true rfl), (Nat.le_of_ble_eq_true rfl), (Nat.le_of_ble_eq_true rfl)⟩ rfl (cM_share C.2.2.2.2.2.1 ⟨by omega, by omega⟩ hA ⟨by omega, by omega⟩ (by simp only [rd, rdU, rowS, rowU, rowE, ne_eq, not_false_eq_true, Nat.reduceEqDiff, Int.reduceEq, true_and, false_and, and_true, and_false, and_self, ↓reduceIte]; exact hw i (by omega) (by omega)) ?_)
        simp only [up_eq, up_ne, rd, rdU, rowS, rowU, rowE, ne_eq, Nat.reduceEqDiff, Int.reduceEq, not_false_eq_true, true_and, false_and, and_true, and_false, ↓reduceIte]
        refine r_lld C dM_split_74 rfl ?_
        refine r_ald C dM_split_76 rfl ?_
        refine r_getR C dM_split_77 rfl rfl ?_
        refine r_ild C dM_split_80 rfl ?_
        refine r_lald C dM_split_82 rfl ⟨by omega, by omega⟩ (by decide) ?_
        try simp only [rd, rdU, rowS, rowU, rowE, ne_eq, not_false_eq_true, Nat.reduceEqDiff, Int.reduceEq, true_and, false_and, and_true, and_false, and_self, ↓reduceIte]
        rw [up1_s]
        refine r_lsub C dM_split_83 ?_
        refine r_lst C dM_split_84 (by decide) (ls' := [(0, _), (1, _), (3, _), (5, _), (7, _)]) rfl ?_
        refine r_iinc C dM_split_86 (by decide) rfl (ls' := [(0, _), (1, _), (3, _), (5, _), (7, _)]) rfl ?_
        refine r_goto C dM_split_89 ?_
        refine ih (i + 1) _ _ _ (by omega) (by omega) g2 ?_ (fun j j0 j1 => ?_) (fun j j0 j1 => ?_)
        · rw [sm_to0 _ g1.1 (by unfold bs; rw [hw0, Int.mul_zero]; exact Int.zero_ediv _), g3]; show _ - bs (L 109) A i = _; omega
        · by_cases e : j = i
          · subst e; rw [up1_s]; rfl
          · rw [up1_o _ e]; exact g4 j j0 (by omega)
        · by_cases e : j = i
          · subst e; rw [up1_s]
          · rw [up1_o _ e]; exact g5 j j0 (by omega)
  have loop1 : ∀ (q : Nat) (i t : Int) (s r : Int → Int), (41 - i).toNat < q → 0 ≤ i ∧ i ≤ 41 → t = sm (L 109) (i - 1).toNat → (∀ j, 0 ≤ j → j < i → s j = 0) → Gd g x post 0 0 mM_split.2.2.1 0 0 Yw I (setR (setR L 110 s) 111 r) 5 [(0, .ref 79), (1, .long (lZ A)), (3, .long (lZ t)), (5, .int (iZ i))] [] := by
    intro q
    induction q with
    | zero => intro i t s r hq; omega
    | succ q ih =>
      intro i t s r hq g1 g2 g3
      have hs9 := hs8 (i - 1).toNat (by omega)
      rw [← g2] at hs9
      refine r_ild C dM_split_5 rfl ?_
      refine r_ik C dM_split_7 ?_
      refine r_icmp_ge C dM_split_9 (by omega) (fun b9 => ?_) (fun b9 => ?_)
      · refine r_lld C dM_split_46 rfl ?_
        refine r_lk C dM_split_47 ?_
        refine r_lc_ne C dM_split_48 dM_split_49 (by omega) (fun b49 => ?_) (fun b49 => ?_)
        · refine r_lld C dM_split_53 rfl ?_
          refine r_lst C dM_split_54 (by decide) (ls' := [(0, _), (1, _), (3, _), (5, _)]) rfl ?_
          refine r_ik C dM_split_56 ?_
          refine r_ist C dM_split_57 (by decide) (ls' := [(0, _), (1, _), (3, _), (5, _), (7, _)]) rfl ?_
          have e41 : t = sm (L 109) 40 := by rw [g2, show (i - 1).toNat = 40 by omega]
          subst e41
          exact loop2 50 0 A _ _ (by omega) (by omega) (by omega) (by show A = A - 0; omega) (fun j j0 j1 => by omega) (fun j j0 j1 => by omega)
        · exact r_vret C dM_split_52 rfl (Nat.le_of_ble_eq_true rfl) (Nat.le_of_ble_eq_true rfl) (hn s r (fun j j0 j1 => by rw [g3 j (by omega) (by omega), spl_none (Or.inl (by rw [← show (i - 1).toNat = 40 by omega, ← g2]; omega))]))
      · refine r_lld C dM_split_12 rfl ?_
        refine r_ald C dM_split_13 rfl ?_
        refine r_getR C dM_split_14 rfl rfl ?_
        refine r_ild C dM_split_17 rfl ?_
        refine r_lald C dM_split_19 rfl ⟨by omega, by omega⟩ (by decide) ?_
        try simp only [rd, rdU, rowS, rowU, rowE, ne_eq, not_false_eq_true, Nat.reduceEqDiff, Int.reduceEq, true_and, false_and, and_true, and_false, and_self, ↓reduceIte]
        refine r_ladd C dM_split_20 ?_
        refine r_lst C dM_split_21 (by decide) (ls' := [(0, _), (1, _), (3, _), (5, _)]) rfl ?_
        refine r_ald C dM_split_22 rfl ?_
        refine r_getR C dM_split_23 rfl rfl ?_
        refine r_ild C dM_split_26 rfl ?_
        refine r_lk C dM_split_28 ?_
        refine r_last C dM_split_29 rfl rfl ⟨by omega, by omega⟩ (by decide) ?_
        refine r_ald C dM_split_30 rfl ?_
        refine r_getR C dM_split_31 rfl rfl ?_
        refine r_ild C dM_split_34 rfl ?_
        refine r_lk C dM_split_36 ?_
        refine r_last C dM_split_39 rfl rfl ⟨by omega, by omega⟩ (by decide) ?_
        refine r_iinc C dM_split_40 (by decide) rfl (ls' := [(0, _), (1, _), (3, _), (5, _)]) rfl ?_
        refine r_goto C dM_split_43 ?_
        simp only [up_eq, up_ne, rd, rdU, rowS, rowU, rowE, ne_eq, Nat.reduceEqDiff, Int.reduceEq, not_false_eq_true, true_and, false_and, and_true, and_false, ↓reduceIte]
        exact ih (i + 1) _ _ _ (by omega) (by omega) (by rw [sm_to0 _ g1.1 hw0, ← g2]) (fun j j0 j1 => by by_cases e : j = i; (subst e; rw [up1_s]); (rw [up1_o _ e]; exact g3 j j0 (by omega)))
  refine r_lk C dM_split_0 ?_
  refine r_lst C dM_split_1 (by decide) (ls' := [(0, _), (1, _), (3, _)]) rfl ?_
  refine r_ik C dM_split_2 ?_
  refine r_ist C dM_split_3 (by decide) (ls' := [(0, _), (1, _), (3, _), (5, _)]) rfl ?_
  have h := loop1 50 0 0 (L 110) (L 111) (by omega) (by omega) rfl (fun j j0 j1 => by omega)
  rw [setR_id, setR_id] at h
  exact h
