set_option maxRecDepth 100000 in
set_option maxHeartbeats 4000000 in
theorem cL_testator {g : ed_g} {l : Launch} (hl : l.stackTraces = false) {I : ed_I} {L : ed_L} {a : Int} (ra : -2147483648 ≤ a ∧ a ≤ 2147483647) (hc : I 0 7 = 0 ∨ I 0 7 = 1) {post : ed_post} (hA : ¬ (1 ≤ a ∧ a ≤ 100000) → post (.inl (some (.int (iZ 1)))) Yw I L) (hS : (1 ≤ a ∧ a ≤ 100000) → ¬ (I 0 7 = 0) → post (.inl (some (.int (iZ 2)))) Yw I L) (hn : (1 ≤ a ∧ a ≤ 100000) → (I 0 7 = 0) → post (.inl (some (.int (iZ 0)))) Yw (upI (upI I 1 0 a) 0 6 0) L) : ed_Ct g l mL_testator 5 2 12 [.ref 0, .int (iZ a)] Yw I L post := by
  refine ed_Ct.of hl rfl (Nat.le_of_ble_eq_true rfl) (fun x _ C => ?_)
  show Gd g x post _ _ _ _ _ _ _ _ 0 [(0, _), (1, _)] []
  refine r_ald C dL_testator_0 rfl ?_
  refine r_ild C dL_testator_1 rfl ?_
  refine r_callV C lzD_testator dL_testator_2 _ [_] [] rfl rfl rfl rfl rfl (Nat.le_of_ble_eq_true rfl) ⟨(Nat.le_of_ble_eq_true rfl), (Nat.le_of_ble_eq_true rfl), (Nat.le_of_ble_eq_true rfl), (Nat.le_of_ble_eq_true rfl)⟩ rfl (cD_testator C.2.2.2.2.2.1 ra hc (fun bA => ?_) (fun b1 bS => ?_) (fun b1 b2 => ?_))
  · refine gx_in2 C (ed_tk1 C rfl ⟨by decide, by decide⟩ (by decide) (tb2 22 rfl) (tb2 37 rfl)) dL_testator_8 (by decide) (ls' := [(0, _), (1, _)]) rfl ?_
    refine r_ik C dL_testator_9 ?_
    exact r_iret C dL_testator_10 rfl (Nat.le_of_ble_eq_true rfl) (Nat.le_of_ble_eq_true rfl) (by first | exact hA bA | exact hS b1 bS | exact hn b1 b2)
  · refine gx_in2 C (ed_tk2 C rfl ⟨by decide, by decide⟩ ⟨by decide, by decide⟩ (by decide) (by decide) (tb2 22 rfl) (tb2 23 rfl) (tb2 106 rfl)) dL_testator_11 (by decide) (ls' := [(0, _), (1, _)]) rfl ?_
    refine r_ik C dL_testator_12 ?_
    exact r_iret C dL_testator_13 rfl (Nat.le_of_ble_eq_true rfl) (Nat.le_of_ble_eq_true rfl) (by first | exact hA bA | exact hS b1 bS | exact hn b1 b2)
  · refine r_goto C dL_testator_5 ?_
    refine r_ik C dL_testator_14 ?_
    exact r_iret C dL_testator_15 rfl (Nat.le_of_ble_eq_true rfl) (Nat.le_of_ble_eq_true rfl) (by first | exact hA bA | exact hS b1 bS | exact hn b1 b2)
set_option maxRecDepth 100000 in
set_option maxHeartbeats 4000000 in
theorem cL_person {g : ed_g} {l : Launch} (hl : l.stackTraces = false) {I : ed_I} {L : ed_L} {a b : Int} (ra : -2147483648 ≤ a ∧ a ≤ 2147483647) (rb : -2147483648 ≤ b ∧ b ≤ 2147483647) (hc : I 0 7 = 0 ∨ I 0 7 = 1) {post : ed_post} (hA : ¬ ((1 ≤ a ∧ a ≤ 40) ∧ 0 ≤ b ∧ b ≤ 100000) → post (.inl (some (.int (iZ 1)))) Yw I L) (hS : ((1 ≤ a ∧ a ≤ 40) ∧ 0 ≤ b ∧ b ≤ 100000) → ¬ (I 0 7 = 0) → post (.inl (some (.int (iZ 2)))) Yw I L) (hn : ((1 ≤ a ∧ a ≤ 40) ∧ 0 ≤ b ∧ b ≤ 100000) → (I 0 7 = 0) → post (.inl (some (.int (iZ 0)))) Yw (upI (upI I 2 a b) 0 6 0) L) : ed_Ct g l mL_person 5 3 18 [.ref 0, .int (iZ a), .int (iZ b)] Yw I L post := by
  refine ed_Ct.of hl rfl (Nat.le_of_ble_eq_true rfl) (fun x _ C => ?_)
  show Gd g x post _ _ _ _ _ _ _ _ 0 [(0, _), (1, _), (2, _)] []
  refine r_ald C dL_person_0 rfl ?_
  refine r_ild C dL_person_1 rfl ?_
  refine r_ild C dL_person_2 rfl ?_
  refine r_callV C lzD_person dL_person_3 _ [_, _] [] rfl rfl rfl rfl rfl (Nat.le_of_ble_eq_true rfl) ⟨(Nat.le_of_ble_eq_true rfl), (Nat.le_of_ble_eq_true rfl), (Nat.le_of_ble_eq_true rfl), (Nat.le_of_ble_eq_true rfl)⟩ rfl (cD_person C.2.2.2.2.2.1 ra rb hc (fun bA => ?_) (fun b1 bS => ?_) (fun b1 b2 => ?_))
  · refine gx_in2 C (ed_tk1 C rfl ⟨by decide, by decide⟩ (by decide) (tb2 22 rfl) (tb2 37 rfl)) dL_person_9 (by decide) (ls' := [(0, _), (1, _), (2, _)]) rfl ?_
    refine r_ik C dL_person_10 ?_
    exact r_iret C dL_person_11 rfl (Nat.le_of_ble_eq_true rfl) (Nat.le_of_ble_eq_true rfl) (by first | exact hA bA | exact hS b1 bS | exact hn b1 b2)
  · refine gx_in2 C (ed_tk2 C rfl ⟨by decide, by decide⟩ ⟨by decide, by decide⟩ (by decide) (by decide) (tb2 22 rfl) (tb2 23 rfl) (tb2 106 rfl)) dL_person_12 (by decide) (ls' := [(0, _), (1, _), (2, _)]) rfl ?_
    refine r_ik C dL_person_13 ?_
    exact r_iret C dL_person_14 rfl (Nat.le_of_ble_eq_true rfl) (Nat.le_of_ble_eq_true rfl) (by first | exact hA bA | exact hS b1 bS | exact hn b1 b2)
  · refine r_goto C dL_person_6 ?_
    refine r_ik C dL_person_15 ?_
    exact r_iret C dL_person_16 rfl (Nat.le_of_ble_eq_true rfl) (Nat.le_of_ble_eq_true rfl) (by first | exact hA bA | exact hS b1 bS | exact hn b1 b2)
set_option maxRecDepth 100000 in
set_option maxHeartbeats 4000000 in
theorem cL_asset {g : ed_g} {l : Launch} (hl : l.stackTraces = false) {I : ed_I} {L : ed_L} {a v f : Int} (ra : -2147483648 ≤ a ∧ a ≤ 2147483647) (rv : -9223372036854775808 ≤ v ∧ v ≤ 9223372036854775807) (hf : f = 0 ∨ f = 1) (hc : I 0 7 = 0 ∨ I 0 7 = 1) (hk : ∀ j, 0 ≤ j → j ≤ 40 → I 7 j = 0 ∨ I 7 j = 1) {post : ed_post} (hA : ¬ ((1 ≤ a ∧ a ≤ 40) ∧ 0 ≤ v ∧ v ≤ 1000000000000) → post (.inl (some (.int (iZ 1)))) Yw I L) (hS : ((1 ≤ a ∧ a ≤ 40) ∧ 0 ≤ v ∧ v ≤ 1000000000000) → ¬ (I 0 7 = 0 ∧ I 7 a = 0) → post (.inl (some (.int (iZ 2)))) Yw I L) (hn : ((1 ≤ a ∧ a ≤ 40) ∧ 0 ≤ v ∧ v ≤ 1000000000000) → (I 0 7 = 0 ∧ I 7 a = 0) → post (.inl (some (.int (iZ 0)))) Yw (upI (upI (upI I 7 a 1) 9 a f) 0 6 0) (upI L 8 a v)) : ed_Ct g l mL_asset 5 4 24 [.ref 0, .int (iZ a), .long (lZ v), .int (iZ f)] Yw I L post := by
  refine ed_Ct.of hl rfl (Nat.le_of_ble_eq_true rfl) (fun x _ C => ?_)
  show Gd g x post _ _ _ _ _ _ _ _ 0 [(0, _), (1, _), (2, _), (4, _)] []
  refine r_ald C dL_asset_0 rfl ?_
  refine r_ild C dL_asset_1 rfl ?_
  refine r_lld C dL_asset_2 rfl ?_
  refine r_ild C dL_asset_3 rfl ?_
  refine r_callV C lzD_asset dL_asset_5 _ [_, _, _] [] rfl rfl rfl rfl rfl (Nat.le_of_ble_eq_true rfl) ⟨(Nat.le_of_ble_eq_true rfl), (Nat.le_of_ble_eq_true rfl), (Nat.le_of_ble_eq_true rfl), (Nat.le_of_ble_eq_true rfl)⟩ rfl (cD_asset C.2.2.2.2.2.1 ra rv hf hc hk (fun bA => ?_) (fun b1 bS => ?_) (fun b1 b2 => ?_))
  · refine gx_in2 C (ed_tk1 C rfl ⟨by decide, by decide⟩ (by decide) (tb2 22 rfl) (tb2 37 rfl)) dL_asset_11 (by decide) (ls' := [(0, _), (1, _), (2, _), (4, _)]) rfl ?_
    refine r_ik C dL_asset_13 ?_
    exact r_iret C dL_asset_14 rfl (Nat.le_of_ble_eq_true rfl) (Nat.le_of_ble_eq_true rfl) (by first | exact hA bA | exact hS b1 bS | exact hn b1 b2)
  · refine gx_in2 C (ed_tk2 C rfl ⟨by decide, by decide⟩ ⟨by decide, by decide⟩ (by decide) (by decide) (tb2 22 rfl) (tb2 23 rfl) (tb2 106 rfl)) dL_asset_15 (by decide) (ls' := [(0, _), (1, _), (2, _), (4, _)]) rfl ?_
    refine r_ik C dL_asset_17 ?_
    exact r_iret C dL_asset_18 rfl (Nat.le_of_ble_eq_true rfl) (Nat.le_of_ble_eq_true rfl) (by first | exact hA bA | exact hS b1 bS | exact hn b1 b2)
  · refine r_goto C dL_asset_8 ?_
    refine r_ik C dL_asset_19 ?_
    exact r_iret C dL_asset_20 rfl (Nat.le_of_ble_eq_true rfl) (Nat.le_of_ble_eq_true rfl) (by first | exact hA bA | exact hS b1 bS | exact hn b1 b2)
set_option maxRecDepth 100000 in
set_option maxHeartbeats 4000000 in
theorem cL_revalue {g : ed_g} {l : Launch} (hl : l.stackTraces = false) {I : ed_I} {L : ed_L} {a v : Int} (ra : -2147483648 ≤ a ∧ a ≤ 2147483647) (rv : -9223372036854775808 ≤ v ∧ v ≤ 9223372036854775807) (hc : I 0 7 = 0 ∨ I 0 7 = 1) (hk : ∀ j, 0 ≤ j → j ≤ 40 → I 7 j = 0 ∨ I 7 j = 1) {post : ed_post} (hA : ¬ (((1 ≤ a ∧ a ≤ 40) ∧ I 7 a ≠ 0) ∧ 0 ≤ v ∧ v ≤ 1000000000000) → post (.inl (some (.int (iZ 1)))) Yw I L) (hS : (((1 ≤ a ∧ a ≤ 40) ∧ I 7 a ≠ 0) ∧ 0 ≤ v ∧ v ≤ 1000000000000) → ¬ (I 0 7 = 0) → post (.inl (some (.int (iZ 2)))) Yw I L) (hn : (((1 ≤ a ∧ a ≤ 40) ∧ I 7 a ≠ 0) ∧ 0 ≤ v ∧ v ≤ 1000000000000) → (I 0 7 = 0) → post (.inl (some (.int (iZ 0)))) Yw (upI I 0 6 0) (upI (upI L 8 a v) 112 0 (L 8 a))) : ed_Ct g l mL_revalue 5 4 24 [.ref 0, .int (iZ a), .long (lZ v), .ref 112] Yw I L post := by
  refine ed_Ct.of hl rfl (Nat.le_of_ble_eq_true rfl) (fun x _ C => ?_)
  show Gd g x post _ _ _ _ _ _ _ _ 0 [(0, _), (1, _), (2, _), (4, _)] []
  refine r_ald C dL_revalue_0 rfl ?_
  refine r_ik C dL_revalue_2 ?_
  refine r_ald C dL_revalue_3 rfl ?_
  refine r_ild C dL_revalue_4 rfl ?_
  refine r_lld C dL_revalue_5 rfl ?_
  refine r_callV C lzD_revalue dL_revalue_6 _ [_, _] [_, _] rfl rfl rfl rfl rfl (Nat.le_of_ble_eq_true rfl) ⟨(Nat.le_of_ble_eq_true rfl), (Nat.le_of_ble_eq_true rfl), (Nat.le_of_ble_eq_true rfl), (Nat.le_of_ble_eq_true rfl)⟩ rfl (cD_revalue C.2.2.2.2.2.1 ra rv hc hk (fun bA => ?_) (fun b1 bS => ?_) (fun b1 b2 => ?_))
  · refine gx_in2 C (ed_tk1 C rfl ⟨by decide, by decide⟩ (by decide) (tb2 22 rfl) (tb2 37 rfl)) dL_revalue_13 (by decide) (ls' := [(0, _), (1, _), (2, _), (4, _)]) rfl ?_
    refine r_ik C dL_revalue_15 ?_
    exact r_iret C dL_revalue_16 rfl (Nat.le_of_ble_eq_true rfl) (Nat.le_of_ble_eq_true rfl) (by first | exact hA bA | exact hS b1 bS | exact hn b1 b2)
  · refine gx_in2 C (ed_tk2 C rfl ⟨by decide, by decide⟩ ⟨by decide, by decide⟩ (by decide) (by decide) (tb2 22 rfl) (tb2 23 rfl) (tb2 106 rfl)) dL_revalue_17 (by decide) (ls' := [(0, _), (1, _), (2, _), (4, _)]) rfl ?_
    refine r_ik C dL_revalue_19 ?_
    exact r_iret C dL_revalue_20 rfl (Nat.le_of_ble_eq_true rfl) (Nat.le_of_ble_eq_true rfl) (by first | exact hA bA | exact hS b1 bS | exact hn b1 b2)
  · refine r_last C dL_revalue_9 rfl rfl ⟨by omega, by omega⟩ (by decide) ?_
    refine r_goto C dL_revalue_10 ?_
    refine r_ik C dL_revalue_21 ?_
    exact r_iret C dL_revalue_22 rfl (Nat.le_of_ble_eq_true rfl) (Nat.le_of_ble_eq_true rfl) (by first | exact hA bA | exact hS b1 bS | exact hn b1 b2)
set_option maxRecDepth 100000 in
set_option maxHeartbeats 4000000 in
theorem cL_gone {g : ed_g} {l : Launch} (hl : l.stackTraces = false) {I : ed_I} {L : ed_L} {a : Int} (ra : -2147483648 ≤ a ∧ a ≤ 2147483647) (hc : I 0 7 = 0 ∨ I 0 7 = 1) (hk : ∀ j, 0 ≤ j → j ≤ 40 → I 7 j = 0 ∨ I 7 j = 1) {post : ed_post} (hA : ¬ ((1 ≤ a ∧ a ≤ 40) ∧ I 7 a ≠ 0) → post (.inl (some (.int (iZ 1)))) Yw I L) (hS : ((1 ≤ a ∧ a ≤ 40) ∧ I 7 a ≠ 0) → ¬ (I 0 7 = 0) → post (.inl (some (.int (iZ 2)))) Yw I L) (hn : ((1 ≤ a ∧ a ≤ 40) ∧ I 7 a ≠ 0) → (I 0 7 = 0) → post (.inl (some (.int (iZ 0)))) Yw (upI (upI I 10 a 1) 0 6 0) L) : ed_Ct g l mL_gone 5 3 18 [.ref 0, .int (iZ a)] Yw I L post := by
  refine ed_Ct.of hl rfl (Nat.le_of_ble_eq_true rfl) (fun x _ C => ?_)
  show Gd g x post _ _ _ _ _ _ _ _ 0 [(0, _), (1, _)] []
  refine r_ald C dL_gone_0 rfl ?_
  refine r_ild C dL_gone_1 rfl ?_
  refine r_callV C lzD_gone dL_gone_2 _ [_] [] rfl rfl rfl rfl rfl (Nat.le_of_ble_eq_true rfl) ⟨(Nat.le_of_ble_eq_true rfl), (Nat.le_of_ble_eq_true rfl), (Nat.le_of_ble_eq_true rfl), (Nat.le_of_ble_eq_true rfl)⟩ rfl (cD_gone C.2.2.2.2.2.1 ra hc hk (fun bA => ?_) (fun b1 bS => ?_) (fun b1 b2 => ?_))
  · refine gx_in2 C (ed_tk1 C rfl ⟨by decide, by decide⟩ (by decide) (tb2 22 rfl) (tb2 37 rfl)) dL_gone_8 (by decide) (ls' := [(0, _), (1, _)]) rfl ?_
    refine r_ik C dL_gone_9 ?_
    exact r_iret C dL_gone_10 rfl (Nat.le_of_ble_eq_true rfl) (Nat.le_of_ble_eq_true rfl) (by first | exact hA bA | exact hS b1 bS | exact hn b1 b2)
  · refine gx_in2 C (ed_tk2 C rfl ⟨by decide, by decide⟩ ⟨by decide, by decide⟩ (by decide) (by decide) (tb2 22 rfl) (tb2 23 rfl) (tb2 106 rfl)) dL_gone_11 (by decide) (ls' := [(0, _), (1, _)]) rfl ?_
    refine r_ik C dL_gone_12 ?_
    exact r_iret C dL_gone_13 rfl (Nat.le_of_ble_eq_true rfl) (Nat.le_of_ble_eq_true rfl) (by first | exact hA bA | exact hS b1 bS | exact hn b1 b2)
  · refine r_goto C dL_gone_5 ?_
    refine r_ik C dL_gone_14 ?_
    exact r_iret C dL_gone_15 rfl (Nat.le_of_ble_eq_true rfl) (Nat.le_of_ble_eq_true rfl) (by first | exact hA bA | exact hS b1 bS | exact hn b1 b2)
set_option maxRecDepth 100000 in
set_option maxHeartbeats 4000000 in
theorem cL_gift {g : ed_g} {l : Launch} (hl : l.stackTraces = false) {I : ed_I} {L : ed_L} {c a : Int} (rc : -2147483648 ≤ c ∧ c ≤ 2147483647) (ra : -2147483648 ≤ a ∧ a ≤ 2147483647) (hc : I 0 7 = 0 ∨ I 0 7 = 1) (hk : ∀ j, 0 ≤ j → j ≤ 40 → I 7 j = 0 ∨ I 7 j = 1) (hr : ∀ j, 0 ≤ j → j ≤ 40 → -1 ≤ I 17 j ∧ I 17 j ≤ 100000) {post : ed_post} (hA : ¬ ((1 ≤ c ∧ c ≤ 40) ∧ (1 ≤ a ∧ a ≤ 40) ∧ I 7 a ≠ 0) → post (.inl (some (.int (iZ 1)))) Yw I L) (hS : ((1 ≤ c ∧ c ≤ 40) ∧ (1 ≤ a ∧ a ≤ 40) ∧ I 7 a ≠ 0) → ¬ (I 0 7 = 0 ∧ ∀ j, 1 ≤ j → j ≤ 40 → j ≠ c → I 17 j ≠ a) → post (.inl (some (.int (iZ 2)))) Yw I L) (hn : ((1 ≤ c ∧ c ≤ 40) ∧ (1 ≤ a ∧ a ≤ 40) ∧ I 7 a ≠ 0) → (I 0 7 = 0 ∧ ∀ j, 1 ≤ j → j ≤ 40 → j ≠ c → I 17 j ≠ a) → post (.inl (some (.int (iZ 0)))) Yw (upI (upI (upI (upI I 15 c 1) 17 c a) 18 c 1) 0 6 0) (upI L 16 c 0)) : ed_Ct g l mL_gift 5 5 30 [.ref 0, .int (iZ c), .int (iZ a)] Yw I L post := by
  refine ed_Ct.of hl rfl (Nat.le_of_ble_eq_true rfl) (fun x _ C => ?_)
  show Gd g x post _ _ _ _ _ _ _ _ 0 [(0, _), (1, _), (2, _)] []
  refine r_ald C dL_gift_0 rfl ?_
  refine r_ild C dL_gift_1 rfl ?_
  refine r_ild C dL_gift_2 rfl ?_
  refine r_callV C lzD_gift dL_gift_3 _ [_, _] [] rfl rfl rfl rfl rfl (Nat.le_of_ble_eq_true rfl) ⟨(Nat.le_of_ble_eq_true rfl), (Nat.le_of_ble_eq_true rfl), (Nat.le_of_ble_eq_true rfl), (Nat.le_of_ble_eq_true rfl)⟩ rfl (cD_gift C.2.2.2.2.2.1 rc ra hc hk hr (fun bA => ?_) (fun b1 bS => ?_) (fun b1 b2 => ?_))
  · refine gx_in2 C (ed_tk1 C rfl ⟨by decide, by decide⟩ (by decide) (tb2 22 rfl) (tb2 37 rfl)) dL_gift_9 (by decide) (ls' := [(0, _), (1, _), (2, _)]) rfl ?_
    refine r_ik C dL_gift_10 ?_
    exact r_iret C dL_gift_11 rfl (Nat.le_of_ble_eq_true rfl) (Nat.le_of_ble_eq_true rfl) (by first | exact hA bA | exact hS b1 bS | exact hn b1 b2)
  · refine gx_in2 C (ed_tk2 C rfl ⟨by decide, by decide⟩ ⟨by decide, by decide⟩ (by decide) (by decide) (tb2 22 rfl) (tb2 23 rfl) (tb2 106 rfl)) dL_gift_12 (by decide) (ls' := [(0, _), (1, _), (2, _)]) rfl ?_
    refine r_ik C dL_gift_13 ?_
    exact r_iret C dL_gift_14 rfl (Nat.le_of_ble_eq_true rfl) (Nat.le_of_ble_eq_true rfl) (by first | exact hA bA | exact hS b1 bS | exact hn b1 b2)
  · refine r_goto C dL_gift_6 ?_
    refine r_ik C dL_gift_15 ?_
    exact r_iret C dL_gift_16 rfl (Nat.le_of_ble_eq_true rfl) (Nat.le_of_ble_eq_true rfl) (by first | exact hA bA | exact hS b1 bS | exact hn b1 b2)
set_option maxRecDepth 100000 in
set_option maxHeartbeats 4000000 in
theorem cL_legacy {g : ed_g} {l : Launch} (hl : l.stackTraces = false) {I : ed_I} {L : ed_L} {c v a : Int} (rc : -2147483648 ≤ c ∧ c ≤ 2147483647) (ra : -2147483648 ≤ a ∧ a ≤ 2147483647) (rv : -9223372036854775808 ≤ v ∧ v ≤ 9223372036854775807) (hc : I 0 7 = 0 ∨ I 0 7 = 1) (hk : ∀ j, 0 ≤ j → j ≤ 40 → I 7 j = 0 ∨ I 7 j = 1) (hfu : ∀ j, 0 ≤ j → j ≤ 40 → I 9 j = 0 ∨ I 9 j = 1) (hr : ∀ j, 0 ≤ j → j ≤ 40 → -1 ≤ I 17 j ∧ I 17 j ≤ 100000) (hr2 : ∀ j, 0 ≤ j → j ≤ 40 → -1 ≤ I 15 j ∧ I 15 j ≤ 100000) {post : ed_post} (hA : ¬ ((1 ≤ c ∧ c ≤ 40) ∧ (0 ≤ v ∧ v ≤ 1000000000000) ∧ (a = 0 ∨ ((1 ≤ a ∧ a ≤ 40) ∧ I 7 a ≠ 0 ∧ I 9 a ≠ 0))) → post (.inl (some (.int (iZ 1)))) Yw I L) (hS : ((1 ≤ c ∧ c ≤ 40) ∧ (0 ≤ v ∧ v ≤ 1000000000000) ∧ (a = 0 ∨ ((1 ≤ a ∧ a ≤ 40) ∧ I 7 a ≠ 0 ∧ I 9 a ≠ 0))) → ¬ (I 0 7 = 0 ∧ ∀ j, 1 ≤ j → j ≤ 40 → ¬ (j ≠ c ∧ I 15 j = 1 ∧ I 17 j = a)) → post (.inl (some (.int (iZ 2)))) Yw I L) (hn : ((1 ≤ c ∧ c ≤ 40) ∧ (0 ≤ v ∧ v ≤ 1000000000000) ∧ (a = 0 ∨ ((1 ≤ a ∧ a ≤ 40) ∧ I 7 a ≠ 0 ∧ I 9 a ≠ 0))) → (I 0 7 = 0 ∧ ∀ j, 1 ≤ j → j ≤ 40 → ¬ (j ≠ c ∧ I 15 j = 1 ∧ I 17 j = a)) → post (.inl (some (.int (iZ 0)))) Yw (upI (upI (upI (upI I 15 c 2) 17 c a) 18 c 1) 0 6 0) (upI L 16 c v)) : ed_Ct g l mL_legacy 5 7 42 [.ref 0, .int (iZ c), .long (lZ v), .int (iZ a)] Yw I L post := by
  refine ed_Ct.of hl rfl (Nat.le_of_ble_eq_true rfl) (fun x _ C => ?_)
  show Gd g x post _ _ _ _ _ _ _ _ 0 [(0, _), (1, _), (2, _), (4, _)] []
  refine r_ald C dL_legacy_0 rfl ?_
  refine r_ild C dL_legacy_1 rfl ?_
  refine r_lld C dL_legacy_2 rfl ?_
  refine r_ild C dL_legacy_3 rfl ?_
  refine r_callV C lzD_legacy dL_legacy_5 _ [_, _, _] [] rfl rfl rfl rfl rfl (Nat.le_of_ble_eq_true rfl) ⟨(Nat.le_of_ble_eq_true rfl), (Nat.le_of_ble_eq_true rfl), (Nat.le_of_ble_eq_true rfl), (Nat.le_of_ble_eq_true rfl)⟩ rfl (cD_legacy C.2.2.2.2.2.1 rc ra rv hc hk hfu hr hr2 (fun bA => ?_) (fun b1 bS => ?_) (fun b1 b2 => ?_))
  · refine gx_in2 C (ed_tk1 C rfl ⟨by decide, by decide⟩ (by decide) (tb2 22 rfl) (tb2 37 rfl)) dL_legacy_11 (by decide) (ls' := [(0, _), (1, _), (2, _), (4, _)]) rfl ?_
    refine r_ik C dL_legacy_13 ?_
    exact r_iret C dL_legacy_14 rfl (Nat.le_of_ble_eq_true rfl) (Nat.le_of_ble_eq_true rfl) (by first | exact hA bA | exact hS b1 bS | exact hn b1 b2)
  · refine gx_in2 C (ed_tk2 C rfl ⟨by decide, by decide⟩ ⟨by decide, by decide⟩ (by decide) (by decide) (tb2 22 rfl) (tb2 23 rfl) (tb2 106 rfl)) dL_legacy_15 (by decide) (ls' := [(0, _), (1, _), (2, _), (4, _)]) rfl ?_
    refine r_ik C dL_legacy_17 ?_
    exact r_iret C dL_legacy_18 rfl (Nat.le_of_ble_eq_true rfl) (Nat.le_of_ble_eq_true rfl) (by first | exact hA bA | exact hS b1 bS | exact hn b1 b2)
  · refine r_goto C dL_legacy_8 ?_
    refine r_ik C dL_legacy_19 ?_
    exact r_iret C dL_legacy_20 rfl (Nat.le_of_ble_eq_true rfl) (Nat.le_of_ble_eq_true rfl) (by first | exact hA bA | exact hS b1 bS | exact hn b1 b2)
set_option maxRecDepth 100000 in
set_option maxHeartbeats 4000000 in
theorem cL_annuity {g : ed_g} {l : Launch} (hl : l.stackTraces = false) {I : ed_I} {L : ed_L} {c y a : Int} (rc : -2147483648 ≤ c ∧ c ≤ 2147483647) (ra : -2147483648 ≤ a ∧ a ≤ 2147483647) (ry : -9223372036854775808 ≤ y ∧ y ≤ 9223372036854775807) (hc : I 0 7 = 0 ∨ I 0 7 = 1) {post : ed_post} (hA : ¬ ((1 ≤ c ∧ c ≤ 40) ∧ (0 ≤ y ∧ y ≤ 1000000000) ∧ 0 ≤ a ∧ a ≤ 99) → post (.inl (some (.int (iZ 1)))) Yw I L) (hS : ((1 ≤ c ∧ c ≤ 40) ∧ (0 ≤ y ∧ y ≤ 1000000000) ∧ 0 ≤ a ∧ a ≤ 99) → ¬ (I 0 7 = 0) → post (.inl (some (.int (iZ 2)))) Yw I L) (hn : ((1 ≤ c ∧ c ≤ 40) ∧ (0 ≤ y ∧ y ≤ 1000000000) ∧ 0 ≤ a ∧ a ≤ 99) → (I 0 7 = 0) → post (.inl (some (.int (iZ 0)))) Yw (upI (upI (upI (upI I 15 c 3) 17 c 0) 18 c 1) 0 6 0) (upI L 16 c (anV y a))) : ed_Ct g l mL_annuity 5 4 24 [.ref 0, .int (iZ c), .long (lZ y), .int (iZ a)] Yw I L post := by
  refine ed_Ct.of hl rfl (Nat.le_of_ble_eq_true rfl) (fun x _ C => ?_)
  show Gd g x post _ _ _ _ _ _ _ _ 0 [(0, _), (1, _), (2, _), (4, _)] []
  refine r_ald C dL_annuity_0 rfl ?_
  refine r_ild C dL_annuity_1 rfl ?_
  refine r_lld C dL_annuity_2 rfl ?_
  refine r_ild C dL_annuity_3 rfl ?_
  refine r_callV C lzD_annuity dL_annuity_5 _ [_, _, _] [] rfl rfl rfl rfl rfl (Nat.le_of_ble_eq_true rfl) ⟨(Nat.le_of_ble_eq_true rfl), (Nat.le_of_ble_eq_true rfl), (Nat.le_of_ble_eq_true rfl), (Nat.le_of_ble_eq_true rfl)⟩ rfl (cD_annuity C.2.2.2.2.2.1 rc ra ry hc (fun bA => ?_) (fun b1 bS => ?_) (fun b1 b2 => ?_))
  · refine gx_in2 C (ed_tk1 C rfl ⟨by decide, by decide⟩ (by decide) (tb2 22 rfl) (tb2 37 rfl)) dL_annuity_11 (by decide) (ls' := [(0, _), (1, _), (2, _), (4, _)]) rfl ?_
    refine r_ik C dL_annuity_13 ?_
    exact r_iret C dL_annuity_14 rfl (Nat.le_of_ble_eq_true rfl) (Nat.le_of_ble_eq_true rfl) (by first | exact hA bA | exact hS b1 bS | exact hn b1 b2)
  · refine gx_in2 C (ed_tk2 C rfl ⟨by decide, by decide⟩ ⟨by decide, by decide⟩ (by decide) (by decide) (tb2 22 rfl) (tb2 23 rfl) (tb2 106 rfl)) dL_annuity_15 (by decide) (ls' := [(0, _), (1, _), (2, _), (4, _)]) rfl ?_
    refine r_ik C dL_annuity_17 ?_
    exact r_iret C dL_annuity_18 rfl (Nat.le_of_ble_eq_true rfl) (Nat.le_of_ble_eq_true rfl) (by first | exact hA bA | exact hS b1 bS | exact hn b1 b2)
  · refine r_goto C dL_annuity_8 ?_
    refine r_ik C dL_annuity_19 ?_
    exact r_iret C dL_annuity_20 rfl (Nat.le_of_ble_eq_true rfl) (Nat.le_of_ble_eq_true rfl) (by first | exact hA bA | exact hS b1 bS | exact hn b1 b2)
set_option maxRecDepth 100000 in
set_option maxHeartbeats 4000000 in
theorem cL_residue {g : ed_g} {l : Launch} (hl : l.stackTraces = false) {I : ed_I} {L : ed_L} {c a : Int} (rc : -2147483648 ≤ c ∧ c ≤ 2147483647) (ra : -2147483648 ≤ a ∧ a ≤ 2147483647) (hc : I 0 7 = 0 ∨ I 0 7 = 1) {post : ed_post} (hA : ¬ ((1 ≤ c ∧ c ≤ 40) ∧ 1 ≤ a ∧ a ≤ 1000) → post (.inl (some (.int (iZ 1)))) Yw I L) (hS : ((1 ≤ c ∧ c ≤ 40) ∧ 1 ≤ a ∧ a ≤ 1000) → ¬ (I 0 7 = 0) → post (.inl (some (.int (iZ 2)))) Yw I L) (hn : ((1 ≤ c ∧ c ≤ 40) ∧ 1 ≤ a ∧ a ≤ 1000) → (I 0 7 = 0) → post (.inl (some (.int (iZ 0)))) Yw (upI (upI (upI (upI I 15 c 4) 17 c 0) 18 c 1) 0 6 0) (upI L 16 c a)) : ed_Ct g l mL_residue 5 3 18 [.ref 0, .int (iZ c), .int (iZ a)] Yw I L post := by
  refine ed_Ct.of hl rfl (Nat.le_of_ble_eq_true rfl) (fun x _ C => ?_)
  show Gd g x post _ _ _ _ _ _ _ _ 0 [(0, _), (1, _), (2, _)] []
  refine r_ald C dL_residue_0 rfl ?_
  refine r_ild C dL_residue_1 rfl ?_
  refine r_ild C dL_residue_2 rfl ?_
  refine r_callV C lzD_residue dL_residue_3 _ [_, _] [] rfl rfl rfl rfl rfl (Nat.le_of_ble_eq_true rfl) ⟨(Nat.le_of_ble_eq_true rfl), (Nat.le_of_ble_eq_true rfl), (Nat.le_of_ble_eq_true rfl), (Nat.le_of_ble_eq_true rfl)⟩ rfl (cD_residue C.2.2.2.2.2.1 rc ra hc (fun bA => ?_) (fun b1 bS => ?_) (fun b1 b2 => ?_))
  · refine gx_in2 C (ed_tk1 C rfl ⟨by decide, by decide⟩ (by decide) (tb2 22 rfl) (tb2 37 rfl)) dL_residue_9 (by decide) (ls' := [(0, _), (1, _), (2, _)]) rfl ?_
    refine r_ik C dL_residue_10 ?_
    exact r_iret C dL_residue_11 rfl (Nat.le_of_ble_eq_true rfl) (Nat.le_of_ble_eq_true rfl) (by first | exact hA bA | exact hS b1 bS | exact hn b1 b2)
  · refine gx_in2 C (ed_tk2 C rfl ⟨by decide, by decide⟩ ⟨by decide, by decide⟩ (by decide) (by decide) (tb2 22 rfl) (tb2 23 rfl) (tb2 106 rfl)) dL_residue_12 (by decide) (ls' := [(0, _), (1, _), (2, _)]) rfl ?_
    refine r_ik C dL_residue_13 ?_
    exact r_iret C dL_residue_14 rfl (Nat.le_of_ble_eq_true rfl) (Nat.le_of_ble_eq_true rfl) (by first | exact hA bA | exact hS b1 bS | exact hn b1 b2)
  · refine r_goto C dL_residue_6 ?_
    refine r_ik C dL_residue_15 ?_
    exact r_iret C dL_residue_16 rfl (Nat.le_of_ble_eq_true rfl) (Nat.le_of_ble_eq_true rfl) (by first | exact hA bA | exact hS b1 bS | exact hn b1 b2)
set_option maxRecDepth 100000 in
set_option maxHeartbeats 4000000 in
theorem cL_strike {g : ed_g} {l : Launch} (hl : l.stackTraces = false) {I : ed_I} {L : ed_L} {c : Int} (rc : -2147483648 ≤ c ∧ c ≤ 2147483647) (hc : I 0 7 = 0 ∨ I 0 7 = 1) {post : ed_post} (hA : ¬ (1 ≤ c ∧ c ≤ 40) → post (.inl (some (.int (iZ 1)))) Yw I L) (hS : (1 ≤ c ∧ c ≤ 40) → ¬ (I 0 7 = 0) → post (.inl (some (.int (iZ 2)))) Yw I L) (hn : (1 ≤ c ∧ c ≤ 40) → (I 0 7 = 0) → post (.inl (some (.int (iZ 0)))) Yw (upI (upI (upI (upI I 15 c 0) 17 c 0) 18 c 1) 0 6 0) (upI L 16 c 0)) : ed_Ct g l mL_strike 5 2 12 [.ref 0, .int (iZ c)] Yw I L post := by
  refine ed_Ct.of hl rfl (Nat.le_of_ble_eq_true rfl) (fun x _ C => ?_)
  show Gd g x post _ _ _ _ _ _ _ _ 0 [(0, _), (1, _)] []
  refine r_ald C dL_strike_0 rfl ?_
  refine r_ild C dL_strike_1 rfl ?_
  refine r_callV C lzD_strike dL_strike_2 _ [_] [] rfl rfl rfl rfl rfl (Nat.le_of_ble_eq_true rfl) ⟨(Nat.le_of_ble_eq_true rfl), (Nat.le_of_ble_eq_true rfl), (Nat.le_of_ble_eq_true rfl), (Nat.le_of_ble_eq_true rfl)⟩ rfl (cD_strike C.2.2.2.2.2.1 rc hc (fun bA => ?_) (fun b1 bS => ?_) (fun b1 b2 => ?_))
  · refine gx_in2 C (ed_tk1 C rfl ⟨by decide, by decide⟩ (by decide) (tb2 22 rfl) (tb2 37 rfl)) dL_strike_8 (by decide) (ls' := [(0, _), (1, _)]) rfl ?_
    refine r_ik C dL_strike_9 ?_
    exact r_iret C dL_strike_10 rfl (Nat.le_of_ble_eq_true rfl) (Nat.le_of_ble_eq_true rfl) (by first | exact hA bA | exact hS b1 bS | exact hn b1 b2)
  · refine gx_in2 C (ed_tk2 C rfl ⟨by decide, by decide⟩ ⟨by decide, by decide⟩ (by decide) (by decide) (tb2 22 rfl) (tb2 23 rfl) (tb2 106 rfl)) dL_strike_11 (by decide) (ls' := [(0, _), (1, _)]) rfl ?_
    refine r_ik C dL_strike_12 ?_
    exact r_iret C dL_strike_13 rfl (Nat.le_of_ble_eq_true rfl) (Nat.le_of_ble_eq_true rfl) (by first | exact hA bA | exact hS b1 bS | exact hn b1 b2)
  · refine r_goto C dL_strike_5 ?_
    refine r_ik C dL_strike_14 ?_
    exact r_iret C dL_strike_15 rfl (Nat.le_of_ble_eq_true rfl) (Nat.le_of_ble_eq_true rfl) (by first | exact hA bA | exact hS b1 bS | exact hn b1 b2)
set_option maxRecDepth 100000 in
set_option maxHeartbeats 4000000 in
theorem cL_taker {g : ed_g} {l : Launch} (hl : l.stackTraces = false) {I : ed_I} {L : ed_L} {c r p : Int} (rc : -2147483648 ≤ c ∧ c ≤ 2147483647) (rr : -2147483648 ≤ r ∧ r ≤ 2147483647) (rp : -2147483648 ≤ p ∧ p ≤ 2147483647) (hc : I 0 7 = 0 ∨ I 0 7 = 1) {post : ed_post} (hA : ¬ ((1 ≤ c ∧ c ≤ 40) ∧ (1 ≤ r ∧ r ≤ 4) ∧ 0 ≤ p ∧ p ≤ 40) → post (.inl (some (.int (iZ 1)))) Yw I L) (hS : ((1 ≤ c ∧ c ≤ 40) ∧ (1 ≤ r ∧ r ≤ 4) ∧ 0 ≤ p ∧ p ≤ 40) → ¬ (I 0 7 = 0) → post (.inl (some (.int (iZ 2)))) Yw I L) (hn : ((1 ≤ c ∧ c ≤ 40) ∧ (1 ≤ r ∧ r ≤ 4) ∧ 0 ≤ p ∧ p ≤ 40) → (I 0 7 = 0) → post (.inl (some (.int (iZ 0)))) Yw (upI (upI I (20 + c.toNat) r p) 0 6 0) L) : ed_Ct g l mL_taker 5 4 24 [.ref 0, .int (iZ c), .int (iZ r), .int (iZ p)] Yw I L post := by
  refine ed_Ct.of hl rfl (Nat.le_of_ble_eq_true rfl) (fun x _ C => ?_)
  show Gd g x post _ _ _ _ _ _ _ _ 0 [(0, _), (1, _), (2, _), (3, _)] []
  refine r_ald C dL_taker_0 rfl ?_
  refine r_ild C dL_taker_1 rfl ?_
  refine r_ild C dL_taker_2 rfl ?_
  refine r_ild C dL_taker_3 rfl ?_
  refine r_callV C lzD_taker dL_taker_4 _ [_, _, _] [] rfl rfl rfl rfl rfl (Nat.le_of_ble_eq_true rfl) ⟨(Nat.le_of_ble_eq_true rfl), (Nat.le_of_ble_eq_true rfl), (Nat.le_of_ble_eq_true rfl), (Nat.le_of_ble_eq_true rfl)⟩ rfl (cD_taker C.2.2.2.2.2.1 rc rr rp hc (fun bA => ?_) (fun b1 bS => ?_) (fun b1 b2 => ?_))
  · refine gx_in2 C (ed_tk1 C rfl ⟨by decide, by decide⟩ (by decide) (tb2 22 rfl) (tb2 37 rfl)) dL_taker_10 (by decide) (ls' := [(0, _), (1, _), (2, _), (3, _)]) rfl ?_
    refine r_ik C dL_taker_12 ?_
    exact r_iret C dL_taker_13 rfl (Nat.le_of_ble_eq_true rfl) (Nat.le_of_ble_eq_true rfl) (by first | exact hA bA | exact hS b1 bS | exact hn b1 b2)
  · refine gx_in2 C (ed_tk2 C rfl ⟨by decide, by decide⟩ ⟨by decide, by decide⟩ (by decide) (by decide) (tb2 22 rfl) (tb2 23 rfl) (tb2 106 rfl)) dL_taker_14 (by decide) (ls' := [(0, _), (1, _), (2, _), (3, _)]) rfl ?_
    refine r_ik C dL_taker_16 ?_
    exact r_iret C dL_taker_17 rfl (Nat.le_of_ble_eq_true rfl) (Nat.le_of_ble_eq_true rfl) (by first | exact hA bA | exact hS b1 bS | exact hn b1 b2)
  · refine r_goto C dL_taker_7 ?_
    refine r_ik C dL_taker_18 ?_
    exact r_iret C dL_taker_19 rfl (Nat.le_of_ble_eq_true rfl) (Nat.le_of_ble_eq_true rfl) (by first | exact hA bA | exact hS b1 bS | exact hn b1 b2)
set_option maxRecDepth 100000 in
set_option maxHeartbeats 4000000 in
theorem cL_charge {g : ed_g} {l : Launch} (hl : l.stackTraces = false) {I : ed_I} {L : ed_L} {c f : Int} (rc : -2147483648 ≤ c ∧ c ≤ 2147483647) (hf : f = 0 ∨ f = 1) (hc : I 0 7 = 0 ∨ I 0 7 = 1) (hr2 : ∀ j, 0 ≤ j → j ≤ 40 → -1 ≤ I 15 j ∧ I 15 j ≤ 100000) {post : ed_post} (hA : ¬ ((1 ≤ c ∧ c ≤ 40) ∧ I 15 c = 1) → post (.inl (some (.int (iZ 1)))) Yw I L) (hS : ((1 ≤ c ∧ c ≤ 40) ∧ I 15 c = 1) → ¬ (I 0 7 = 0) → post (.inl (some (.int (iZ 2)))) Yw I L) (hn : ((1 ≤ c ∧ c ≤ 40) ∧ I 15 c = 1) → (I 0 7 = 0) → post (.inl (some (.int (iZ 0)))) Yw (upI (upI I 18 c f) 0 6 0) L) : ed_Ct g l mL_charge 5 3 18 [.ref 0, .int (iZ c), .int (iZ f)] Yw I L post := by
  refine ed_Ct.of hl rfl (Nat.le_of_ble_eq_true rfl) (fun x _ C => ?_)
  show Gd g x post _ _ _ _ _ _ _ _ 0 [(0, _), (1, _), (2, _)] []
  refine r_ald C dL_charge_0 rfl ?_
  refine r_ild C dL_charge_1 rfl ?_
  refine r_ild C dL_charge_2 rfl ?_
  refine r_callV C lzD_charge dL_charge_3 _ [_, _] [] rfl rfl rfl rfl rfl (Nat.le_of_ble_eq_true rfl) ⟨(Nat.le_of_ble_eq_true rfl), (Nat.le_of_ble_eq_true rfl), (Nat.le_of_ble_eq_true rfl), (Nat.le_of_ble_eq_true rfl)⟩ rfl (cD_charge C.2.2.2.2.2.1 rc hf hc hr2 (fun bA => ?_) (fun b1 bS => ?_) (fun b1 b2 => ?_))
  · refine gx_in2 C (ed_tk1 C rfl ⟨by decide, by decide⟩ (by decide) (tb2 22 rfl) (tb2 37 rfl)) dL_charge_9 (by decide) (ls' := [(0, _), (1, _), (2, _)]) rfl ?_
    refine r_ik C dL_charge_10 ?_
    exact r_iret C dL_charge_11 rfl (Nat.le_of_ble_eq_true rfl) (Nat.le_of_ble_eq_true rfl) (by first | exact hA bA | exact hS b1 bS | exact hn b1 b2)
  · refine gx_in2 C (ed_tk2 C rfl ⟨by decide, by decide⟩ ⟨by decide, by decide⟩ (by decide) (by decide) (tb2 22 rfl) (tb2 23 rfl) (tb2 106 rfl)) dL_charge_12 (by decide) (ls' := [(0, _), (1, _), (2, _)]) rfl ?_
    refine r_ik C dL_charge_13 ?_
    exact r_iret C dL_charge_14 rfl (Nat.le_of_ble_eq_true rfl) (Nat.le_of_ble_eq_true rfl) (by first | exact hA bA | exact hS b1 bS | exact hn b1 b2)
  · refine r_goto C dL_charge_6 ?_
    refine r_ik C dL_charge_15 ?_
    exact r_iret C dL_charge_16 rfl (Nat.le_of_ble_eq_true rfl) (Nat.le_of_ble_eq_true rfl) (by first | exact hA bA | exact hS b1 bS | exact hn b1 b2)
set_option maxRecDepth 100000 in
set_option maxHeartbeats 4000000 in
theorem cL_debt {g : ed_g} {l : Launch} (hl : l.stackTraces = false) {I : ed_I} {L : ed_L} {c v a : Int} (rc : -2147483648 ≤ c ∧ c ≤ 2147483647) (ra : -2147483648 ≤ a ∧ a ≤ 2147483647) (rv : -9223372036854775808 ≤ v ∧ v ≤ 9223372036854775807) (hc : I 0 7 = 0 ∨ I 0 7 = 1) (hk : ∀ j, 0 ≤ j → j ≤ 40 → I 7 j = 0 ∨ I 7 j = 1) {post : ed_post} (hA : ¬ ((1 ≤ c ∧ c ≤ 40) ∧ (0 ≤ v ∧ v ≤ 1000000000000) ∧ (a = 0 ∨ ((1 ≤ a ∧ a ≤ 40) ∧ I 7 a ≠ 0))) → post (.inl (some (.int (iZ 1)))) Yw I L) (hS : ((1 ≤ c ∧ c ≤ 40) ∧ (0 ≤ v ∧ v ≤ 1000000000000) ∧ (a = 0 ∨ ((1 ≤ a ∧ a ≤ 40) ∧ I 7 a ≠ 0))) → ¬ (I 0 7 = 0) → post (.inl (some (.int (iZ 2)))) Yw I L) (hn : ((1 ≤ c ∧ c ≤ 40) ∧ (0 ≤ v ∧ v ≤ 1000000000000) ∧ (a = 0 ∨ ((1 ≤ a ∧ a ≤ 40) ∧ I 7 a ≠ 0))) → (I 0 7 = 0) → post (.inl (some (.int (iZ 0)))) Yw (upI (upI I 71 c a) 0 6 0) (upI L 70 c v)) : ed_Ct g l mL_debt 5 5 30 [.ref 0, .int (iZ c), .long (lZ v), .int (iZ a)] Yw I L post := by
  refine ed_Ct.of hl rfl (Nat.le_of_ble_eq_true rfl) (fun x _ C => ?_)
  show Gd g x post _ _ _ _ _ _ _ _ 0 [(0, _), (1, _), (2, _), (4, _)] []
  refine r_ald C dL_debt_0 rfl ?_
  refine r_ild C dL_debt_1 rfl ?_
  refine r_lld C dL_debt_2 rfl ?_
  refine r_ild C dL_debt_3 rfl ?_
  refine r_callV C lzD_debt dL_debt_5 _ [_, _, _] [] rfl rfl rfl rfl rfl (Nat.le_of_ble_eq_true rfl) ⟨(Nat.le_of_ble_eq_true rfl), (Nat.le_of_ble_eq_true rfl), (Nat.le_of_ble_eq_true rfl), (Nat.le_of_ble_eq_true rfl)⟩ rfl (cD_debt C.2.2.2.2.2.1 rc ra rv hc hk (fun bA => ?_) (fun b1 bS => ?_) (fun b1 b2 => ?_))
  · refine gx_in2 C (ed_tk1 C rfl ⟨by decide, by decide⟩ (by decide) (tb2 22 rfl) (tb2 37 rfl)) dL_debt_11 (by decide) (ls' := [(0, _), (1, _), (2, _), (4, _)]) rfl ?_
    refine r_ik C dL_debt_13 ?_
    exact r_iret C dL_debt_14 rfl (Nat.le_of_ble_eq_true rfl) (Nat.le_of_ble_eq_true rfl) (by first | exact hA bA | exact hS b1 bS | exact hn b1 b2)
  · refine gx_in2 C (ed_tk2 C rfl ⟨by decide, by decide⟩ ⟨by decide, by decide⟩ (by decide) (by decide) (tb2 22 rfl) (tb2 23 rfl) (tb2 106 rfl)) dL_debt_15 (by decide) (ls' := [(0, _), (1, _), (2, _), (4, _)]) rfl ?_
    refine r_ik C dL_debt_17 ?_
    exact r_iret C dL_debt_18 rfl (Nat.le_of_ble_eq_true rfl) (Nat.le_of_ble_eq_true rfl) (by first | exact hA bA | exact hS b1 bS | exact hn b1 b2)
  · refine r_goto C dL_debt_8 ?_
    refine r_ik C dL_debt_19 ?_
    exact r_iret C dL_debt_20 rfl (Nat.le_of_ble_eq_true rfl) (Nat.le_of_ble_eq_true rfl) (by first | exact hA bA | exact hS b1 bS | exact hn b1 b2)
set_option maxRecDepth 100000 in
set_option maxHeartbeats 4000000 in
theorem cL_assetTo {g : ed_g} {l : Launch} (hl : l.stackTraces = false) {I : ed_I} {L : ed_L} {a : Int} (ra : -2147483648 ≤ a ∧ a ≤ 2147483647) (hs : I 0 5 = 0 ∨ I 0 5 = 1) (hri : ∀ j, 0 ≤ j → j ≤ 40 → -1 ≤ I 13 j ∧ I 13 j ≤ 100000) {post : ed_post} (hA : ¬ (1 ≤ a ∧ a ≤ 40) → post (.inl (some (.int (iZ 1)))) Yw I L) (hS : (1 ≤ a ∧ a ≤ 40) → ¬ (I 0 5 ≠ 0) → post (.inl (some (.int (iZ 2)))) Yw I L) (hn : (1 ≤ a ∧ a ≤ 40) → (I 0 5 ≠ 0) → post (.inl (some (.int (iZ 0)))) Yw I (upI L 112 0 (I 13 a))) : ed_Ct g l mL_assetTo 5 2 12 [.ref 0, .int (iZ a), .ref 112] Yw I L post := by
  refine ed_Ct.of hl rfl (Nat.le_of_ble_eq_true rfl) (fun x _ C => ?_)
  show Gd g x post _ _ _ _ _ _ _ _ 0 [(0, _), (1, _), (2, _)] []
  have hr9 := fun (h : 0 ≤ a ∧ a ≤ 40) => hri a h.1 h.2
  refine r_ald C dL_assetTo_0 rfl ?_
  refine r_ik C dL_assetTo_1 ?_
  refine r_ald C dL_assetTo_2 rfl ?_
  refine r_ild C dL_assetTo_3 rfl ?_
  refine r_callV C lzD_assetTo dL_assetTo_4 _ [_] [_, _] rfl rfl rfl rfl rfl (Nat.le_of_ble_eq_true rfl) ⟨(Nat.le_of_ble_eq_true rfl), (Nat.le_of_ble_eq_true rfl), (Nat.le_of_ble_eq_true rfl), (Nat.le_of_ble_eq_true rfl)⟩ rfl (cD_assetTo C.2.2.2.2.2.1 ra hs (fun bA => ?_) (fun b1 bS => ?_) (fun b1 b2 => ?_))
  · refine gx_in2 C (ed_tk1 C rfl ⟨by decide, by decide⟩ (by decide) (tb2 22 rfl) (tb2 37 rfl)) dL_assetTo_12 (by decide) (ls' := [(0, _), (1, _), (2, _)]) rfl ?_
    refine r_ik C dL_assetTo_13 ?_
    exact r_iret C dL_assetTo_14 rfl (Nat.le_of_ble_eq_true rfl) (Nat.le_of_ble_eq_true rfl) (by first | exact hA bA | exact hS b1 bS | exact hn b1 b2)
  · refine gx_in2 C (ed_tk2 C rfl ⟨by decide, by decide⟩ ⟨by decide, by decide⟩ (by decide) (by decide) (tb2 22 rfl) (tb2 23 rfl) (tb2 106 rfl)) dL_assetTo_15 (by decide) (ls' := [(0, _), (1, _), (2, _)]) rfl ?_
    refine r_ik C dL_assetTo_16 ?_
    exact r_iret C dL_assetTo_17 rfl (Nat.le_of_ble_eq_true rfl) (Nat.le_of_ble_eq_true rfl) (by first | exact hA bA | exact hS b1 bS | exact hn b1 b2)
  · refine r_i2l C dL_assetTo_7 (by omega) ?_
    refine r_last C dL_assetTo_8 rfl rfl ⟨by omega, by omega⟩ (by decide) ?_
    refine r_goto C dL_assetTo_9 ?_
    refine r_ik C dL_assetTo_18 ?_
    exact r_iret C dL_assetTo_19 rfl (Nat.le_of_ble_eq_true rfl) (Nat.le_of_ble_eq_true rfl) (by first | exact hA bA | exact hS b1 bS | exact hn b1 b2)
set_option maxRecDepth 100000 in
set_option maxHeartbeats 4000000 in
theorem cL_clauseState {g : ed_g} {l : Launch} (hl : l.stackTraces = false) {I : ed_I} {L : ed_L} {a : Int} (ra : -2147483648 ≤ a ∧ a ≤ 2147483647) (hs : I 0 5 = 0 ∨ I 0 5 = 1) (hri : ∀ j, 1 ≤ j → j ≤ 40 → -1 ≤ I 61 j ∧ I 61 j ≤ 100000) {post : ed_post} (hA : ¬ (1 ≤ a ∧ a ≤ 40) → post (.inl (some (.int (iZ 1)))) Yw I L) (hS : (1 ≤ a ∧ a ≤ 40) → ¬ (I 0 5 ≠ 0) → post (.inl (some (.int (iZ 2)))) Yw I L) (hn : (1 ≤ a ∧ a ≤ 40) → (I 0 5 ≠ 0) → post (.inl (some (.int (iZ 0)))) Yw I (upI L 112 0 (I 61 a))) : ed_Ct g l mL_clauseState 5 2 12 [.ref 0, .int (iZ a), .ref 112] Yw I L post := by
  refine ed_Ct.of hl rfl (Nat.le_of_ble_eq_true rfl) (fun x _ C => ?_)
  show Gd g x post _ _ _ _ _ _ _ _ 0 [(0, _), (1, _), (2, _)] []
  have hr9 := fun (h : 1 ≤ a ∧ a ≤ 40) => hri a h.1 h.2
  refine r_ald C dL_clauseState_0 rfl ?_
  refine r_ik C dL_clauseState_1 ?_
  refine r_ald C dL_clauseState_2 rfl ?_
  refine r_ild C dL_clauseState_3 rfl ?_
  refine r_callV C lzD_clauseState dL_clauseState_4 _ [_] [_, _] rfl rfl rfl rfl rfl (Nat.le_of_ble_eq_true rfl) ⟨(Nat.le_of_ble_eq_true rfl), (Nat.le_of_ble_eq_true rfl), (Nat.le_of_ble_eq_true rfl), (Nat.le_of_ble_eq_true rfl)⟩ rfl (cD_clauseState C.2.2.2.2.2.1 ra hs (fun bA => ?_) (fun b1 bS => ?_) (fun b1 b2 => ?_))
  · refine gx_in2 C (ed_tk1 C rfl ⟨by decide, by decide⟩ (by decide) (tb2 22 rfl) (tb2 37 rfl)) dL_clauseState_12 (by decide) (ls' := [(0, _), (1, _), (2, _)]) rfl ?_
    refine r_ik C dL_clauseState_13 ?_
    exact r_iret C dL_clauseState_14 rfl (Nat.le_of_ble_eq_true rfl) (Nat.le_of_ble_eq_true rfl) (by first | exact hA bA | exact hS b1 bS | exact hn b1 b2)
  · refine gx_in2 C (ed_tk2 C rfl ⟨by decide, by decide⟩ ⟨by decide, by decide⟩ (by decide) (by decide) (tb2 22 rfl) (tb2 23 rfl) (tb2 106 rfl)) dL_clauseState_15 (by decide) (ls' := [(0, _), (1, _), (2, _)]) rfl ?_
    refine r_ik C dL_clauseState_16 ?_
    exact r_iret C dL_clauseState_17 rfl (Nat.le_of_ble_eq_true rfl) (Nat.le_of_ble_eq_true rfl) (by first | exact hA bA | exact hS b1 bS | exact hn b1 b2)
  · refine r_i2l C dL_clauseState_7 (by omega) ?_
    refine r_last C dL_clauseState_8 rfl rfl ⟨by omega, by omega⟩ (by decide) ?_
    refine r_goto C dL_clauseState_9 ?_
    refine r_ik C dL_clauseState_18 ?_
    exact r_iret C dL_clauseState_19 rfl (Nat.le_of_ble_eq_true rfl) (Nat.le_of_ble_eq_true rfl) (by first | exact hA bA | exact hS b1 bS | exact hn b1 b2)
set_option maxRecDepth 100000 in
set_option maxHeartbeats 4000000 in
theorem cL_paid {g : ed_g} {l : Launch} (hl : l.stackTraces = false) {I : ed_I} {L : ed_L} {a : Int} (ra : -2147483648 ≤ a ∧ a ≤ 2147483647) (hs : I 0 5 = 0 ∨ I 0 5 = 1) {post : ed_post} (hA : ¬ (1 ≤ a ∧ a ≤ 40) → post (.inl (some (.int (iZ 1)))) Yw I L) (hS : (1 ≤ a ∧ a ≤ 40) → ¬ (I 0 5 ≠ 0) → post (.inl (some (.int (iZ 2)))) Yw I L) (hn : (1 ≤ a ∧ a ≤ 40) → (I 0 5 ≠ 0) → post (.inl (some (.int (iZ 0)))) Yw I (upI L 112 0 (L 73 a))) : ed_Ct g l mL_paid 5 2 12 [.ref 0, .int (iZ a), .ref 112] Yw I L post := by
  refine ed_Ct.of hl rfl (Nat.le_of_ble_eq_true rfl) (fun x _ C => ?_)
  show Gd g x post _ _ _ _ _ _ _ _ 0 [(0, _), (1, _), (2, _)] []
  refine r_ald C dL_paid_0 rfl ?_
  refine r_ik C dL_paid_1 ?_
  refine r_ald C dL_paid_2 rfl ?_
  refine r_ild C dL_paid_3 rfl ?_
  refine r_callV C lzD_paid dL_paid_4 _ [_] [_, _] rfl rfl rfl rfl rfl (Nat.le_of_ble_eq_true rfl) ⟨(Nat.le_of_ble_eq_true rfl), (Nat.le_of_ble_eq_true rfl), (Nat.le_of_ble_eq_true rfl), (Nat.le_of_ble_eq_true rfl)⟩ rfl (cD_paid C.2.2.2.2.2.1 ra hs (fun bA => ?_) (fun b1 bS => ?_) (fun b1 b2 => ?_))
  · refine gx_in2 C (ed_tk1 C rfl ⟨by decide, by decide⟩ (by decide) (tb2 22 rfl) (tb2 37 rfl)) dL_paid_11 (by decide) (ls' := [(0, _), (1, _), (2, _)]) rfl ?_
    refine r_ik C dL_paid_12 ?_
    exact r_iret C dL_paid_13 rfl (Nat.le_of_ble_eq_true rfl) (Nat.le_of_ble_eq_true rfl) (by first | exact hA bA | exact hS b1 bS | exact hn b1 b2)
  · refine gx_in2 C (ed_tk2 C rfl ⟨by decide, by decide⟩ ⟨by decide, by decide⟩ (by decide) (by decide) (tb2 22 rfl) (tb2 23 rfl) (tb2 106 rfl)) dL_paid_14 (by decide) (ls' := [(0, _), (1, _), (2, _)]) rfl ?_
    refine r_ik C dL_paid_15 ?_
    exact r_iret C dL_paid_16 rfl (Nat.le_of_ble_eq_true rfl) (Nat.le_of_ble_eq_true rfl) (by first | exact hA bA | exact hS b1 bS | exact hn b1 b2)
  · refine r_last C dL_paid_7 rfl rfl ⟨by omega, by omega⟩ (by decide) ?_
    refine r_goto C dL_paid_8 ?_
    refine r_ik C dL_paid_17 ?_
    exact r_iret C dL_paid_18 rfl (Nat.le_of_ble_eq_true rfl) (Nat.le_of_ble_eq_true rfl) (by first | exact hA bA | exact hS b1 bS | exact hn b1 b2)
set_option maxRecDepth 100000 in
set_option maxHeartbeats 4000000 in
theorem cL_sum {g : ed_g} {l : Launch} (hl : l.stackTraces = false) {I : ed_I} {L : ed_L} {a : Int} (ra : -2147483648 ≤ a ∧ a ≤ 2147483647) (hs : I 0 5 = 0 ∨ I 0 5 = 1) {post : ed_post} (hA : ¬ (0 ≤ a ∧ a ≤ 7) → post (.inl (some (.int (iZ 1)))) Yw I L) (hS : (0 ≤ a ∧ a ≤ 7) → ¬ (I 0 5 ≠ 0) → post (.inl (some (.int (iZ 2)))) Yw I L) (hn : (0 ≤ a ∧ a ≤ 7) → (I 0 5 ≠ 0) → post (.inl (some (.int (iZ 0)))) Yw I (upI L 112 0 (L 78 a))) : ed_Ct g l mL_sum 5 2 12 [.ref 0, .int (iZ a), .ref 112] Yw I L post := by
  refine ed_Ct.of hl rfl (Nat.le_of_ble_eq_true rfl) (fun x _ C => ?_)
  show Gd g x post _ _ _ _ _ _ _ _ 0 [(0, _), (1, _), (2, _)] []
  refine r_ald C dL_sum_0 rfl ?_
  refine r_ik C dL_sum_1 ?_
  refine r_ald C dL_sum_2 rfl ?_
  refine r_ild C dL_sum_3 rfl ?_
  refine r_callV C lzD_sum dL_sum_4 _ [_] [_, _] rfl rfl rfl rfl rfl (Nat.le_of_ble_eq_true rfl) ⟨(Nat.le_of_ble_eq_true rfl), (Nat.le_of_ble_eq_true rfl), (Nat.le_of_ble_eq_true rfl), (Nat.le_of_ble_eq_true rfl)⟩ rfl (cD_sum C.2.2.2.2.2.1 ra hs (fun bA => ?_) (fun b1 bS => ?_) (fun b1 b2 => ?_))
  · refine gx_in2 C (ed_tk1 C rfl ⟨by decide, by decide⟩ (by decide) (tb2 22 rfl) (tb2 37 rfl)) dL_sum_11 (by decide) (ls' := [(0, _), (1, _), (2, _)]) rfl ?_
    refine r_ik C dL_sum_12 ?_
    exact r_iret C dL_sum_13 rfl (Nat.le_of_ble_eq_true rfl) (Nat.le_of_ble_eq_true rfl) (by first | exact hA bA | exact hS b1 bS | exact hn b1 b2)
  · refine gx_in2 C (ed_tk2 C rfl ⟨by decide, by decide⟩ ⟨by decide, by decide⟩ (by decide) (by decide) (tb2 22 rfl) (tb2 23 rfl) (tb2 106 rfl)) dL_sum_14 (by decide) (ls' := [(0, _), (1, _), (2, _)]) rfl ?_
    refine r_ik C dL_sum_15 ?_
    exact r_iret C dL_sum_16 rfl (Nat.le_of_ble_eq_true rfl) (Nat.le_of_ble_eq_true rfl) (by first | exact hA bA | exact hS b1 bS | exact hn b1 b2)
  · refine r_last C dL_sum_7 rfl rfl ⟨by omega, by omega⟩ (by decide) ?_
    refine r_goto C dL_sum_8 ?_
    refine r_ik C dL_sum_17 ?_
    exact r_iret C dL_sum_18 rfl (Nat.le_of_ble_eq_true rfl) (Nat.le_of_ble_eq_true rfl) (by first | exact hA bA | exact hS b1 bS | exact hn b1 b2)
set_option maxRecDepth 100000 in
set_option maxHeartbeats 4000000 in
theorem cL_gets {g : ed_g} {l : Launch} (hl : l.stackTraces = false) {I : ed_I} {L : ed_L} {p w : Int} (rp : -2147483648 ≤ p ∧ p ≤ 2147483647) (rw : -2147483648 ≤ w ∧ w ≤ 2147483647) (hs : I 0 5 = 0 ∨ I 0 5 = 1) {post : ed_post} (hA : ¬ ((0 ≤ p ∧ p ≤ 40) ∧ 0 ≤ w ∧ w ≤ 2) → post (.inl (some (.int (iZ 1)))) Yw I L) (hS : ((0 ≤ p ∧ p ≤ 40) ∧ 0 ≤ w ∧ w ≤ 2) → ¬ (I 0 5 ≠ 0) → post (.inl (some (.int (iZ 2)))) Yw I L) (hn : ((0 ≤ p ∧ p ≤ 40) ∧ 0 ≤ w ∧ w ≤ 2) → (I 0 5 ≠ 0) → post (.inl (some (.int (iZ 0)))) Yw I (upI L 112 0 (if w = 0 then L 3 p else if w = 1 then L 4 p else L 5 p))) : ed_Ct g l mL_gets 5 3 18 [.ref 0, .int (iZ p), .int (iZ w), .ref 112] Yw I L post := by
  refine ed_Ct.of hl rfl (Nat.le_of_ble_eq_true rfl) (fun x _ C => ?_)
  show Gd g x post _ _ _ _ _ _ _ _ 0 [(0, _), (1, _), (2, _), (3, _)] []
  refine r_ald C dL_gets_0 rfl ?_
  refine r_ik C dL_gets_1 ?_
  refine r_ald C dL_gets_2 rfl ?_
  refine r_ild C dL_gets_3 rfl ?_
  refine r_ild C dL_gets_4 rfl ?_
  refine r_callV C lzD_gets dL_gets_5 _ [_, _] [_, _] rfl rfl rfl rfl rfl (Nat.le_of_ble_eq_true rfl) ⟨(Nat.le_of_ble_eq_true rfl), (Nat.le_of_ble_eq_true rfl), (Nat.le_of_ble_eq_true rfl), (Nat.le_of_ble_eq_true rfl)⟩ rfl (cD_gets C.2.2.2.2.2.1 rp rw hs (fun bA => ?_) (fun b1 bS => ?_) (fun b1 b2 => ?_))
  · refine gx_in2 C (ed_tk1 C rfl ⟨by decide, by decide⟩ (by decide) (tb2 22 rfl) (tb2 37 rfl)) dL_gets_12 (by decide) (ls' := [(0, _), (1, _), (2, _), (3, _)]) rfl ?_
    refine r_ik C dL_gets_14 ?_
    exact r_iret C dL_gets_15 rfl (Nat.le_of_ble_eq_true rfl) (Nat.le_of_ble_eq_true rfl) (by first | exact hA bA | exact hS b1 bS | exact hn b1 b2)
  · refine gx_in2 C (ed_tk2 C rfl ⟨by decide, by decide⟩ ⟨by decide, by decide⟩ (by decide) (by decide) (tb2 22 rfl) (tb2 23 rfl) (tb2 106 rfl)) dL_gets_16 (by decide) (ls' := [(0, _), (1, _), (2, _), (3, _)]) rfl ?_
    refine r_ik C dL_gets_18 ?_
    exact r_iret C dL_gets_19 rfl (Nat.le_of_ble_eq_true rfl) (Nat.le_of_ble_eq_true rfl) (by first | exact hA bA | exact hS b1 bS | exact hn b1 b2)
  · refine r_last C dL_gets_8 rfl rfl ⟨by omega, by omega⟩ (by decide) ?_
    refine r_goto C dL_gets_9 ?_
    refine r_ik C dL_gets_20 ?_
    exact r_iret C dL_gets_21 rfl (Nat.le_of_ble_eq_true rfl) (Nat.le_of_ble_eq_true rfl) (by first | exact hA bA | exact hS b1 bS | exact hn b1 b2)
set_option maxRecDepth 100000 in
set_option maxHeartbeats 4000000 in
theorem cL_told {g : ed_g} {l : Launch} (hl : l.stackTraces = false) {I : ed_I} {L : ed_L} {c w : Int} (rc : -2147483648 ≤ c ∧ c ≤ 2147483647) (rw : -2147483648 ≤ w ∧ w ≤ 2147483647) (hs : I 0 5 = 0 ∨ I 0 5 = 1) (hg : ∀ j, 1 ≤ j → j ≤ 40 → -1 ≤ I 62 j ∧ I 62 j ≤ 100000) {post : ed_post} (hA : ¬ ((1 ≤ c ∧ c ≤ 40) ∧ 0 ≤ w ∧ w ≤ 4) → post (.inl (some (.int (iZ 1)))) Yw I L) (hS : ((1 ≤ c ∧ c ≤ 40) ∧ 0 ≤ w ∧ w ≤ 4) → ¬ (I 0 5 ≠ 0) → post (.inl (some (.int (iZ 2)))) Yw I L) (hn : ((1 ≤ c ∧ c ≤ 40) ∧ 0 ≤ w ∧ w ≤ 4) → (I 0 5 ≠ 0) → post (.inl (some (.int (iZ 0)))) Yw I (upI L 112 0 (if w = 0 then L 63 c + L 64 c + L 65 c else if w = 1 then L 67 c else if w = 2 then L 64 c else if w = 3 then L 68 c else I 62 c))) : ed_Ct g l mL_told 5 3 18 [.ref 0, .int (iZ c), .int (iZ w), .ref 112] Yw I L post := by
  refine ed_Ct.of hl rfl (Nat.le_of_ble_eq_true rfl) (fun x _ C => ?_)
  show Gd g x post _ _ _ _ _ _ _ _ 0 [(0, _), (1, _), (2, _), (3, _)] []
  refine r_ald C dL_told_0 rfl ?_
  refine r_ik C dL_told_1 ?_
  refine r_ald C dL_told_2 rfl ?_
  refine r_ild C dL_told_3 rfl ?_
  refine r_ild C dL_told_4 rfl ?_
  refine r_callV C lzD_told dL_told_5 _ [_, _] [_, _] rfl rfl rfl rfl rfl (Nat.le_of_ble_eq_true rfl) ⟨(Nat.le_of_ble_eq_true rfl), (Nat.le_of_ble_eq_true rfl), (Nat.le_of_ble_eq_true rfl), (Nat.le_of_ble_eq_true rfl)⟩ rfl (cD_told C.2.2.2.2.2.1 rc rw hs hg (fun bA => ?_) (fun b1 bS => ?_) (fun b1 b2 => ?_))
  · refine gx_in2 C (ed_tk1 C rfl ⟨by decide, by decide⟩ (by decide) (tb2 22 rfl) (tb2 37 rfl)) dL_told_12 (by decide) (ls' := [(0, _), (1, _), (2, _), (3, _)]) rfl ?_
    refine r_ik C dL_told_14 ?_
    exact r_iret C dL_told_15 rfl (Nat.le_of_ble_eq_true rfl) (Nat.le_of_ble_eq_true rfl) (by first | exact hA bA | exact hS b1 bS | exact hn b1 b2)
  · refine gx_in2 C (ed_tk2 C rfl ⟨by decide, by decide⟩ ⟨by decide, by decide⟩ (by decide) (by decide) (tb2 22 rfl) (tb2 23 rfl) (tb2 106 rfl)) dL_told_16 (by decide) (ls' := [(0, _), (1, _), (2, _), (3, _)]) rfl ?_
    refine r_ik C dL_told_18 ?_
    exact r_iret C dL_told_19 rfl (Nat.le_of_ble_eq_true rfl) (Nat.le_of_ble_eq_true rfl) (by first | exact hA bA | exact hS b1 bS | exact hn b1 b2)
  · refine r_last C dL_told_8 rfl rfl ⟨by omega, by omega⟩ (by decide) ?_
    refine r_goto C dL_told_9 ?_
    refine r_ik C dL_told_20 ?_
    exact r_iret C dL_told_21 rfl (Nat.le_of_ble_eq_true rfl) (Nat.le_of_ble_eq_true rfl) (by first | exact hA bA | exact hS b1 bS | exact hn b1 b2)
set_option maxRecDepth 100000 in
set_option maxHeartbeats 4000000 in
theorem cL_close {g : ed_g} {l : Launch} (hl : l.stackTraces = false) {I : ed_I} {L : ed_L}  (hc : I 0 7 = 0 ∨ I 0 7 = 1) (hs : I 0 6 = 0 ∨ I 0 6 = 1) {post : ed_post} (hS : ¬ (I 0 7 = 0 ∧ I 0 6 ≠ 0) → post (.inl (some (.int (iZ 1)))) Yw I L) (hn : (I 0 7 = 0 ∧ I 0 6 ≠ 0) → post (.inl (some (.int (iZ 0)))) Yw (upI I 0 7 1) L) : ed_Ct g l mL_close 5 2 12 [.ref 0] Yw I L post := by
  refine ed_Ct.of hl rfl (Nat.le_of_ble_eq_true rfl) (fun x _ C => ?_)
  show Gd g x post _ _ _ _ _ _ _ _ 0 [(0, _)] []
  refine r_ald C dL_close_0 rfl ?_
  refine r_callV C lzD_close dL_close_1 _ [] [] rfl rfl rfl rfl rfl (Nat.le_of_ble_eq_true rfl) ⟨(Nat.le_of_ble_eq_true rfl), (Nat.le_of_ble_eq_true rfl), (Nat.le_of_ble_eq_true rfl), (Nat.le_of_ble_eq_true rfl)⟩ rfl (cD_close C.2.2.2.2.2.1 hc hs (fun bS => ?_) (fun b2 => ?_))
  · refine gx_in2 C (ed_tk1 C rfl ⟨by decide, by decide⟩ (by decide) (tb2 23 rfl) (tb2 106 rfl)) dL_close_7 (by decide) (ls' := [(0, _)]) rfl ?_
    refine r_ik C dL_close_8 ?_
    exact r_iret C dL_close_9 rfl (Nat.le_of_ble_eq_true rfl) (Nat.le_of_ble_eq_true rfl) (by first | exact hS bS | exact hn b2)
  · refine r_goto C dL_close_4 ?_
    refine r_ik C dL_close_10 ?_
    exact r_iret C dL_close_11 rfl (Nat.le_of_ble_eq_true rfl) (Nat.le_of_ble_eq_true rfl) (by first | exact hS bS | exact hn b2)
set_option maxRecDepth 100000 in
set_option maxHeartbeats 4000000 in
theorem cL_worth {g : ed_g} {l : Launch} (hl : l.stackTraces = false) {I : ed_I} {L : ed_L} {y a : Int} (ra : -2147483648 ≤ a ∧ a ≤ 2147483647) (ry : -9223372036854775808 ≤ y ∧ y ≤ 9223372036854775807) {post : ed_post} (hA : ¬ ((0 ≤ y ∧ y ≤ 1000000000) ∧ 0 ≤ a ∧ a ≤ 99) → post (.inl (some (.int (iZ 1)))) Yw I L) (hn : ((0 ≤ y ∧ y ≤ 1000000000) ∧ 0 ≤ a ∧ a ≤ 99) → post (.inl (some (.int (iZ 0)))) Yw I (upI L 112 0 (anV y a))) : ed_Ct g l mL_worth 5 2 12 [.ref 0, .long (lZ y), .int (iZ a), .ref 112] Yw I L post := by
  refine ed_Ct.of hl rfl (Nat.le_of_ble_eq_true rfl) (fun x _ C => ?_)
  show Gd g x post _ _ _ _ _ _ _ _ 0 [(0, _), (1, _), (3, _), (4, _)] []
  refine r_ald C dL_worth_0 rfl ?_
  refine r_ik C dL_worth_2 ?_
  refine r_ald C dL_worth_3 rfl ?_
  refine r_lld C dL_worth_4 rfl ?_
  refine r_ild C dL_worth_5 rfl ?_
  refine r_callV C lzD_worth dL_worth_6 _ [_, _] [_, _] rfl rfl rfl rfl rfl (Nat.le_of_ble_eq_true rfl) ⟨(Nat.le_of_ble_eq_true rfl), (Nat.le_of_ble_eq_true rfl), (Nat.le_of_ble_eq_true rfl), (Nat.le_of_ble_eq_true rfl)⟩ rfl (cD_worth C.2.2.2.2.2.1 ra ry (fun bA => ?_) (fun b1 => ?_))
  · refine gx_in2 C (ed_tk1 C rfl ⟨by decide, by decide⟩ (by decide) (tb2 22 rfl) (tb2 37 rfl)) dL_worth_13 (by decide) (ls' := [(0, _), (1, _), (3, _), (4, _)]) rfl ?_
    refine r_ik C dL_worth_15 ?_
    exact r_iret C dL_worth_16 rfl (Nat.le_of_ble_eq_true rfl) (Nat.le_of_ble_eq_true rfl) (by first | exact hA bA | exact hn b1)
  · refine r_last C dL_worth_9 rfl rfl ⟨by omega, by omega⟩ (by decide) ?_
    refine r_goto C dL_worth_10 ?_
    refine r_ik C dL_worth_17 ?_
    exact r_iret C dL_worth_18 rfl (Nat.le_of_ble_eq_true rfl) (Nat.le_of_ble_eq_true rfl) (by first | exact hA bA | exact hn b1)
set_option maxRecDepth 100000 in
set_option maxHeartbeats 4000000 in
theorem cL_settle0 {g : ed_g} {l : Launch} (hl : l.stackTraces = false) {I : ed_I} {L : ed_L} (hd : I 1 0 = 0) {post : ed_post} (h1 : post (.inl (some (.int (iZ 1)))) Yw I L) : ed_Ct g l mL_settle 7 1 6 [.ref 0, .ref 112] Yw I L post := by
  refine ed_Ct.of hl rfl (Nat.le_of_ble_eq_true rfl) (fun x _ C => ?_)
  show Gd g x post _ _ _ _ _ _ _ _ 0 [(0, _), (1, _)] []
  refine r_ald C dL_settle_0 rfl ?_
  refine r_ik C dL_settle_1 ?_
  refine r_ald C dL_settle_2 rfl ?_
  refine r_callV C lzD_settle dL_settle_3 _ [] [_, _] rfl rfl rfl rfl rfl (Nat.le_of_ble_eq_true rfl) ⟨(Nat.le_of_ble_eq_true rfl), (Nat.le_of_ble_eq_true rfl), (Nat.le_of_ble_eq_true rfl), (Nat.le_of_ble_eq_true rfl)⟩ rfl (cD_settle0 C.2.2.2.2.2.1 hd ?_)
  refine gx_in2 C (ed_tk1 C rfl ⟨by decide, by decide⟩ (by decide) (tb2 23 rfl) (tb2 106 rfl)) dL_settle_10 (by decide) (ls' := [(0, _), (1, _)]) rfl ?_
  refine r_ik C dL_settle_11 ?_
  exact r_iret C dL_settle_12 rfl (Nat.le_of_ble_eq_true rfl) (Nat.le_of_ble_eq_true rfl) (h1)
