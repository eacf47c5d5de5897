set_option maxRecDepth 100000 in
set_option maxHeartbeats 4000000 in
theorem cD_testator {g : ed_g} {l : Launch} (hl : l.stackTraces = false) {I : ed_I} {L : ed_L} {a : Int} (ra : -2147483648 ≤ a ∧ a ≤ 2147483647) (hc : I 0 7 = 0 ∨ I 0 7 = 1) {post : ed_post} (hA : ¬ (1 ≤ a ∧ a ≤ 100000) → post (.inr IAE) Yw I L) (hS : (1 ≤ a ∧ a ≤ 100000) → ¬ (I 0 7 = 0) → post (.inr ISE) Yw I L) (hn : (1 ≤ a ∧ a ≤ 100000) → (I 0 7 = 0) → post (.inl (none)) Yw (upI (upI I 1 0 a) 0 6 0) L) : ed_Ct g l mD_testator 4 2 12 [.ref 0, .int (iZ a)] Yw I L post := by
  refine ed_Ct.of hl rfl (Nat.le_of_ble_eq_true rfl) (fun x _ C => ?_)
  show Gd g x post _ _ _ _ _ _ _ _ 0 [(0, _), (1, _)] []
  refine r_ild C dD_testator_0 rfl ?_
  refine r_i2l C dD_testator_1 (by omega) ?_
  refine r_lk C dD_testator_2 ?_
  refine r_lk C dD_testator_3 ?_
  refine r_callS C lzD_requireWithin dD_testator_6 [_, _, _] [] rfl rfl (Nat.le_of_ble_eq_true rfl) ⟨(Nat.le_of_ble_eq_true rfl), (Nat.le_of_ble_eq_true rfl), (Nat.le_of_ble_eq_true rfl), (Nat.le_of_ble_eq_true rfl)⟩ rfl (cD_requireWithin C.2.2.2.2.2.1 rfl (by omega) (fun b6 => ?_) (fun b6 => ?_))
  · refine r_ald C dD_testator_9 rfl ?_
    refine r_callV C lzD_requireOpen dD_testator_10 _ [] [] rfl rfl rfl rfl rfl (Nat.le_of_ble_eq_true rfl) ⟨(Nat.le_of_ble_eq_true rfl), (Nat.le_of_ble_eq_true rfl), (Nat.le_of_ble_eq_true rfl), (Nat.le_of_ble_eq_true rfl)⟩ rfl (cD_requireOpen C.2.2.2.2.2.1 hc (fun b10 => ?_) (fun b10 => ?_))
    · refine r_ald C dD_testator_13 rfl ?_
      refine r_getR C dD_testator_14 rfl rfl ?_
      refine r_ild C dD_testator_17 rfl ?_
      refine r_putI (z := 0) C dD_testator_18 rfl rfl rfl rfl (ed_pi1_0 _) ?_
      refine r_ald C dD_testator_21 rfl ?_
      refine r_callV C lzD_noteFact dD_testator_22 _ [] [] rfl rfl rfl rfl rfl (Nat.le_of_ble_eq_true rfl) ⟨(Nat.le_of_ble_eq_true rfl), (Nat.le_of_ble_eq_true rfl), (Nat.le_of_ble_eq_true rfl), (Nat.le_of_ble_eq_true rfl)⟩ rfl (cD_noteFact C.2.2.2.2.2.1 ?_)
      exact r_vret C dD_testator_25 rfl (Nat.le_of_ble_eq_true rfl) (Nat.le_of_ble_eq_true rfl) (hn (by omega) (by omega))
    · exact gx_out C rfl (Nat.le_of_ble_eq_true rfl) (Nat.le_of_ble_eq_true rfl) (hS (by omega) (by omega))
  · exact gx_out C rfl (Nat.le_of_ble_eq_true rfl) (Nat.le_of_ble_eq_true rfl) (hA (by omega))
set_option maxRecDepth 100000 in
set_option maxHeartbeats 4000000 in
theorem cD_person {g : ed_g} {l : Launch} (hl : l.stackTraces = false) {I : ed_I} {L : ed_L} {a b : Int} (ra : -2147483648 ≤ a ∧ a ≤ 2147483647) (rb : -2147483648 ≤ b ∧ b ≤ 2147483647) (hc : I 0 7 = 0 ∨ I 0 7 = 1) {post : ed_post} (hA : ¬ ((1 ≤ a ∧ a ≤ 40) ∧ 0 ≤ b ∧ b ≤ 100000) → post (.inr IAE) Yw I L) (hS : ((1 ≤ a ∧ a ≤ 40) ∧ 0 ≤ b ∧ b ≤ 100000) → ¬ (I 0 7 = 0) → post (.inr ISE) Yw I L) (hn : ((1 ≤ a ∧ a ≤ 40) ∧ 0 ≤ b ∧ b ≤ 100000) → (I 0 7 = 0) → post (.inl (none)) Yw (upI (upI I 2 a b) 0 6 0) L) : ed_Ct g l mD_person 4 3 18 [.ref 0, .int (iZ a), .int (iZ b)] Yw I L post := by
  refine ed_Ct.of hl rfl (Nat.le_of_ble_eq_true rfl) (fun x _ C => ?_)
  show Gd g x post _ _ _ _ _ _ _ _ 0 [(0, _), (1, _), (2, _)] []
  refine r_ild C dD_person_0 rfl ?_
  refine r_i2l C dD_person_1 (by omega) ?_
  refine r_lk C dD_person_2 ?_
  refine r_lk C dD_person_3 ?_
  refine r_callS C lzD_requireWithin dD_person_6 [_, _, _] [] rfl rfl (Nat.le_of_ble_eq_true rfl) ⟨(Nat.le_of_ble_eq_true rfl), (Nat.le_of_ble_eq_true rfl), (Nat.le_of_ble_eq_true rfl), (Nat.le_of_ble_eq_true rfl)⟩ rfl (cD_requireWithin C.2.2.2.2.2.1 rfl (by omega) (fun b6 => ?_) (fun b6 => ?_))
  · refine r_ild C dD_person_9 rfl ?_
    refine r_i2l C dD_person_10 (by omega) ?_
    refine r_lk C dD_person_11 ?_
    refine r_lk C dD_person_12 ?_
    refine r_callS C lzD_requireWithin dD_person_15 [_, _, _] [] rfl rfl (Nat.le_of_ble_eq_true rfl) ⟨(Nat.le_of_ble_eq_true rfl), (Nat.le_of_ble_eq_true rfl), (Nat.le_of_ble_eq_true rfl), (Nat.le_of_ble_eq_true rfl)⟩ rfl (cD_requireWithin C.2.2.2.2.2.1 rfl (by omega) (fun b15 => ?_) (fun b15 => ?_))
    · refine r_ald C dD_person_18 rfl ?_
      refine r_callV C lzD_requireOpen dD_person_19 _ [] [] rfl rfl rfl rfl rfl (Nat.le_of_ble_eq_true rfl) ⟨(Nat.le_of_ble_eq_true rfl), (Nat.le_of_ble_eq_true rfl), (Nat.le_of_ble_eq_true rfl), (Nat.le_of_ble_eq_true rfl)⟩ rfl (cD_requireOpen C.2.2.2.2.2.1 hc (fun b19 => ?_) (fun b19 => ?_))
      · refine r_ald C dD_person_22 rfl ?_
        refine r_getR C dD_person_23 rfl rfl ?_
        refine r_getR C dD_person_26 rfl rfl ?_
        refine r_ild C dD_person_29 rfl ?_
        refine r_ild C dD_person_30 rfl ?_
        refine r_iast C dD_person_31 rfl rfl ⟨by omega, by omega⟩ (by decide) ?_
        refine r_ald C dD_person_32 rfl ?_
        refine r_callV C lzD_noteFact dD_person_33 _ [] [] rfl rfl rfl rfl rfl (Nat.le_of_ble_eq_true rfl) ⟨(Nat.le_of_ble_eq_true rfl), (Nat.le_of_ble_eq_true rfl), (Nat.le_of_ble_eq_true rfl), (Nat.le_of_ble_eq_true rfl)⟩ rfl (cD_noteFact C.2.2.2.2.2.1 ?_)
        exact r_vret C dD_person_36 rfl (Nat.le_of_ble_eq_true rfl) (Nat.le_of_ble_eq_true rfl) (hn (by omega) (by omega))
      · exact gx_out C rfl (Nat.le_of_ble_eq_true rfl) (Nat.le_of_ble_eq_true rfl) (hS (by omega) (by omega))
    · exact gx_out C rfl (Nat.le_of_ble_eq_true rfl) (Nat.le_of_ble_eq_true rfl) (hA (by omega))
  · exact gx_out C rfl (Nat.le_of_ble_eq_true rfl) (Nat.le_of_ble_eq_true rfl) (hA (by omega))
set_option maxRecDepth 100000 in
set_option maxHeartbeats 4000000 in
theorem cD_asset {g : ed_g} {l : Launch} (hl : l.stackTraces = false) {I : ed_I} {L : ed_L} {a v f : Int} (ra : -2147483648 ≤ a ∧ a ≤ 2147483647) (rv : -9223372036854775808 ≤ v ∧ v ≤ 9223372036854775807) (hf : f = 0 ∨ f = 1) (hc : I 0 7 = 0 ∨ I 0 7 = 1) (hk : ∀ j, 0 ≤ j → j ≤ 40 → I 7 j = 0 ∨ I 7 j = 1) {post : ed_post} (hA : ¬ ((1 ≤ a ∧ a ≤ 40) ∧ 0 ≤ v ∧ v ≤ 1000000000000) → post (.inr IAE) Yw I L) (hS : ((1 ≤ a ∧ a ≤ 40) ∧ 0 ≤ v ∧ v ≤ 1000000000000) → ¬ (I 0 7 = 0 ∧ I 7 a = 0) → post (.inr ISE) Yw I L) (hn : ((1 ≤ a ∧ a ≤ 40) ∧ 0 ≤ v ∧ v ≤ 1000000000000) → (I 0 7 = 0 ∧ I 7 a = 0) → post (.inl (none)) Yw (upI (upI (upI I 7 a 1) 9 a f) 0 6 0) (upI L 8 a v)) : ed_Ct g l mD_asset 4 4 24 [.ref 0, .int (iZ a), .long (lZ v), .int (iZ f)] Yw I L post := by
  refine ed_Ct.of hl rfl (Nat.le_of_ble_eq_true rfl) (fun x _ C => ?_)
  show Gd g x post _ _ _ _ _ _ _ _ 0 [(0, _), (1, _), (2, _), (4, _)] []
  have hka := fun (h : 0 ≤ a ∧ a ≤ 40) => hk a h.1 h.2
  refine r_ild C dD_asset_0 rfl ?_
  refine r_i2l C dD_asset_1 (by omega) ?_
  refine r_lk C dD_asset_2 ?_
  refine r_lk C dD_asset_3 ?_
  refine r_callS C lzD_requireWithin dD_asset_6 [_, _, _] [] rfl rfl (Nat.le_of_ble_eq_true rfl) ⟨(Nat.le_of_ble_eq_true rfl), (Nat.le_of_ble_eq_true rfl), (Nat.le_of_ble_eq_true rfl), (Nat.le_of_ble_eq_true rfl)⟩ rfl (cD_requireWithin C.2.2.2.2.2.1 rfl (by omega) (fun b6 => ?_) (fun b6 => ?_))
  · refine r_lld C dD_asset_9 rfl ?_
    refine r_lk C dD_asset_10 ?_
    refine r_lk C dD_asset_11 ?_
    refine r_callS C lzD_requireWithin dD_asset_14 [_, _, _] [] rfl rfl (Nat.le_of_ble_eq_true rfl) ⟨(Nat.le_of_ble_eq_true rfl), (Nat.le_of_ble_eq_true rfl), (Nat.le_of_ble_eq_true rfl), (Nat.le_of_ble_eq_true rfl)⟩ rfl (cD_requireWithin C.2.2.2.2.2.1 rfl (by omega) (fun b14 => ?_) (fun b14 => ?_))
    · refine r_ald C dD_asset_17 rfl ?_
      refine r_callV C lzD_requireOpen dD_asset_18 _ [] [] rfl rfl rfl rfl rfl (Nat.le_of_ble_eq_true rfl) ⟨(Nat.le_of_ble_eq_true rfl), (Nat.le_of_ble_eq_true rfl), (Nat.le_of_ble_eq_true rfl), (Nat.le_of_ble_eq_true rfl)⟩ rfl (cD_requireOpen C.2.2.2.2.2.1 hc (fun b18 => ?_) (fun b18 => ?_))
      · refine r_ald C dD_asset_21 rfl ?_
        refine r_getR C dD_asset_22 rfl rfl ?_
        refine r_getR C dD_asset_25 rfl rfl ?_
        refine r_ild C dD_asset_28 rfl ?_
        refine r_zald C dD_asset_29 rfl ⟨by omega, by omega⟩ (by decide) ?_
        refine r_if_ne C dD_asset_30 (by omega) (fun b30 => ?_) (fun b30 => ?_)
        · refine r_ik C dD_asset_37 ?_
          refine r_callS C lzD_requireState dD_asset_38 [_] [] rfl rfl (Nat.le_of_ble_eq_true rfl) ⟨(Nat.le_of_ble_eq_true rfl), (Nat.le_of_ble_eq_true rfl), (Nat.le_of_ble_eq_true rfl), (Nat.le_of_ble_eq_true rfl)⟩ rfl (cD_requireState C.2.2.2.2.2.1 rfl (by omega) (fun h => absurd rfl h) (fun _ => ?_))
          exact gx_out C rfl (Nat.le_of_ble_eq_true rfl) (Nat.le_of_ble_eq_true rfl) (hS (by omega) (by omega))
        · refine r_ik C dD_asset_33 ?_
          refine r_goto C dD_asset_34 ?_
          refine r_callS C lzD_requireState dD_asset_38 [_] [] rfl rfl (Nat.le_of_ble_eq_true rfl) ⟨(Nat.le_of_ble_eq_true rfl), (Nat.le_of_ble_eq_true rfl), (Nat.le_of_ble_eq_true rfl), (Nat.le_of_ble_eq_true rfl)⟩ rfl (cD_requireState C.2.2.2.2.2.1 rfl (by omega) (fun _ => ?_) (fun h => absurd h (by decide)))
          refine r_ald C dD_asset_41 rfl ?_
          refine r_getR C dD_asset_42 rfl rfl ?_
          refine r_getR C dD_asset_45 rfl rfl ?_
          refine r_ild C dD_asset_48 rfl ?_
          refine r_ik C dD_asset_49 ?_
          refine r_zast C dD_asset_50 rfl rfl ⟨by omega, by omega⟩ (by decide) (by omega) ?_
          refine r_ald C dD_asset_51 rfl ?_
          refine r_getR C dD_asset_52 rfl rfl ?_
          refine r_getR C dD_asset_55 rfl rfl ?_
          refine r_ild C dD_asset_58 rfl ?_
          refine r_lld C dD_asset_59 rfl ?_
          refine r_last C dD_asset_60 rfl rfl ⟨by omega, by omega⟩ (by decide) ?_
          refine r_ald C dD_asset_61 rfl ?_
          refine r_getR C dD_asset_62 rfl rfl ?_
          refine r_getR C dD_asset_65 rfl rfl ?_
          refine r_ild C dD_asset_68 rfl ?_
          refine r_ild C dD_asset_69 rfl ?_
          refine r_zast C dD_asset_71 rfl rfl ⟨by omega, by omega⟩ (by decide) (by omega) ?_
          refine r_ald C dD_asset_72 rfl ?_
          refine r_callV C lzD_noteFact dD_asset_73 _ [] [] rfl rfl rfl rfl rfl (Nat.le_of_ble_eq_true rfl) ⟨(Nat.le_of_ble_eq_true rfl), (Nat.le_of_ble_eq_true rfl), (Nat.le_of_ble_eq_true rfl), (Nat.le_of_ble_eq_true rfl)⟩ rfl (cD_noteFact C.2.2.2.2.2.1 ?_)
          exact r_vret C dD_asset_76 rfl (Nat.le_of_ble_eq_true rfl) (Nat.le_of_ble_eq_true rfl) (hn (by omega) (by omega))
      · exact gx_out C rfl (Nat.le_of_ble_eq_true rfl) (Nat.le_of_ble_eq_true rfl) (hS (by omega) (by omega))
    · exact gx_out C rfl (Nat.le_of_ble_eq_true rfl) (Nat.le_of_ble_eq_true rfl) (hA (by omega))
  · exact gx_out C rfl (Nat.le_of_ble_eq_true rfl) (Nat.le_of_ble_eq_true rfl) (hA (by omega))
set_option maxRecDepth 100000 in
set_option maxHeartbeats 4000000 in
theorem cD_revalue {g : ed_g} {l : Launch} (hl : l.stackTraces = false) {I : ed_I} {L : ed_L} {a v : Int} (ra : -2147483648 ≤ a ∧ a ≤ 2147483647) (rv : -9223372036854775808 ≤ v ∧ v ≤ 9223372036854775807) (hc : I 0 7 = 0 ∨ I 0 7 = 1) (hk : ∀ j, 0 ≤ j → j ≤ 40 → I 7 j = 0 ∨ I 7 j = 1) {post : ed_post} (hA : ¬ (((1 ≤ a ∧ a ≤ 40) ∧ I 7 a ≠ 0) ∧ 0 ≤ v ∧ v ≤ 1000000000000) → post (.inr IAE) Yw I L) (hS : (((1 ≤ a ∧ a ≤ 40) ∧ I 7 a ≠ 0) ∧ 0 ≤ v ∧ v ≤ 1000000000000) → ¬ (I 0 7 = 0) → post (.inr ISE) Yw I L) (hn : (((1 ≤ a ∧ a ≤ 40) ∧ I 7 a ≠ 0) ∧ 0 ≤ v ∧ v ≤ 1000000000000) → (I 0 7 = 0) → post (.inl (some (.long (lZ (L 8 a))))) Yw (upI I 0 6 0) (upI L 8 a v)) : ed_Ct g l mD_revalue 4 4 24 [.ref 0, .int (iZ a), .long (lZ v)] Yw I L post := by
  refine ed_Ct.of hl rfl (Nat.le_of_ble_eq_true rfl) (fun x _ C => ?_)
  show Gd g x post _ _ _ _ _ _ _ _ 0 [(0, _), (1, _), (2, _)] []
  refine r_ald C dD_revalue_0 rfl ?_
  refine r_ild C dD_revalue_1 rfl ?_
  refine r_callV C lzD_requireAsset dD_revalue_2 _ [_] [] rfl rfl rfl rfl rfl (Nat.le_of_ble_eq_true rfl) ⟨(Nat.le_of_ble_eq_true rfl), (Nat.le_of_ble_eq_true rfl), (Nat.le_of_ble_eq_true rfl), (Nat.le_of_ble_eq_true rfl)⟩ rfl (cD_requireAsset C.2.2.2.2.2.1 (by omega) hk (fun b2 => ?_) (fun b2 => ?_))
  · refine r_lld C dD_revalue_5 rfl ?_
    refine r_lk C dD_revalue_6 ?_
    refine r_lk C dD_revalue_7 ?_
    refine r_callS C lzD_requireWithin dD_revalue_10 [_, _, _] [] rfl rfl (Nat.le_of_ble_eq_true rfl) ⟨(Nat.le_of_ble_eq_true rfl), (Nat.le_of_ble_eq_true rfl), (Nat.le_of_ble_eq_true rfl), (Nat.le_of_ble_eq_true rfl)⟩ rfl (cD_requireWithin C.2.2.2.2.2.1 rfl (by omega) (fun b10 => ?_) (fun b10 => ?_))
    · refine r_ald C dD_revalue_13 rfl ?_
      refine r_callV C lzD_requireOpen dD_revalue_14 _ [] [] rfl rfl rfl rfl rfl (Nat.le_of_ble_eq_true rfl) ⟨(Nat.le_of_ble_eq_true rfl), (Nat.le_of_ble_eq_true rfl), (Nat.le_of_ble_eq_true rfl), (Nat.le_of_ble_eq_true rfl)⟩ rfl (cD_requireOpen C.2.2.2.2.2.1 hc (fun b14 => ?_) (fun b14 => ?_))
      · refine r_ald C dD_revalue_17 rfl ?_
        refine r_getR C dD_revalue_18 rfl rfl ?_
        refine r_getR C dD_revalue_21 rfl rfl ?_
        refine r_ild C dD_revalue_24 rfl ?_
        refine r_lald C dD_revalue_25 rfl ⟨by omega, by omega⟩ (by decide) ?_
        refine r_lst C dD_revalue_26 (by decide) (ls' := [(0, _), (1, _), (2, _), (4, _)]) rfl ?_
        refine r_ald C dD_revalue_28 rfl ?_
        refine r_getR C dD_revalue_29 rfl rfl ?_
        refine r_getR C dD_revalue_32 rfl rfl ?_
        refine r_ild C dD_revalue_35 rfl ?_
        refine r_lld C dD_revalue_36 rfl ?_
        refine r_last C dD_revalue_37 rfl rfl ⟨by omega, by omega⟩ (by decide) ?_
        refine r_ald C dD_revalue_38 rfl ?_
        refine r_callV C lzD_noteFact dD_revalue_39 _ [] [] rfl rfl rfl rfl rfl (Nat.le_of_ble_eq_true rfl) ⟨(Nat.le_of_ble_eq_true rfl), (Nat.le_of_ble_eq_true rfl), (Nat.le_of_ble_eq_true rfl), (Nat.le_of_ble_eq_true rfl)⟩ rfl (cD_noteFact C.2.2.2.2.2.1 ?_)
        refine r_lld C dD_revalue_42 rfl ?_
        exact r_lret C dD_revalue_44 rfl (Nat.le_of_ble_eq_true rfl) (Nat.le_of_ble_eq_true rfl) (hn (by omega) (by omega))
      · exact gx_out C rfl (Nat.le_of_ble_eq_true rfl) (Nat.le_of_ble_eq_true rfl) (hS (by omega) (by omega))
    · exact gx_out C rfl (Nat.le_of_ble_eq_true rfl) (Nat.le_of_ble_eq_true rfl) (hA (by omega))
  · exact gx_out C rfl (Nat.le_of_ble_eq_true rfl) (Nat.le_of_ble_eq_true rfl) (hA (by omega))
set_option maxRecDepth 100000 in
set_option maxHeartbeats 4000000 in
theorem cD_gone {g : ed_g} {l : Launch} (hl : l.stackTraces = false) {I : ed_I} {L : ed_L} {a : Int} (ra : -2147483648 ≤ a ∧ a ≤ 2147483647) (hc : I 0 7 = 0 ∨ I 0 7 = 1) (hk : ∀ j, 0 ≤ j → j ≤ 40 → I 7 j = 0 ∨ I 7 j = 1) {post : ed_post} (hA : ¬ ((1 ≤ a ∧ a ≤ 40) ∧ I 7 a ≠ 0) → post (.inr IAE) Yw I L) (hS : ((1 ≤ a ∧ a ≤ 40) ∧ I 7 a ≠ 0) → ¬ (I 0 7 = 0) → post (.inr ISE) Yw I L) (hn : ((1 ≤ a ∧ a ≤ 40) ∧ I 7 a ≠ 0) → (I 0 7 = 0) → post (.inl (none)) Yw (upI (upI I 10 a 1) 0 6 0) L) : ed_Ct g l mD_gone 4 3 18 [.ref 0, .int (iZ a)] Yw I L post := by
  refine ed_Ct.of hl rfl (Nat.le_of_ble_eq_true rfl) (fun x _ C => ?_)
  show Gd g x post _ _ _ _ _ _ _ _ 0 [(0, _), (1, _)] []
  refine r_ald C dD_gone_0 rfl ?_
  refine r_ild C dD_gone_1 rfl ?_
  refine r_callV C lzD_requireAsset dD_gone_2 _ [_] [] rfl rfl rfl rfl rfl (Nat.le_of_ble_eq_true rfl) ⟨(Nat.le_of_ble_eq_true rfl), (Nat.le_of_ble_eq_true rfl), (Nat.le_of_ble_eq_true rfl), (Nat.le_of_ble_eq_true rfl)⟩ rfl (cD_requireAsset C.2.2.2.2.2.1 (by omega) hk (fun b2 => ?_) (fun b2 => ?_))
  · refine r_ald C dD_gone_5 rfl ?_
    refine r_callV C lzD_requireOpen dD_gone_6 _ [] [] rfl rfl rfl rfl rfl (Nat.le_of_ble_eq_true rfl) ⟨(Nat.le_of_ble_eq_true rfl), (Nat.le_of_ble_eq_true rfl), (Nat.le_of_ble_eq_true rfl), (Nat.le_of_ble_eq_true rfl)⟩ rfl (cD_requireOpen C.2.2.2.2.2.1 hc (fun b6 => ?_) (fun b6 => ?_))
    · refine r_ald C dD_gone_9 rfl ?_
      refine r_getR C dD_gone_10 rfl rfl ?_
      refine r_getR C dD_gone_13 rfl rfl ?_
      refine r_ild C dD_gone_16 rfl ?_
      refine r_ik C dD_gone_17 ?_
      refine r_zast C dD_gone_18 rfl rfl ⟨by omega, by omega⟩ (by decide) (by omega) ?_
      refine r_ald C dD_gone_19 rfl ?_
      refine r_callV C lzD_noteFact dD_gone_20 _ [] [] rfl rfl rfl rfl rfl (Nat.le_of_ble_eq_true rfl) ⟨(Nat.le_of_ble_eq_true rfl), (Nat.le_of_ble_eq_true rfl), (Nat.le_of_ble_eq_true rfl), (Nat.le_of_ble_eq_true rfl)⟩ rfl (cD_noteFact C.2.2.2.2.2.1 ?_)
      exact r_vret C dD_gone_23 rfl (Nat.le_of_ble_eq_true rfl) (Nat.le_of_ble_eq_true rfl) (hn (by omega) (by omega))
    · exact gx_out C rfl (Nat.le_of_ble_eq_true rfl) (Nat.le_of_ble_eq_true rfl) (hS (by omega) (by omega))
  · exact gx_out C rfl (Nat.le_of_ble_eq_true rfl) (Nat.le_of_ble_eq_true rfl) (hA (by omega))
set_option maxRecDepth 100000 in
set_option maxHeartbeats 4000000 in
theorem cD_gift {g : ed_g} {l : Launch} (hl : l.stackTraces = false) {I : ed_I} {L : ed_L} {c a : Int} (rc : -2147483648 ≤ c ∧ c ≤ 2147483647) (ra : -2147483648 ≤ a ∧ a ≤ 2147483647) (hc : I 0 7 = 0 ∨ I 0 7 = 1) (hk : ∀ j, 0 ≤ j → j ≤ 40 → I 7 j = 0 ∨ I 7 j = 1) (hr : ∀ j, 0 ≤ j → j ≤ 40 → -1 ≤ I 17 j ∧ I 17 j ≤ 100000) {post : ed_post} (hA : ¬ ((1 ≤ c ∧ c ≤ 40) ∧ (1 ≤ a ∧ a ≤ 40) ∧ I 7 a ≠ 0) → post (.inr IAE) Yw I L) (hS : ((1 ≤ c ∧ c ≤ 40) ∧ (1 ≤ a ∧ a ≤ 40) ∧ I 7 a ≠ 0) → ¬ (I 0 7 = 0 ∧ ∀ j, 1 ≤ j → j ≤ 40 → j ≠ c → I 17 j ≠ a) → post (.inr ISE) Yw I L) (hn : ((1 ≤ c ∧ c ≤ 40) ∧ (1 ≤ a ∧ a ≤ 40) ∧ I 7 a ≠ 0) → (I 0 7 = 0 ∧ ∀ j, 1 ≤ j → j ≤ 40 → j ≠ c → I 17 j ≠ a) → post (.inl (none)) Yw (upI (upI (upI (upI I 15 c 1) 17 c a) 18 c 1) 0 6 0) (upI L 16 c 0)) : ed_Ct g l mD_gift 4 5 30 [.ref 0, .int (iZ c), .int (iZ a)] Yw I L post := by
  refine ed_Ct.of hl rfl (Nat.le_of_ble_eq_true rfl) (fun x _ C => ?_)
  show Gd g x post _ _ _ _ _ _ _ _ 0 [(0, _), (1, _), (2, _)] []
  refine r_ild C dD_gift_0 rfl ?_
  refine r_i2l C dD_gift_1 (by omega) ?_
  refine r_lk C dD_gift_2 ?_
  refine r_lk C dD_gift_3 ?_
  refine r_callS C lzD_requireWithin dD_gift_6 [_, _, _] [] rfl rfl (Nat.le_of_ble_eq_true rfl) ⟨(Nat.le_of_ble_eq_true rfl), (Nat.le_of_ble_eq_true rfl), (Nat.le_of_ble_eq_true rfl), (Nat.le_of_ble_eq_true rfl)⟩ rfl (cD_requireWithin C.2.2.2.2.2.1 rfl (by omega) (fun b6 => ?_) (fun b6 => ?_))
  · refine r_ald C dD_gift_9 rfl ?_
    refine r_ild C dD_gift_10 rfl ?_
    refine r_callV C lzD_requireAsset dD_gift_11 _ [_] [] rfl rfl rfl rfl rfl (Nat.le_of_ble_eq_true rfl) ⟨(Nat.le_of_ble_eq_true rfl), (Nat.le_of_ble_eq_true rfl), (Nat.le_of_ble_eq_true rfl), (Nat.le_of_ble_eq_true rfl)⟩ rfl (cD_requireAsset C.2.2.2.2.2.1 (by omega) hk (fun b11 => ?_) (fun b11 => ?_))
    · refine r_ald C dD_gift_14 rfl ?_
      refine r_callV C lzD_requireOpen dD_gift_15 _ [] [] rfl rfl rfl rfl rfl (Nat.le_of_ble_eq_true rfl) ⟨(Nat.le_of_ble_eq_true rfl), (Nat.le_of_ble_eq_true rfl), (Nat.le_of_ble_eq_true rfl), (Nat.le_of_ble_eq_true rfl)⟩ rfl (cD_requireOpen C.2.2.2.2.2.1 hc (fun b15 => ?_) (fun b15 => ?_))
      · refine r_ald C dD_gift_18 rfl ?_
        refine r_getR C dD_gift_19 rfl rfl ?_
        refine r_ild C dD_gift_22 rfl ?_
        refine r_ild C dD_gift_23 rfl ?_
        refine r_callV C lzC_anotherHas dD_gift_24 _ [_, _] [] rfl rfl rfl rfl rfl (Nat.le_of_ble_eq_true rfl) ⟨(Nat.le_of_ble_eq_true rfl), (Nat.le_of_ble_eq_true rfl), (Nat.le_of_ble_eq_true rfl), (Nat.le_of_ble_eq_true rfl)⟩ rfl (cC_anotherHas C.2.2.2.2.2.1 (by omega) (by omega) hr  (fun b24 => ?_) (fun b24 => ?_))
        · refine r_if_ne C dD_gift_27 (by omega) (fun b27 => ?_) (fun b27 => ?_)
          · refine r_ik C dD_gift_34 ?_
            refine r_callS C lzD_requireState dD_gift_35 [_] [] rfl rfl (Nat.le_of_ble_eq_true rfl) ⟨(Nat.le_of_ble_eq_true rfl), (Nat.le_of_ble_eq_true rfl), (Nat.le_of_ble_eq_true rfl), (Nat.le_of_ble_eq_true rfl)⟩ rfl (cD_requireState C.2.2.2.2.2.1 rfl (by omega) (fun h => absurd rfl h) (fun _ => ?_))
            exact gx_out C rfl (Nat.le_of_ble_eq_true rfl) (Nat.le_of_ble_eq_true rfl) (hS (by omega) (fun hh => by first | omega | (obtain ⟨j, j1, j2, j3, j4⟩ := b24; exact hh.2 j j1 j2 j3 j4)))
          · omega
        · refine r_if_ne C dD_gift_27 (by omega) (fun b27 => ?_) (fun b27 => ?_)
          · omega
          · refine r_ik C dD_gift_30 ?_
            refine r_goto C dD_gift_31 ?_
            refine r_callS C lzD_requireState dD_gift_35 [_] [] rfl rfl (Nat.le_of_ble_eq_true rfl) ⟨(Nat.le_of_ble_eq_true rfl), (Nat.le_of_ble_eq_true rfl), (Nat.le_of_ble_eq_true rfl), (Nat.le_of_ble_eq_true rfl)⟩ rfl (cD_requireState C.2.2.2.2.2.1 rfl (by omega) (fun _ => ?_) (fun h => absurd h (by decide)))
            refine r_ald C dD_gift_38 rfl ?_
            refine r_getR C dD_gift_39 rfl rfl ?_
            refine r_ild C dD_gift_42 rfl ?_
            refine r_ik C dD_gift_43 ?_
            refine r_lk C dD_gift_44 ?_
            refine r_ild C dD_gift_45 rfl ?_
            refine r_callV C lzC_write dD_gift_46 _ [_, _, _, _] [] rfl rfl rfl rfl rfl (Nat.le_of_ble_eq_true rfl) ⟨(Nat.le_of_ble_eq_true rfl), (Nat.le_of_ble_eq_true rfl), (Nat.le_of_ble_eq_true rfl), (Nat.le_of_ble_eq_true rfl)⟩ rfl (cC_write C.2.2.2.2.2.1 (by omega) ?_)
            refine r_ald C dD_gift_49 rfl ?_
            refine r_callV C lzD_noteFact dD_gift_50 _ [] [] rfl rfl rfl rfl rfl (Nat.le_of_ble_eq_true rfl) ⟨(Nat.le_of_ble_eq_true rfl), (Nat.le_of_ble_eq_true rfl), (Nat.le_of_ble_eq_true rfl), (Nat.le_of_ble_eq_true rfl)⟩ rfl (cD_noteFact C.2.2.2.2.2.1 ?_)
            exact r_vret C dD_gift_53 rfl (Nat.le_of_ble_eq_true rfl) (Nat.le_of_ble_eq_true rfl) (hn (by omega) ⟨by omega, b24⟩)
      · exact gx_out C rfl (Nat.le_of_ble_eq_true rfl) (Nat.le_of_ble_eq_true rfl) (hS (by omega) (fun hh => by first | omega | (obtain ⟨j, j1, j2, j3, j4⟩ := b24; exact hh.2 j j1 j2 j3 j4)))
    · exact gx_out C rfl (Nat.le_of_ble_eq_true rfl) (Nat.le_of_ble_eq_true rfl) (hA (by omega))
  · exact gx_out C rfl (Nat.le_of_ble_eq_true rfl) (Nat.le_of_ble_eq_true rfl) (hA (by omega))
set_option maxRecDepth 100000 in
set_option maxHeartbeats 4000000 in
theorem cD_legacy {g : ed_g} {l : Launch} (hl : l.stackTraces = false) {I : ed_I} {L : ed_L} {c v a : Int} (rc : -2147483648 ≤ c ∧ c ≤ 2147483647) (ra : -2147483648 ≤ a ∧ a ≤ 2147483647) (rv : -9223372036854775808 ≤ v ∧ v ≤ 9223372036854775807) (hc : I 0 7 = 0 ∨ I 0 7 = 1) (hk : ∀ j, 0 ≤ j → j ≤ 40 → I 7 j = 0 ∨ I 7 j = 1) (hfu : ∀ j, 0 ≤ j → j ≤ 40 → I 9 j = 0 ∨ I 9 j = 1) (hr : ∀ j, 0 ≤ j → j ≤ 40 → -1 ≤ I 17 j ∧ I 17 j ≤ 100000) (hr2 : ∀ j, 0 ≤ j → j ≤ 40 → -1 ≤ I 15 j ∧ I 15 j ≤ 100000) {post : ed_post} (hA : ¬ ((1 ≤ c ∧ c ≤ 40) ∧ (0 ≤ v ∧ v ≤ 1000000000000) ∧ (a = 0 ∨ ((1 ≤ a ∧ a ≤ 40) ∧ I 7 a ≠ 0 ∧ I 9 a ≠ 0))) → post (.inr IAE) Yw I L) (hS : ((1 ≤ c ∧ c ≤ 40) ∧ (0 ≤ v ∧ v ≤ 1000000000000) ∧ (a = 0 ∨ ((1 ≤ a ∧ a ≤ 40) ∧ I 7 a ≠ 0 ∧ I 9 a ≠ 0))) → ¬ (I 0 7 = 0 ∧ ∀ j, 1 ≤ j → j ≤ 40 → ¬ (j ≠ c ∧ I 15 j = 1 ∧ I 17 j = a)) → post (.inr ISE) Yw I L) (hn : ((1 ≤ c ∧ c ≤ 40) ∧ (0 ≤ v ∧ v ≤ 1000000000000) ∧ (a = 0 ∨ ((1 ≤ a ∧ a ≤ 40) ∧ I 7 a ≠ 0 ∧ I 9 a ≠ 0))) → (I 0 7 = 0 ∧ ∀ j, 1 ≤ j → j ≤ 40 → ¬ (j ≠ c ∧ I 15 j = 1 ∧ I 17 j = a)) → post (.inl (none)) Yw (upI (upI (upI (upI I 15 c 2) 17 c a) 18 c 1) 0 6 0) (upI L 16 c v)) : ed_Ct g l mD_legacy 4 7 42 [.ref 0, .int (iZ c), .long (lZ v), .int (iZ a)] Yw I L post := by
  refine ed_Ct.of hl rfl (Nat.le_of_ble_eq_true rfl) (fun x _ C => ?_)
  show Gd g x post _ _ _ _ _ _ _ _ 0 [(0, _), (1, _), (2, _), (4, _)] []
  have hfa := fun (h : 0 ≤ a ∧ a ≤ 40) => hfu a h.1 h.2
  refine r_ild C dD_legacy_0 rfl ?_
  refine r_i2l C dD_legacy_1 (by omega) ?_
  refine r_lk C dD_legacy_2 ?_
  refine r_lk C dD_legacy_3 ?_
  refine r_callS C lzD_requireWithin dD_legacy_6 [_, _, _] [] rfl rfl (Nat.le_of_ble_eq_true rfl) ⟨(Nat.le_of_ble_eq_true rfl), (Nat.le_of_ble_eq_true rfl), (Nat.le_of_ble_eq_true rfl), (Nat.le_of_ble_eq_true rfl)⟩ rfl (cD_requireWithin C.2.2.2.2.2.1 rfl (by omega) (fun b6 => ?_) (fun b6 => ?_))
  · refine r_lld C dD_legacy_9 rfl ?_
    refine r_lk C dD_legacy_10 ?_
    refine r_lk C dD_legacy_11 ?_
    refine r_callS C lzD_requireWithin dD_legacy_14 [_, _, _] [] rfl rfl (Nat.le_of_ble_eq_true rfl) ⟨(Nat.le_of_ble_eq_true rfl), (Nat.le_of_ble_eq_true rfl), (Nat.le_of_ble_eq_true rfl), (Nat.le_of_ble_eq_true rfl)⟩ rfl (cD_requireWithin C.2.2.2.2.2.1 rfl (by omega) (fun b14 => ?_) (fun b14 => ?_))
    · refine r_ald C dD_legacy_17 rfl ?_
      refine r_ild C dD_legacy_18 rfl ?_
      refine r_callV C lzD_requireAssetOrNone dD_legacy_20 _ [_] [] rfl rfl rfl rfl rfl (Nat.le_of_ble_eq_true rfl) ⟨(Nat.le_of_ble_eq_true rfl), (Nat.le_of_ble_eq_true rfl), (Nat.le_of_ble_eq_true rfl), (Nat.le_of_ble_eq_true rfl)⟩ rfl (cD_requireAssetOrNone C.2.2.2.2.2.1 (by omega) hk (fun b20 => ?_) (fun b20 => ?_))
      · refine r_ild C dD_legacy_23 rfl ?_
        refine r_if_eq C dD_legacy_25 (by omega) (fun b25 => ?_) (fun b25 => ?_)
        · refine r_ik C dD_legacy_41 ?_
          refine r_goto C dD_legacy_42 ?_
          refine r_callS C lzD_requireArgument dD_legacy_46 [_] [] rfl rfl (Nat.le_of_ble_eq_true rfl) ⟨(Nat.le_of_ble_eq_true rfl), (Nat.le_of_ble_eq_true rfl), (Nat.le_of_ble_eq_true rfl), (Nat.le_of_ble_eq_true rfl)⟩ rfl (cD_requireArgument C.2.2.2.2.2.1 rfl (by omega) (fun _ => ?_) (fun h => absurd h (by decide)))
          refine r_ald C dD_legacy_49 rfl ?_
          refine r_callV C lzD_requireOpen dD_legacy_50 _ [] [] rfl rfl rfl rfl rfl (Nat.le_of_ble_eq_true rfl) ⟨(Nat.le_of_ble_eq_true rfl), (Nat.le_of_ble_eq_true rfl), (Nat.le_of_ble_eq_true rfl), (Nat.le_of_ble_eq_true rfl)⟩ rfl (cD_requireOpen C.2.2.2.2.2.1 hc (fun b50 => ?_) (fun b50 => ?_))
          · refine r_ald C dD_legacy_53 rfl ?_
            refine r_getR C dD_legacy_54 rfl rfl ?_
            refine r_ild C dD_legacy_57 rfl ?_
            refine r_ild C dD_legacy_58 rfl ?_
            refine r_callV C lzC_anotherGives dD_legacy_60 _ [_, _] [] rfl rfl rfl rfl rfl (Nat.le_of_ble_eq_true rfl) ⟨(Nat.le_of_ble_eq_true rfl), (Nat.le_of_ble_eq_true rfl), (Nat.le_of_ble_eq_true rfl), (Nat.le_of_ble_eq_true rfl)⟩ rfl (cC_anotherGives C.2.2.2.2.2.1 (by omega) (by omega) hr hr2 (fun b60 => ?_) (fun b60 => ?_))
            · refine r_if_ne C dD_legacy_63 (by omega) (fun b63 => ?_) (fun b63 => ?_)
              · refine r_ik C dD_legacy_70 ?_
                refine r_callS C lzD_requireState dD_legacy_71 [_] [] rfl rfl (Nat.le_of_ble_eq_true rfl) ⟨(Nat.le_of_ble_eq_true rfl), (Nat.le_of_ble_eq_true rfl), (Nat.le_of_ble_eq_true rfl), (Nat.le_of_ble_eq_true rfl)⟩ rfl (cD_requireState C.2.2.2.2.2.1 rfl (by omega) (fun h => absurd rfl h) (fun _ => ?_))
                exact gx_out C rfl (Nat.le_of_ble_eq_true rfl) (Nat.le_of_ble_eq_true rfl) (hS (by omega) (fun hh => by first | omega | (obtain ⟨j, j1, j2, j3, j4, j5⟩ := b60; exact hh.2 j j1 j2 ⟨j3, j4, j5⟩)))
              · omega
            · refine r_if_ne C dD_legacy_63 (by omega) (fun b63 => ?_) (fun b63 => ?_)
              · omega
              · refine r_ik C dD_legacy_66 ?_
                refine r_goto C dD_legacy_67 ?_
                refine r_callS C lzD_requireState dD_legacy_71 [_] [] rfl rfl (Nat.le_of_ble_eq_true rfl) ⟨(Nat.le_of_ble_eq_true rfl), (Nat.le_of_ble_eq_true rfl), (Nat.le_of_ble_eq_true rfl), (Nat.le_of_ble_eq_true rfl)⟩ rfl (cD_requireState C.2.2.2.2.2.1 rfl (by omega) (fun _ => ?_) (fun h => absurd h (by decide)))
                refine r_ald C dD_legacy_74 rfl ?_
                refine r_getR C dD_legacy_75 rfl rfl ?_
                refine r_ild C dD_legacy_78 rfl ?_
                refine r_ik C dD_legacy_79 ?_
                refine r_lld C dD_legacy_80 rfl ?_
                refine r_ild C dD_legacy_81 rfl ?_
                refine r_callV C lzC_write dD_legacy_83 _ [_, _, _, _] [] rfl rfl rfl rfl rfl (Nat.le_of_ble_eq_true rfl) ⟨(Nat.le_of_ble_eq_true rfl), (Nat.le_of_ble_eq_true rfl), (Nat.le_of_ble_eq_true rfl), (Nat.le_of_ble_eq_true rfl)⟩ rfl (cC_write C.2.2.2.2.2.1 (by omega) ?_)
                refine r_ald C dD_legacy_86 rfl ?_
                refine r_callV C lzD_noteFact dD_legacy_87 _ [] [] rfl rfl rfl rfl rfl (Nat.le_of_ble_eq_true rfl) ⟨(Nat.le_of_ble_eq_true rfl), (Nat.le_of_ble_eq_true rfl), (Nat.le_of_ble_eq_true rfl), (Nat.le_of_ble_eq_true rfl)⟩ rfl (cD_noteFact C.2.2.2.2.2.1 ?_)
                exact r_vret C dD_legacy_90 rfl (Nat.le_of_ble_eq_true rfl) (Nat.le_of_ble_eq_true rfl) (hn (by omega) ⟨by omega, b60⟩)
          · exact gx_out C rfl (Nat.le_of_ble_eq_true rfl) (Nat.le_of_ble_eq_true rfl) (hS (by omega) (fun hh => by first | omega | (obtain ⟨j, j1, j2, j3, j4, j5⟩ := b60; exact hh.2 j j1 j2 ⟨j3, j4, j5⟩)))
        · refine r_ald C dD_legacy_28 rfl ?_
          refine r_getR C dD_legacy_29 rfl rfl ?_
          refine r_getR C dD_legacy_32 rfl rfl ?_
          refine r_ild C dD_legacy_35 rfl ?_
          refine r_zald C dD_legacy_37 rfl ⟨by omega, by omega⟩ (by decide) ?_
          refine r_if_eq C dD_legacy_38 (by omega) (fun b38 => ?_) (fun b38 => ?_)
          · refine r_ik C dD_legacy_45 ?_
            refine r_callS C lzD_requireArgument dD_legacy_46 [_] [] rfl rfl (Nat.le_of_ble_eq_true rfl) ⟨(Nat.le_of_ble_eq_true rfl), (Nat.le_of_ble_eq_true rfl), (Nat.le_of_ble_eq_true rfl), (Nat.le_of_ble_eq_true rfl)⟩ rfl (cD_requireArgument C.2.2.2.2.2.1 rfl (by omega) (fun h => absurd rfl h) (fun _ => ?_))
            exact gx_out C rfl (Nat.le_of_ble_eq_true rfl) (Nat.le_of_ble_eq_true rfl) (hA (by omega))
          · refine r_ik C dD_legacy_41 ?_
            refine r_goto C dD_legacy_42 ?_
            refine r_callS C lzD_requireArgument dD_legacy_46 [_] [] rfl rfl (Nat.le_of_ble_eq_true rfl) ⟨(Nat.le_of_ble_eq_true rfl), (Nat.le_of_ble_eq_true rfl), (Nat.le_of_ble_eq_true rfl), (Nat.le_of_ble_eq_true rfl)⟩ rfl (cD_requireArgument C.2.2.2.2.2.1 rfl (by omega) (fun _ => ?_) (fun h => absurd h (by decide)))
            refine r_ald C dD_legacy_49 rfl ?_
            refine r_callV C lzD_requireOpen dD_legacy_50 _ [] [] rfl rfl rfl rfl rfl (Nat.le_of_ble_eq_true rfl) ⟨(Nat.le_of_ble_eq_true rfl), (Nat.le_of_ble_eq_true rfl), (Nat.le_of_ble_eq_true rfl), (Nat.le_of_ble_eq_true rfl)⟩ rfl (cD_requireOpen C.2.2.2.2.2.1 hc (fun b50 => ?_) (fun b50 => ?_))
            · refine r_ald C dD_legacy_53 rfl ?_
              refine r_getR C dD_legacy_54 rfl rfl ?_
              refine r_ild C dD_legacy_57 rfl ?_
              refine r_ild C dD_legacy_58 rfl ?_
              refine r_callV C lzC_anotherGives dD_legacy_60 _ [_, _] [] rfl rfl rfl rfl rfl (Nat.le_of_ble_eq_true rfl) ⟨(Nat.le_of_ble_eq_true rfl), (Nat.le_of_ble_eq_true rfl), (Nat.le_of_ble_eq_true rfl), (Nat.le_of_ble_eq_true rfl)⟩ rfl (cC_anotherGives C.2.2.2.2.2.1 (by omega) (by omega) hr hr2 (fun b60 => ?_) (fun b60 => ?_))
              · refine r_if_ne C dD_legacy_63 (by omega) (fun b63 => ?_) (fun b63 => ?_)
                · refine r_ik C dD_legacy_70 ?_
                  refine r_callS C lzD_requireState dD_legacy_71 [_] [] rfl rfl (Nat.le_of_ble_eq_true rfl) ⟨(Nat.le_of_ble_eq_true rfl), (Nat.le_of_ble_eq_true rfl), (Nat.le_of_ble_eq_true rfl), (Nat.le_of_ble_eq_true rfl)⟩ rfl (cD_requireState C.2.2.2.2.2.1 rfl (by omega) (fun h => absurd rfl h) (fun _ => ?_))
                  exact gx_out C rfl (Nat.le_of_ble_eq_true rfl) (Nat.le_of_ble_eq_true rfl) (hS (by omega) (fun hh => by first | omega | (obtain ⟨j, j1, j2, j3, j4, j5⟩ := b60; exact hh.2 j j1 j2 ⟨j3, j4, j5⟩)))
                · omega
              · refine r_if_ne C dD_legacy_63 (by omega) (fun b63 => ?_) (fun b63 => ?_)
                · omega
                · refine r_ik C dD_legacy_66 ?_
                  refine r_goto C dD_legacy_67 ?_
                  refine r_callS C lzD_requireState dD_legacy_71 [_] [] rfl rfl (Nat.le_of_ble_eq_true rfl) ⟨(Nat.le_of_ble_eq_true rfl), (Nat.le_of_ble_eq_true rfl), (Nat.le_of_ble_eq_true rfl), (Nat.le_of_ble_eq_true rfl)⟩ rfl (cD_requireState C.2.2.2.2.2.1 rfl (by omega) (fun _ => ?_) (fun h => absurd h (by decide)))
                  refine r_ald C dD_legacy_74 rfl ?_
                  refine r_getR C dD_legacy_75 rfl rfl ?_
                  refine r_ild C dD_legacy_78 rfl ?_
                  refine r_ik C dD_legacy_79 ?_
                  refine r_lld C dD_legacy_80 rfl ?_
                  refine r_ild C dD_legacy_81 rfl ?_
                  refine r_callV C lzC_write dD_legacy_83 _ [_, _, _, _] [] rfl rfl rfl rfl rfl (Nat.le_of_ble_eq_true rfl) ⟨(Nat.le_of_ble_eq_true rfl), (Nat.le_of_ble_eq_true rfl), (Nat.le_of_ble_eq_true rfl), (Nat.le_of_ble_eq_true rfl)⟩ rfl (cC_write C.2.2.2.2.2.1 (by omega) ?_)
                  refine r_ald C dD_legacy_86 rfl ?_
                  refine r_callV C lzD_noteFact dD_legacy_87 _ [] [] rfl rfl rfl rfl rfl (Nat.le_of_ble_eq_true rfl) ⟨(Nat.le_of_ble_eq_true rfl), (Nat.le_of_ble_eq_true rfl), (Nat.le_of_ble_eq_true rfl), (Nat.le_of_ble_eq_true rfl)⟩ rfl (cD_noteFact C.2.2.2.2.2.1 ?_)
                  exact r_vret C dD_legacy_90 rfl (Nat.le_of_ble_eq_true rfl) (Nat.le_of_ble_eq_true rfl) (hn (by omega) ⟨by omega, b60⟩)
            · exact gx_out C rfl (Nat.le_of_ble_eq_true rfl) (Nat.le_of_ble_eq_true rfl) (hS (by omega) (fun hh => by first | omega | (obtain ⟨j, j1, j2, j3, j4, j5⟩ := b60; exact hh.2 j j1 j2 ⟨j3, j4, j5⟩)))
      · exact gx_out C rfl (Nat.le_of_ble_eq_true rfl) (Nat.le_of_ble_eq_true rfl) (hA (by omega))
    · exact gx_out C rfl (Nat.le_of_ble_eq_true rfl) (Nat.le_of_ble_eq_true rfl) (hA (by omega))
  · exact gx_out C rfl (Nat.le_of_ble_eq_true rfl) (Nat.le_of_ble_eq_true rfl) (hA (by omega))
set_option maxRecDepth 100000 in
set_option maxHeartbeats 4000000 in
theorem cD_annuity {g : ed_g} {l : Launch} (hl : l.stackTraces = false) {I : ed_I} {L : ed_L} {c y a : Int} (rc : -2147483648 ≤ c ∧ c ≤ 2147483647) (ra : -2147483648 ≤ a ∧ a ≤ 2147483647) (ry : -9223372036854775808 ≤ y ∧ y ≤ 9223372036854775807) (hc : I 0 7 = 0 ∨ I 0 7 = 1) {post : ed_post} (hA : ¬ ((1 ≤ c ∧ c ≤ 40) ∧ (0 ≤ y ∧ y ≤ 1000000000) ∧ 0 ≤ a ∧ a ≤ 99) → post (.inr IAE) Yw I L) (hS : ((1 ≤ c ∧ c ≤ 40) ∧ (0 ≤ y ∧ y ≤ 1000000000) ∧ 0 ≤ a ∧ a ≤ 99) → ¬ (I 0 7 = 0) → post (.inr ISE) Yw I L) (hn : ((1 ≤ c ∧ c ≤ 40) ∧ (0 ≤ y ∧ y ≤ 1000000000) ∧ 0 ≤ a ∧ a ≤ 99) → (I 0 7 = 0) → post (.inl (none)) Yw (upI (upI (upI (upI I 15 c 3) 17 c 0) 18 c 1) 0 6 0) (upI L 16 c (anV y a))) : ed_Ct g l mD_annuity 4 4 24 [.ref 0, .int (iZ c), .long (lZ y), .int (iZ a)] Yw I L post := by
  refine ed_Ct.of hl rfl (Nat.le_of_ble_eq_true rfl) (fun x _ C => ?_)
  show Gd g x post _ _ _ _ _ _ _ _ 0 [(0, _), (1, _), (2, _), (4, _)] []
  refine r_ild C dD_annuity_0 rfl ?_
  refine r_i2l C dD_annuity_1 (by omega) ?_
  refine r_lk C dD_annuity_2 ?_
  refine r_lk C dD_annuity_3 ?_
  refine r_callS C lzD_requireWithin dD_annuity_6 [_, _, _] [] rfl rfl (Nat.le_of_ble_eq_true rfl) ⟨(Nat.le_of_ble_eq_true rfl), (Nat.le_of_ble_eq_true rfl), (Nat.le_of_ble_eq_true rfl), (Nat.le_of_ble_eq_true rfl)⟩ rfl (cD_requireWithin C.2.2.2.2.2.1 rfl (by omega) (fun b6 => ?_) (fun b6 => ?_))
  · refine r_lld C dD_annuity_9 rfl ?_
    refine r_lk C dD_annuity_10 ?_
    refine r_lk C dD_annuity_11 ?_
    refine r_callS C lzD_requireWithin dD_annuity_14 [_, _, _] [] rfl rfl (Nat.le_of_ble_eq_true rfl) ⟨(Nat.le_of_ble_eq_true rfl), (Nat.le_of_ble_eq_true rfl), (Nat.le_of_ble_eq_true rfl), (Nat.le_of_ble_eq_true rfl)⟩ rfl (cD_requireWithin C.2.2.2.2.2.1 rfl (by omega) (fun b14 => ?_) (fun b14 => ?_))
    · refine r_ild C dD_annuity_17 rfl ?_
      refine r_i2l C dD_annuity_19 (by omega) ?_
      refine r_lk C dD_annuity_20 ?_
      refine r_lk C dD_annuity_21 ?_
      refine r_callS C lzD_requireWithin dD_annuity_24 [_, _, _] [] rfl rfl (Nat.le_of_ble_eq_true rfl) ⟨(Nat.le_of_ble_eq_true rfl), (Nat.le_of_ble_eq_true rfl), (Nat.le_of_ble_eq_true rfl), (Nat.le_of_ble_eq_true rfl)⟩ rfl (cD_requireWithin C.2.2.2.2.2.1 rfl (by omega) (fun b24 => ?_) (fun b24 => ?_))
      · refine r_ald C dD_annuity_27 rfl ?_
        refine r_callV C lzD_requireOpen dD_annuity_28 _ [] [] rfl rfl rfl rfl rfl (Nat.le_of_ble_eq_true rfl) ⟨(Nat.le_of_ble_eq_true rfl), (Nat.le_of_ble_eq_true rfl), (Nat.le_of_ble_eq_true rfl), (Nat.le_of_ble_eq_true rfl)⟩ rfl (cD_requireOpen C.2.2.2.2.2.1 hc (fun b28 => ?_) (fun b28 => ?_))
        · refine r_ald C dD_annuity_31 rfl ?_
          refine r_getR C dD_annuity_32 rfl rfl ?_
          refine r_ild C dD_annuity_35 rfl ?_
          refine r_ik C dD_annuity_36 ?_
          refine r_lld C dD_annuity_37 rfl ?_
          refine r_ild C dD_annuity_38 rfl ?_
          refine r_callS C lzD_annuityValue dD_annuity_40 [_, _] [_, _, _] rfl rfl (Nat.le_of_ble_eq_true rfl) ⟨(Nat.le_of_ble_eq_true rfl), (Nat.le_of_ble_eq_true rfl), (Nat.le_of_ble_eq_true rfl), (Nat.le_of_ble_eq_true rfl)⟩ rfl (cD_annuityValue C.2.2.2.2.2.1 (by omega) (by omega) ?_)
          refine r_ik C dD_annuity_43 ?_
          refine r_callV C lzC_write dD_annuity_44 _ [_, _, _, _] [] rfl rfl rfl rfl rfl (Nat.le_of_ble_eq_true rfl) ⟨(Nat.le_of_ble_eq_true rfl), (Nat.le_of_ble_eq_true rfl), (Nat.le_of_ble_eq_true rfl), (Nat.le_of_ble_eq_true rfl)⟩ rfl (cC_write C.2.2.2.2.2.1 (by omega) ?_)
          refine r_ald C dD_annuity_47 rfl ?_
          refine r_callV C lzD_noteFact dD_annuity_48 _ [] [] rfl rfl rfl rfl rfl (Nat.le_of_ble_eq_true rfl) ⟨(Nat.le_of_ble_eq_true rfl), (Nat.le_of_ble_eq_true rfl), (Nat.le_of_ble_eq_true rfl), (Nat.le_of_ble_eq_true rfl)⟩ rfl (cD_noteFact C.2.2.2.2.2.1 ?_)
          exact r_vret C dD_annuity_51 rfl (Nat.le_of_ble_eq_true rfl) (Nat.le_of_ble_eq_true rfl) (hn (by omega) (by omega))
        · exact gx_out C rfl (Nat.le_of_ble_eq_true rfl) (Nat.le_of_ble_eq_true rfl) (hS (by omega) (by omega))
      · exact gx_out C rfl (Nat.le_of_ble_eq_true rfl) (Nat.le_of_ble_eq_true rfl) (hA (by omega))
    · exact gx_out C rfl (Nat.le_of_ble_eq_true rfl) (Nat.le_of_ble_eq_true rfl) (hA (by omega))
  · exact gx_out C rfl (Nat.le_of_ble_eq_true rfl) (Nat.le_of_ble_eq_true rfl) (hA (by omega))
set_option maxRecDepth 100000 in
set_option maxHeartbeats 4000000 in
theorem cD_residue {g : ed_g} {l : Launch} (hl : l.stackTraces = false) {I : ed_I} {L : ed_L} {c a : Int} (rc : -2147483648 ≤ c ∧ c ≤ 2147483647) (ra : -2147483648 ≤ a ∧ a ≤ 2147483647) (hc : I 0 7 = 0 ∨ I 0 7 = 1) {post : ed_post} (hA : ¬ ((1 ≤ c ∧ c ≤ 40) ∧ 1 ≤ a ∧ a ≤ 1000) → post (.inr IAE) Yw I L) (hS : ((1 ≤ c ∧ c ≤ 40) ∧ 1 ≤ a ∧ a ≤ 1000) → ¬ (I 0 7 = 0) → post (.inr ISE) Yw I L) (hn : ((1 ≤ c ∧ c ≤ 40) ∧ 1 ≤ a ∧ a ≤ 1000) → (I 0 7 = 0) → post (.inl (none)) Yw (upI (upI (upI (upI I 15 c 4) 17 c 0) 18 c 1) 0 6 0) (upI L 16 c a)) : ed_Ct g l mD_residue 4 3 18 [.ref 0, .int (iZ c), .int (iZ a)] Yw I L post := by
  refine ed_Ct.of hl rfl (Nat.le_of_ble_eq_true rfl) (fun x _ C => ?_)
  show Gd g x post _ _ _ _ _ _ _ _ 0 [(0, _), (1, _), (2, _)] []
  refine r_ild C dD_residue_0 rfl ?_
  refine r_i2l C dD_residue_1 (by omega) ?_
  refine r_lk C dD_residue_2 ?_
  refine r_lk C dD_residue_3 ?_
  refine r_callS C lzD_requireWithin dD_residue_6 [_, _, _] [] rfl rfl (Nat.le_of_ble_eq_true rfl) ⟨(Nat.le_of_ble_eq_true rfl), (Nat.le_of_ble_eq_true rfl), (Nat.le_of_ble_eq_true rfl), (Nat.le_of_ble_eq_true rfl)⟩ rfl (cD_requireWithin C.2.2.2.2.2.1 rfl (by omega) (fun b6 => ?_) (fun b6 => ?_))
  · refine r_ild C dD_residue_9 rfl ?_
    refine r_i2l C dD_residue_10 (by omega) ?_
    refine r_lk C dD_residue_11 ?_
    refine r_lk C dD_residue_12 ?_
    refine r_callS C lzD_requireWithin dD_residue_15 [_, _, _] [] rfl rfl (Nat.le_of_ble_eq_true rfl) ⟨(Nat.le_of_ble_eq_true rfl), (Nat.le_of_ble_eq_true rfl), (Nat.le_of_ble_eq_true rfl), (Nat.le_of_ble_eq_true rfl)⟩ rfl (cD_requireWithin C.2.2.2.2.2.1 rfl (by omega) (fun b15 => ?_) (fun b15 => ?_))
    · refine r_ald C dD_residue_18 rfl ?_
      refine r_callV C lzD_requireOpen dD_residue_19 _ [] [] rfl rfl rfl rfl rfl (Nat.le_of_ble_eq_true rfl) ⟨(Nat.le_of_ble_eq_true rfl), (Nat.le_of_ble_eq_true rfl), (Nat.le_of_ble_eq_true rfl), (Nat.le_of_ble_eq_true rfl)⟩ rfl (cD_requireOpen C.2.2.2.2.2.1 hc (fun b19 => ?_) (fun b19 => ?_))
      · refine r_ald C dD_residue_22 rfl ?_
        refine r_getR C dD_residue_23 rfl rfl ?_
        refine r_ild C dD_residue_26 rfl ?_
        refine r_ik C dD_residue_27 ?_
        refine r_ild C dD_residue_28 rfl ?_
        refine r_i2l C dD_residue_29 (by omega) ?_
        refine r_ik C dD_residue_30 ?_
        refine r_callV C lzC_write dD_residue_31 _ [_, _, _, _] [] rfl rfl rfl rfl rfl (Nat.le_of_ble_eq_true rfl) ⟨(Nat.le_of_ble_eq_true rfl), (Nat.le_of_ble_eq_true rfl), (Nat.le_of_ble_eq_true rfl), (Nat.le_of_ble_eq_true rfl)⟩ rfl (cC_write C.2.2.2.2.2.1 (by omega) ?_)
        refine r_ald C dD_residue_34 rfl ?_
        refine r_callV C lzD_noteFact dD_residue_35 _ [] [] rfl rfl rfl rfl rfl (Nat.le_of_ble_eq_true rfl) ⟨(Nat.le_of_ble_eq_true rfl), (Nat.le_of_ble_eq_true rfl), (Nat.le_of_ble_eq_true rfl), (Nat.le_of_ble_eq_true rfl)⟩ rfl (cD_noteFact C.2.2.2.2.2.1 ?_)
        exact r_vret C dD_residue_38 rfl (Nat.le_of_ble_eq_true rfl) (Nat.le_of_ble_eq_true rfl) (hn (by omega) (by omega))
      · exact gx_out C rfl (Nat.le_of_ble_eq_true rfl) (Nat.le_of_ble_eq_true rfl) (hS (by omega) (by omega))
    · exact gx_out C rfl (Nat.le_of_ble_eq_true rfl) (Nat.le_of_ble_eq_true rfl) (hA (by omega))
  · exact gx_out C rfl (Nat.le_of_ble_eq_true rfl) (Nat.le_of_ble_eq_true rfl) (hA (by omega))
set_option maxRecDepth 100000 in
set_option maxHeartbeats 4000000 in
theorem cD_strike {g : ed_g} {l : Launch} (hl : l.stackTraces = false) {I : ed_I} {L : ed_L} {c : Int} (rc : -2147483648 ≤ c ∧ c ≤ 2147483647) (hc : I 0 7 = 0 ∨ I 0 7 = 1) {post : ed_post} (hA : ¬ (1 ≤ c ∧ c ≤ 40) → post (.inr IAE) Yw I L) (hS : (1 ≤ c ∧ c ≤ 40) → ¬ (I 0 7 = 0) → post (.inr ISE) Yw I L) (hn : (1 ≤ c ∧ c ≤ 40) → (I 0 7 = 0) → post (.inl (none)) Yw (upI (upI (upI (upI I 15 c 0) 17 c 0) 18 c 1) 0 6 0) (upI L 16 c 0)) : ed_Ct g l mD_strike 4 2 12 [.ref 0, .int (iZ c)] Yw I L post := by
  refine ed_Ct.of hl rfl (Nat.le_of_ble_eq_true rfl) (fun x _ C => ?_)
  show Gd g x post _ _ _ _ _ _ _ _ 0 [(0, _), (1, _)] []
  refine r_ild C dD_strike_0 rfl ?_
  refine r_i2l C dD_strike_1 (by omega) ?_
  refine r_lk C dD_strike_2 ?_
  refine r_lk C dD_strike_3 ?_
  refine r_callS C lzD_requireWithin dD_strike_6 [_, _, _] [] rfl rfl (Nat.le_of_ble_eq_true rfl) ⟨(Nat.le_of_ble_eq_true rfl), (Nat.le_of_ble_eq_true rfl), (Nat.le_of_ble_eq_true rfl), (Nat.le_of_ble_eq_true rfl)⟩ rfl (cD_requireWithin C.2.2.2.2.2.1 rfl (by omega) (fun b6 => ?_) (fun b6 => ?_))
  · refine r_ald C dD_strike_9 rfl ?_
    refine r_callV C lzD_requireOpen dD_strike_10 _ [] [] rfl rfl rfl rfl rfl (Nat.le_of_ble_eq_true rfl) ⟨(Nat.le_of_ble_eq_true rfl), (Nat.le_of_ble_eq_true rfl), (Nat.le_of_ble_eq_true rfl), (Nat.le_of_ble_eq_true rfl)⟩ rfl (cD_requireOpen C.2.2.2.2.2.1 hc (fun b10 => ?_) (fun b10 => ?_))
    · refine r_ald C dD_strike_13 rfl ?_
      refine r_getR C dD_strike_14 rfl rfl ?_
      refine r_ild C dD_strike_17 rfl ?_
      refine r_ik C dD_strike_18 ?_
      refine r_lk C dD_strike_19 ?_
      refine r_ik C dD_strike_20 ?_
      refine r_callV C lzC_write dD_strike_21 _ [_, _, _, _] [] rfl rfl rfl rfl rfl (Nat.le_of_ble_eq_true rfl) ⟨(Nat.le_of_ble_eq_true rfl), (Nat.le_of_ble_eq_true rfl), (Nat.le_of_ble_eq_true rfl), (Nat.le_of_ble_eq_true rfl)⟩ rfl (cC_write C.2.2.2.2.2.1 (by omega) ?_)
      refine r_ald C dD_strike_24 rfl ?_
      refine r_callV C lzD_noteFact dD_strike_25 _ [] [] rfl rfl rfl rfl rfl (Nat.le_of_ble_eq_true rfl) ⟨(Nat.le_of_ble_eq_true rfl), (Nat.le_of_ble_eq_true rfl), (Nat.le_of_ble_eq_true rfl), (Nat.le_of_ble_eq_true rfl)⟩ rfl (cD_noteFact C.2.2.2.2.2.1 ?_)
      exact r_vret C dD_strike_28 rfl (Nat.le_of_ble_eq_true rfl) (Nat.le_of_ble_eq_true rfl) (hn (by omega) (by omega))
    · exact gx_out C rfl (Nat.le_of_ble_eq_true rfl) (Nat.le_of_ble_eq_true rfl) (hS (by omega) (by omega))
  · exact gx_out C rfl (Nat.le_of_ble_eq_true rfl) (Nat.le_of_ble_eq_true rfl) (hA (by omega))
theorem ed_row : ∀ n : Nat, n < 41 → ed_lay[20 + n]? = some (.inr (0, 5, 0))
  | 0, _ => rfl
  | 1, _ => rfl
  | 2, _ => rfl
  | 3, _ => rfl
  | 4, _ => rfl
  | 5, _ => rfl
  | 6, _ => rfl
  | 7, _ => rfl
  | 8, _ => rfl
  | 9, _ => rfl
  | 10, _ => rfl
  | 11, _ => rfl
  | 12, _ => rfl
  | 13, _ => rfl
  | 14, _ => rfl
  | 15, _ => rfl
  | 16, _ => rfl
  | 17, _ => rfl
  | 18, _ => rfl
  | 19, _ => rfl
  | 20, _ => rfl
  | 21, _ => rfl
  | 22, _ => rfl
  | 23, _ => rfl
  | 24, _ => rfl
  | 25, _ => rfl
  | 26, _ => rfl
  | 27, _ => rfl
  | 28, _ => rfl
  | 29, _ => rfl
  | 30, _ => rfl
  | 31, _ => rfl
  | 32, _ => rfl
  | 33, _ => rfl
  | 34, _ => rfl
  | 35, _ => rfl
  | 36, _ => rfl
  | 37, _ => rfl
  | 38, _ => rfl
  | 39, _ => rfl
  | 40, _ => rfl
  | n + 41, h => absurd h (by omega)
set_option maxRecDepth 100000 in
set_option maxHeartbeats 4000000 in
theorem cD_taker {g : ed_g} {l : Launch} (hl : l.stackTraces = false) {I : ed_I} {L : ed_L} {c r p : Int} (rc : -2147483648 ≤ c ∧ c ≤ 2147483647) (rr : -2147483648 ≤ r ∧ r ≤ 2147483647) (rp : -2147483648 ≤ p ∧ p ≤ 2147483647) (hc : I 0 7 = 0 ∨ I 0 7 = 1) {post : ed_post} (hA : ¬ ((1 ≤ c ∧ c ≤ 40) ∧ (1 ≤ r ∧ r ≤ 4) ∧ 0 ≤ p ∧ p ≤ 40) → post (.inr IAE) Yw I L) (hS : ((1 ≤ c ∧ c ≤ 40) ∧ (1 ≤ r ∧ r ≤ 4) ∧ 0 ≤ p ∧ p ≤ 40) → ¬ (I 0 7 = 0) → post (.inr ISE) Yw I L) (hn : ((1 ≤ c ∧ c ≤ 40) ∧ (1 ≤ r ∧ r ≤ 4) ∧ 0 ≤ p ∧ p ≤ 40) → (I 0 7 = 0) → post (.inl (none)) Yw (upI (upI I (20 + c.toNat) r p) 0 6 0) L) : ed_Ct g l mD_taker 4 4 24 [.ref 0, .int (iZ c), .int (iZ r), .int (iZ p)] Yw I L post := by
  refine ed_Ct.of hl rfl (Nat.le_of_ble_eq_true rfl) (fun x _ C => ?_)
  show Gd g x post _ _ _ _ _ _ _ _ 0 [(0, _), (1, _), (2, _), (3, _)] []
  refine r_ild C dD_taker_0 rfl ?_
  refine r_i2l C dD_taker_1 (by omega) ?_
  refine r_lk C dD_taker_2 ?_
  refine r_lk C dD_taker_3 ?_
  refine r_callS C lzD_requireWithin dD_taker_6 [_, _, _] [] rfl rfl (Nat.le_of_ble_eq_true rfl) ⟨(Nat.le_of_ble_eq_true rfl), (Nat.le_of_ble_eq_true rfl), (Nat.le_of_ble_eq_true rfl), (Nat.le_of_ble_eq_true rfl)⟩ rfl (cD_requireWithin C.2.2.2.2.2.1 rfl (by omega) (fun b6 => ?_) (fun b6 => ?_))
  · refine r_ild C dD_taker_9 rfl ?_
    refine r_i2l C dD_taker_10 (by omega) ?_
    refine r_lk C dD_taker_11 ?_
    refine r_lk C dD_taker_12 ?_
    refine r_callS C lzD_requireWithin dD_taker_15 [_, _, _] [] rfl rfl (Nat.le_of_ble_eq_true rfl) ⟨(Nat.le_of_ble_eq_true rfl), (Nat.le_of_ble_eq_true rfl), (Nat.le_of_ble_eq_true rfl), (Nat.le_of_ble_eq_true rfl)⟩ rfl (cD_requireWithin C.2.2.2.2.2.1 rfl (by omega) (fun b15 => ?_) (fun b15 => ?_))
    · refine r_ild C dD_taker_18 rfl ?_
      refine r_i2l C dD_taker_19 (by omega) ?_
      refine r_lk C dD_taker_20 ?_
      refine r_lk C dD_taker_21 ?_
      refine r_callS C lzD_requireWithin dD_taker_24 [_, _, _] [] rfl rfl (Nat.le_of_ble_eq_true rfl) ⟨(Nat.le_of_ble_eq_true rfl), (Nat.le_of_ble_eq_true rfl), (Nat.le_of_ble_eq_true rfl), (Nat.le_of_ble_eq_true rfl)⟩ rfl (cD_requireWithin C.2.2.2.2.2.1 rfl (by omega) (fun b24 => ?_) (fun b24 => ?_))
      · refine r_ald C dD_taker_27 rfl ?_
        refine r_callV C lzD_requireOpen dD_taker_28 _ [] [] rfl rfl rfl rfl rfl (Nat.le_of_ble_eq_true rfl) ⟨(Nat.le_of_ble_eq_true rfl), (Nat.le_of_ble_eq_true rfl), (Nat.le_of_ble_eq_true rfl), (Nat.le_of_ble_eq_true rfl)⟩ rfl (cD_requireOpen C.2.2.2.2.2.1 hc (fun b28 => ?_) (fun b28 => ?_))
        · refine r_ald C dD_taker_31 rfl ?_
          refine r_getR C dD_taker_32 rfl rfl ?_
          refine r_getR C dD_taker_35 rfl rfl ?_
          refine r_ild C dD_taker_38 rfl ?_
          refine r_aald C dD_taker_39 rfl ⟨by omega, by omega⟩ (by decide) ?_
          refine r_ild C dD_taker_40 rfl ?_
          refine r_ild C dD_taker_41 rfl ?_
          refine r_iast C dD_taker_42 rfl (ed_row c.toNat (by omega)) ⟨by omega, by omega⟩ (by decide) ?_
          refine r_ald C dD_taker_43 rfl ?_
          refine r_callV C lzD_noteFact dD_taker_44 _ [] [] rfl rfl rfl rfl rfl (Nat.le_of_ble_eq_true rfl) ⟨(Nat.le_of_ble_eq_true rfl), (Nat.le_of_ble_eq_true rfl), (Nat.le_of_ble_eq_true rfl), (Nat.le_of_ble_eq_true rfl)⟩ rfl (cD_noteFact C.2.2.2.2.2.1 ?_)
          exact r_vret C dD_taker_47 rfl (Nat.le_of_ble_eq_true rfl) (Nat.le_of_ble_eq_true rfl) (hn (by omega) (by omega))
        · exact gx_out C rfl (Nat.le_of_ble_eq_true rfl) (Nat.le_of_ble_eq_true rfl) (hS (by omega) (by omega))
      · exact gx_out C rfl (Nat.le_of_ble_eq_true rfl) (Nat.le_of_ble_eq_true rfl) (hA (by omega))
    · exact gx_out C rfl (Nat.le_of_ble_eq_true rfl) (Nat.le_of_ble_eq_true rfl) (hA (by omega))
  · exact gx_out C rfl (Nat.le_of_ble_eq_true rfl) (Nat.le_of_ble_eq_true rfl) (hA (by omega))
set_option maxRecDepth 100000 in
set_option maxHeartbeats 4000000 in
theorem cD_charge {g : ed_g} {l : Launch} (hl : l.stackTraces = false) {I : ed_I} {L : ed_L} {c f : Int} (rc : -2147483648 ≤ c ∧ c ≤ 2147483647) (hf : f = 0 ∨ f = 1) (hc : I 0 7 = 0 ∨ I 0 7 = 1) (hr2 : ∀ j, 0 ≤ j → j ≤ 40 → -1 ≤ I 15 j ∧ I 15 j ≤ 100000) {post : ed_post} (hA : ¬ ((1 ≤ c ∧ c ≤ 40) ∧ I 15 c = 1) → post (.inr IAE) Yw I L) (hS : ((1 ≤ c ∧ c ≤ 40) ∧ I 15 c = 1) → ¬ (I 0 7 = 0) → post (.inr ISE) Yw I L) (hn : ((1 ≤ c ∧ c ≤ 40) ∧ I 15 c = 1) → (I 0 7 = 0) → post (.inl (none)) Yw (upI (upI I 18 c f) 0 6 0) L) : ed_Ct g l mD_charge 4 3 18 [.ref 0, .int (iZ c), .int (iZ f)] Yw I L post := by
  refine ed_Ct.of hl rfl (Nat.le_of_ble_eq_true rfl) (fun x _ C => ?_)
  show Gd g x post _ _ _ _ _ _ _ _ 0 [(0, _), (1, _), (2, _)] []
  have hr3 := fun (h : 0 ≤ c ∧ c ≤ 40) => hr2 c h.1 h.2
  refine r_ild C dD_charge_0 rfl ?_
  refine r_i2l C dD_charge_1 (by omega) ?_
  refine r_lk C dD_charge_2 ?_
  refine r_lk C dD_charge_3 ?_
  refine r_callS C lzD_requireWithin dD_charge_6 [_, _, _] [] rfl rfl (Nat.le_of_ble_eq_true rfl) ⟨(Nat.le_of_ble_eq_true rfl), (Nat.le_of_ble_eq_true rfl), (Nat.le_of_ble_eq_true rfl), (Nat.le_of_ble_eq_true rfl)⟩ rfl (cD_requireWithin C.2.2.2.2.2.1 rfl (by omega) (fun b6 => ?_) (fun b6 => ?_))
  · refine r_ald C dD_charge_9 rfl ?_
    refine r_getR C dD_charge_10 rfl rfl ?_
    refine r_getR C dD_charge_13 rfl rfl ?_
    refine r_ild C dD_charge_16 rfl ?_
    refine r_iald C dD_charge_17 rfl ⟨by omega, by omega⟩ (by decide) ?_
    refine r_ik C dD_charge_18 ?_
    refine r_icmp_ne C dD_charge_19 (by omega) (fun b19 => ?_) (fun b19 => ?_)
    · refine r_ik C dD_charge_26 ?_
      refine r_callS C lzD_requireArgument dD_charge_27 [_] [] rfl rfl (Nat.le_of_ble_eq_true rfl) ⟨(Nat.le_of_ble_eq_true rfl), (Nat.le_of_ble_eq_true rfl), (Nat.le_of_ble_eq_true rfl), (Nat.le_of_ble_eq_true rfl)⟩ rfl (cD_requireArgument C.2.2.2.2.2.1 rfl (by omega) (fun h => absurd rfl h) (fun _ => ?_))
      exact gx_out C rfl (Nat.le_of_ble_eq_true rfl) (Nat.le_of_ble_eq_true rfl) (hA (by omega))
    · refine r_ik C dD_charge_22 ?_
      refine r_goto C dD_charge_23 ?_
      refine r_callS C lzD_requireArgument dD_charge_27 [_] [] rfl rfl (Nat.le_of_ble_eq_true rfl) ⟨(Nat.le_of_ble_eq_true rfl), (Nat.le_of_ble_eq_true rfl), (Nat.le_of_ble_eq_true rfl), (Nat.le_of_ble_eq_true rfl)⟩ rfl (cD_requireArgument C.2.2.2.2.2.1 rfl (by omega) (fun _ => ?_) (fun h => absurd h (by decide)))
      refine r_ald C dD_charge_30 rfl ?_
      refine r_callV C lzD_requireOpen dD_charge_31 _ [] [] rfl rfl rfl rfl rfl (Nat.le_of_ble_eq_true rfl) ⟨(Nat.le_of_ble_eq_true rfl), (Nat.le_of_ble_eq_true rfl), (Nat.le_of_ble_eq_true rfl), (Nat.le_of_ble_eq_true rfl)⟩ rfl (cD_requireOpen C.2.2.2.2.2.1 hc (fun b31 => ?_) (fun b31 => ?_))
      · refine r_ald C dD_charge_34 rfl ?_
        refine r_getR C dD_charge_35 rfl rfl ?_
        refine r_getR C dD_charge_38 rfl rfl ?_
        refine r_ild C dD_charge_41 rfl ?_
        refine r_ild C dD_charge_42 rfl ?_
        refine r_zast C dD_charge_43 rfl rfl ⟨by omega, by omega⟩ (by decide) (by omega) ?_
        refine r_ald C dD_charge_44 rfl ?_
        refine r_callV C lzD_noteFact dD_charge_45 _ [] [] rfl rfl rfl rfl rfl (Nat.le_of_ble_eq_true rfl) ⟨(Nat.le_of_ble_eq_true rfl), (Nat.le_of_ble_eq_true rfl), (Nat.le_of_ble_eq_true rfl), (Nat.le_of_ble_eq_true rfl)⟩ rfl (cD_noteFact C.2.2.2.2.2.1 ?_)
        exact r_vret C dD_charge_48 rfl (Nat.le_of_ble_eq_true rfl) (Nat.le_of_ble_eq_true rfl) (hn (by omega) (by omega))
      · exact gx_out C rfl (Nat.le_of_ble_eq_true rfl) (Nat.le_of_ble_eq_true rfl) (hS (by omega) (by omega))
  · exact gx_out C rfl (Nat.le_of_ble_eq_true rfl) (Nat.le_of_ble_eq_true rfl) (hA (by omega))
set_option maxRecDepth 100000 in
set_option maxHeartbeats 4000000 in
theorem cD_debt {g : ed_g} {l : Launch} (hl : l.stackTraces = false) {I : ed_I} {L : ed_L} {c v a : Int} (rc : -2147483648 ≤ c ∧ c ≤ 2147483647) (ra : -2147483648 ≤ a ∧ a ≤ 2147483647) (rv : -9223372036854775808 ≤ v ∧ v ≤ 9223372036854775807) (hc : I 0 7 = 0 ∨ I 0 7 = 1) (hk : ∀ j, 0 ≤ j → j ≤ 40 → I 7 j = 0 ∨ I 7 j = 1) {post : ed_post} (hA : ¬ ((1 ≤ c ∧ c ≤ 40) ∧ (0 ≤ v ∧ v ≤ 1000000000000) ∧ (a = 0 ∨ ((1 ≤ a ∧ a ≤ 40) ∧ I 7 a ≠ 0))) → post (.inr IAE) Yw I L) (hS : ((1 ≤ c ∧ c ≤ 40) ∧ (0 ≤ v ∧ v ≤ 1000000000000) ∧ (a = 0 ∨ ((1 ≤ a ∧ a ≤ 40) ∧ I 7 a ≠ 0))) → ¬ (I 0 7 = 0) → post (.inr ISE) Yw I L) (hn : ((1 ≤ c ∧ c ≤ 40) ∧ (0 ≤ v ∧ v ≤ 1000000000000) ∧ (a = 0 ∨ ((1 ≤ a ∧ a ≤ 40) ∧ I 7 a ≠ 0))) → (I 0 7 = 0) → post (.inl (none)) Yw (upI (upI I 71 c a) 0 6 0) (upI L 70 c v)) : ed_Ct g l mD_debt 4 5 30 [.ref 0, .int (iZ c), .long (lZ v), .int (iZ a)] Yw I L post := by
  refine ed_Ct.of hl rfl (Nat.le_of_ble_eq_true rfl) (fun x _ C => ?_)
  show Gd g x post _ _ _ _ _ _ _ _ 0 [(0, _), (1, _), (2, _), (4, _)] []
  refine r_ild C dD_debt_0 rfl ?_
  refine r_i2l C dD_debt_1 (by omega) ?_
  refine r_lk C dD_debt_2 ?_
  refine r_lk C dD_debt_3 ?_
  refine r_callS C lzD_requireWithin dD_debt_6 [_, _, _] [] rfl rfl (Nat.le_of_ble_eq_true rfl) ⟨(Nat.le_of_ble_eq_true rfl), (Nat.le_of_ble_eq_true rfl), (Nat.le_of_ble_eq_true rfl), (Nat.le_of_ble_eq_true rfl)⟩ rfl (cD_requireWithin C.2.2.2.2.2.1 rfl (by omega) (fun b6 => ?_) (fun b6 => ?_))
  · refine r_lld C dD_debt_9 rfl ?_
    refine r_lk C dD_debt_10 ?_
    refine r_lk C dD_debt_11 ?_
    refine r_callS C lzD_requireWithin dD_debt_14 [_, _, _] [] rfl rfl (Nat.le_of_ble_eq_true rfl) ⟨(Nat.le_of_ble_eq_true rfl), (Nat.le_of_ble_eq_true rfl), (Nat.le_of_ble_eq_true rfl), (Nat.le_of_ble_eq_true rfl)⟩ rfl (cD_requireWithin C.2.2.2.2.2.1 rfl (by omega) (fun b14 => ?_) (fun b14 => ?_))
    · refine r_ald C dD_debt_17 rfl ?_
      refine r_ild C dD_debt_18 rfl ?_
      refine r_callV C lzD_requireAssetOrNone dD_debt_20 _ [_] [] rfl rfl rfl rfl rfl (Nat.le_of_ble_eq_true rfl) ⟨(Nat.le_of_ble_eq_true rfl), (Nat.le_of_ble_eq_true rfl), (Nat.le_of_ble_eq_true rfl), (Nat.le_of_ble_eq_true rfl)⟩ rfl (cD_requireAssetOrNone C.2.2.2.2.2.1 (by omega) hk (fun b20 => ?_) (fun b20 => ?_))
      · refine r_ald C dD_debt_23 rfl ?_
        refine r_callV C lzD_requireOpen dD_debt_24 _ [] [] rfl rfl rfl rfl rfl (Nat.le_of_ble_eq_true rfl) ⟨(Nat.le_of_ble_eq_true rfl), (Nat.le_of_ble_eq_true rfl), (Nat.le_of_ble_eq_true rfl), (Nat.le_of_ble_eq_true rfl)⟩ rfl (cD_requireOpen C.2.2.2.2.2.1 hc (fun b24 => ?_) (fun b24 => ?_))
        · refine r_ald C dD_debt_27 rfl ?_
          refine r_getR C dD_debt_28 rfl rfl ?_
          refine r_getR C dD_debt_31 rfl rfl ?_
          refine r_ild C dD_debt_34 rfl ?_
          refine r_lld C dD_debt_35 rfl ?_
          refine r_last C dD_debt_36 rfl rfl ⟨by omega, by omega⟩ (by decide) ?_
          refine r_ald C dD_debt_37 rfl ?_
          refine r_getR C dD_debt_38 rfl rfl ?_
          refine r_getR C dD_debt_41 rfl rfl ?_
          refine r_ild C dD_debt_44 rfl ?_
          refine r_ild C dD_debt_45 rfl ?_
          refine r_iast C dD_debt_47 rfl rfl ⟨by omega, by omega⟩ (by decide) ?_
          refine r_ald C dD_debt_48 rfl ?_
          refine r_callV C lzD_noteFact dD_debt_49 _ [] [] rfl rfl rfl rfl rfl (Nat.le_of_ble_eq_true rfl) ⟨(Nat.le_of_ble_eq_true rfl), (Nat.le_of_ble_eq_true rfl), (Nat.le_of_ble_eq_true rfl), (Nat.le_of_ble_eq_true rfl)⟩ rfl (cD_noteFact C.2.2.2.2.2.1 ?_)
          exact r_vret C dD_debt_52 rfl (Nat.le_of_ble_eq_true rfl) (Nat.le_of_ble_eq_true rfl) (hn (by omega) (by omega))
        · exact gx_out C rfl (Nat.le_of_ble_eq_true rfl) (Nat.le_of_ble_eq_true rfl) (hS (by omega) (by omega))
      · exact gx_out C rfl (Nat.le_of_ble_eq_true rfl) (Nat.le_of_ble_eq_true rfl) (hA (by omega))
    · exact gx_out C rfl (Nat.le_of_ble_eq_true rfl) (Nat.le_of_ble_eq_true rfl) (hA (by omega))
  · exact gx_out C rfl (Nat.le_of_ble_eq_true rfl) (Nat.le_of_ble_eq_true rfl) (hA (by omega))
set_option maxRecDepth 100000 in
set_option maxHeartbeats 4000000 in
theorem cD_assetTo {g : ed_g} {l : Launch} (hl : l.stackTraces = false) {I : ed_I} {L : ed_L} {a : Int} (ra : -2147483648 ≤ a ∧ a ≤ 2147483647) (hs : I 0 5 = 0 ∨ I 0 5 = 1) {post : ed_post} (hA : ¬ (1 ≤ a ∧ a ≤ 40) → post (.inr IAE) Yw I L) (hS : (1 ≤ a ∧ a ≤ 40) → ¬ (I 0 5 ≠ 0) → post (.inr ISE) Yw I L) (hn : (1 ≤ a ∧ a ≤ 40) → (I 0 5 ≠ 0) → post (.inl (some (.int (iZ (I 13 a))))) Yw I L) : ed_Ct g l mD_assetTo 4 2 12 [.ref 0, .int (iZ a)] Yw I L post := by
  refine ed_Ct.of hl rfl (Nat.le_of_ble_eq_true rfl) (fun x _ C => ?_)
  show Gd g x post _ _ _ _ _ _ _ _ 0 [(0, _), (1, _)] []
  refine r_ild C dD_assetTo_0 rfl ?_
  refine r_i2l C dD_assetTo_1 (by omega) ?_
  refine r_lk C dD_assetTo_2 ?_
  refine r_lk C dD_assetTo_3 ?_
  refine r_callS C lzD_requireWithin dD_assetTo_6 [_, _, _] [] rfl rfl (Nat.le_of_ble_eq_true rfl) ⟨(Nat.le_of_ble_eq_true rfl), (Nat.le_of_ble_eq_true rfl), (Nat.le_of_ble_eq_true rfl), (Nat.le_of_ble_eq_true rfl)⟩ rfl (cD_requireWithin C.2.2.2.2.2.1 rfl (by omega) (fun b6 => ?_) (fun b6 => ?_))
  · refine r_ald C dD_assetTo_9 rfl ?_
    refine r_getI (z := 5) C dD_assetTo_10 rfl rfl rfl ?_
    refine r_callS C lzD_requireState dD_assetTo_13 [_] [] rfl rfl (Nat.le_of_ble_eq_true rfl) ⟨(Nat.le_of_ble_eq_true rfl), (Nat.le_of_ble_eq_true rfl), (Nat.le_of_ble_eq_true rfl), (Nat.le_of_ble_eq_true rfl)⟩ rfl (cD_requireState C.2.2.2.2.2.1 rfl (by omega) (fun b13 => ?_) (fun b13 => ?_))
    · refine r_ald C dD_assetTo_16 rfl ?_
      refine r_getR C dD_assetTo_17 rfl rfl ?_
      refine r_getR C dD_assetTo_20 rfl rfl ?_
      refine r_ild C dD_assetTo_23 rfl ?_
      refine r_iald C dD_assetTo_24 rfl ⟨by omega, by omega⟩ (by decide) ?_
      exact r_iret C dD_assetTo_25 rfl (Nat.le_of_ble_eq_true rfl) (Nat.le_of_ble_eq_true rfl) (hn (by omega) (by omega))
    · exact gx_out C rfl (Nat.le_of_ble_eq_true rfl) (Nat.le_of_ble_eq_true rfl) (hS (by omega) (by omega))
  · exact gx_out C rfl (Nat.le_of_ble_eq_true rfl) (Nat.le_of_ble_eq_true rfl) (hA (by omega))
set_option maxRecDepth 100000 in
set_option maxHeartbeats 4000000 in
theorem cD_clauseState {g : ed_g} {l : Launch} (hl : l.stackTraces = false) {I : ed_I} {L : ed_L} {a : Int} (ra : -2147483648 ≤ a ∧ a ≤ 2147483647) (hs : I 0 5 = 0 ∨ I 0 5 = 1) {post : ed_post} (hA : ¬ (1 ≤ a ∧ a ≤ 40) → post (.inr IAE) Yw I L) (hS : (1 ≤ a ∧ a ≤ 40) → ¬ (I 0 5 ≠ 0) → post (.inr ISE) Yw I L) (hn : (1 ≤ a ∧ a ≤ 40) → (I 0 5 ≠ 0) → post (.inl (some (.int (iZ (I 61 a))))) Yw I L) : ed_Ct g l mD_clauseState 4 2 12 [.ref 0, .int (iZ a)] Yw I L post := by
  refine ed_Ct.of hl rfl (Nat.le_of_ble_eq_true rfl) (fun x _ C => ?_)
  show Gd g x post _ _ _ _ _ _ _ _ 0 [(0, _), (1, _)] []
  refine r_ild C dD_clauseState_0 rfl ?_
  refine r_i2l C dD_clauseState_1 (by omega) ?_
  refine r_lk C dD_clauseState_2 ?_
  refine r_lk C dD_clauseState_3 ?_
  refine r_callS C lzD_requireWithin dD_clauseState_6 [_, _, _] [] rfl rfl (Nat.le_of_ble_eq_true rfl) ⟨(Nat.le_of_ble_eq_true rfl), (Nat.le_of_ble_eq_true rfl), (Nat.le_of_ble_eq_true rfl), (Nat.le_of_ble_eq_true rfl)⟩ rfl (cD_requireWithin C.2.2.2.2.2.1 rfl (by omega) (fun b6 => ?_) (fun b6 => ?_))
  · refine r_ald C dD_clauseState_9 rfl ?_
    refine r_getI (z := 5) C dD_clauseState_10 rfl rfl rfl ?_
    refine r_callS C lzD_requireState dD_clauseState_13 [_] [] rfl rfl (Nat.le_of_ble_eq_true rfl) ⟨(Nat.le_of_ble_eq_true rfl), (Nat.le_of_ble_eq_true rfl), (Nat.le_of_ble_eq_true rfl), (Nat.le_of_ble_eq_true rfl)⟩ rfl (cD_requireState C.2.2.2.2.2.1 rfl (by omega) (fun b13 => ?_) (fun b13 => ?_))
    · refine r_ald C dD_clauseState_16 rfl ?_
      refine r_getR C dD_clauseState_17 rfl rfl ?_
      refine r_getR C dD_clauseState_20 rfl rfl ?_
      refine r_ild C dD_clauseState_23 rfl ?_
      refine r_iald C dD_clauseState_24 rfl ⟨by omega, by omega⟩ (by decide) ?_
      exact r_iret C dD_clauseState_25 rfl (Nat.le_of_ble_eq_true rfl) (Nat.le_of_ble_eq_true rfl) (hn (by omega) (by omega))
    · exact gx_out C rfl (Nat.le_of_ble_eq_true rfl) (Nat.le_of_ble_eq_true rfl) (hS (by omega) (by omega))
  · exact gx_out C rfl (Nat.le_of_ble_eq_true rfl) (Nat.le_of_ble_eq_true rfl) (hA (by omega))
set_option maxRecDepth 100000 in
set_option maxHeartbeats 4000000 in
theorem cD_paid {g : ed_g} {l : Launch} (hl : l.stackTraces = false) {I : ed_I} {L : ed_L} {a : Int} (ra : -2147483648 ≤ a ∧ a ≤ 2147483647) (hs : I 0 5 = 0 ∨ I 0 5 = 1) {post : ed_post} (hA : ¬ (1 ≤ a ∧ a ≤ 40) → post (.inr IAE) Yw I L) (hS : (1 ≤ a ∧ a ≤ 40) → ¬ (I 0 5 ≠ 0) → post (.inr ISE) Yw I L) (hn : (1 ≤ a ∧ a ≤ 40) → (I 0 5 ≠ 0) → post (.inl (some (.long (lZ (L 73 a))))) Yw I L) : ed_Ct g l mD_paid 4 2 12 [.ref 0, .int (iZ a)] Yw I L post := by
  refine ed_Ct.of hl rfl (Nat.le_of_ble_eq_true rfl) (fun x _ C => ?_)
  show Gd g x post _ _ _ _ _ _ _ _ 0 [(0, _), (1, _)] []
  refine r_ild C dD_paid_0 rfl ?_
  refine r_i2l C dD_paid_1 (by omega) ?_
  refine r_lk C dD_paid_2 ?_
  refine r_lk C dD_paid_3 ?_
  refine r_callS C lzD_requireWithin dD_paid_6 [_, _, _] [] rfl rfl (Nat.le_of_ble_eq_true rfl) ⟨(Nat.le_of_ble_eq_true rfl), (Nat.le_of_ble_eq_true rfl), (Nat.le_of_ble_eq_true rfl), (Nat.le_of_ble_eq_true rfl)⟩ rfl (cD_requireWithin C.2.2.2.2.2.1 rfl (by omega) (fun b6 => ?_) (fun b6 => ?_))
  · refine r_ald C dD_paid_9 rfl ?_
    refine r_getI (z := 5) C dD_paid_10 rfl rfl rfl ?_
    refine r_callS C lzD_requireState dD_paid_13 [_] [] rfl rfl (Nat.le_of_ble_eq_true rfl) ⟨(Nat.le_of_ble_eq_true rfl), (Nat.le_of_ble_eq_true rfl), (Nat.le_of_ble_eq_true rfl), (Nat.le_of_ble_eq_true rfl)⟩ rfl (cD_requireState C.2.2.2.2.2.1 rfl (by omega) (fun b13 => ?_) (fun b13 => ?_))
    · refine r_ald C dD_paid_16 rfl ?_
      refine r_getR C dD_paid_17 rfl rfl ?_
      refine r_getR C dD_paid_20 rfl rfl ?_
      refine r_ild C dD_paid_23 rfl ?_
      refine r_lald C dD_paid_24 rfl ⟨by omega, by omega⟩ (by decide) ?_
      exact r_lret C dD_paid_25 rfl (Nat.le_of_ble_eq_true rfl) (Nat.le_of_ble_eq_true rfl) (hn (by omega) (by omega))
    · exact gx_out C rfl (Nat.le_of_ble_eq_true rfl) (Nat.le_of_ble_eq_true rfl) (hS (by omega) (by omega))
  · exact gx_out C rfl (Nat.le_of_ble_eq_true rfl) (Nat.le_of_ble_eq_true rfl) (hA (by omega))
set_option maxRecDepth 100000 in
set_option maxHeartbeats 4000000 in
theorem cD_sum {g : ed_g} {l : Launch} (hl : l.stackTraces = false) {I : ed_I} {L : ed_L} {a : Int} (ra : -2147483648 ≤ a ∧ a ≤ 2147483647) (hs : I 0 5 = 0 ∨ I 0 5 = 1) {post : ed_post} (hA : ¬ (0 ≤ a ∧ a ≤ 7) → post (.inr IAE) Yw I L) (hS : (0 ≤ a ∧ a ≤ 7) → ¬ (I 0 5 ≠ 0) → post (.inr ISE) Yw I L) (hn : (0 ≤ a ∧ a ≤ 7) → (I 0 5 ≠ 0) → post (.inl (some (.long (lZ (L 78 a))))) Yw I L) : ed_Ct g l mD_sum 4 2 12 [.ref 0, .int (iZ a)] Yw I L post := by
  refine ed_Ct.of hl rfl (Nat.le_of_ble_eq_true rfl) (fun x _ C => ?_)
  show Gd g x post _ _ _ _ _ _ _ _ 0 [(0, _), (1, _)] []
  refine r_ild C dD_sum_0 rfl ?_
  refine r_i2l C dD_sum_1 (by omega) ?_
  refine r_lk C dD_sum_2 ?_
  refine r_lk C dD_sum_3 ?_
  refine r_callS C lzD_requireWithin dD_sum_6 [_, _, _] [] rfl rfl (Nat.le_of_ble_eq_true rfl) ⟨(Nat.le_of_ble_eq_true rfl), (Nat.le_of_ble_eq_true rfl), (Nat.le_of_ble_eq_true rfl), (Nat.le_of_ble_eq_true rfl)⟩ rfl (cD_requireWithin C.2.2.2.2.2.1 rfl (by omega) (fun b6 => ?_) (fun b6 => ?_))
  · refine r_ald C dD_sum_9 rfl ?_
    refine r_getI (z := 5) C dD_sum_10 rfl rfl rfl ?_
    refine r_callS C lzD_requireState dD_sum_13 [_] [] rfl rfl (Nat.le_of_ble_eq_true rfl) ⟨(Nat.le_of_ble_eq_true rfl), (Nat.le_of_ble_eq_true rfl), (Nat.le_of_ble_eq_true rfl), (Nat.le_of_ble_eq_true rfl)⟩ rfl (cD_requireState C.2.2.2.2.2.1 rfl (by omega) (fun b13 => ?_) (fun b13 => ?_))
    · refine r_ald C dD_sum_16 rfl ?_
      refine r_getR C dD_sum_17 rfl rfl ?_
      refine r_getR C dD_sum_20 rfl rfl ?_
      refine r_ild C dD_sum_23 rfl ?_
      refine r_lald C dD_sum_24 rfl ⟨by omega, by omega⟩ (by decide) ?_
      exact r_lret C dD_sum_25 rfl (Nat.le_of_ble_eq_true rfl) (Nat.le_of_ble_eq_true rfl) (hn (by omega) (by omega))
    · exact gx_out C rfl (Nat.le_of_ble_eq_true rfl) (Nat.le_of_ble_eq_true rfl) (hS (by omega) (by omega))
  · exact gx_out C rfl (Nat.le_of_ble_eq_true rfl) (Nat.le_of_ble_eq_true rfl) (hA (by omega))
set_option maxRecDepth 100000 in
set_option maxHeartbeats 4000000 in
theorem cD_gets {g : ed_g} {l : Launch} (hl : l.stackTraces = false) {I : ed_I} {L : ed_L} {p w : Int} (rp : -2147483648 ≤ p ∧ p ≤ 2147483647) (rw : -2147483648 ≤ w ∧ w ≤ 2147483647) (hs : I 0 5 = 0 ∨ I 0 5 = 1) {post : ed_post} (hA : ¬ ((0 ≤ p ∧ p ≤ 40) ∧ 0 ≤ w ∧ w ≤ 2) → post (.inr IAE) Yw I L) (hS : ((0 ≤ p ∧ p ≤ 40) ∧ 0 ≤ w ∧ w ≤ 2) → ¬ (I 0 5 ≠ 0) → post (.inr ISE) Yw I L) (hn : ((0 ≤ p ∧ p ≤ 40) ∧ 0 ≤ w ∧ w ≤ 2) → (I 0 5 ≠ 0) → post (.inl (some (.long (lZ (if w = 0 then L 3 p else if w = 1 then L 4 p else L 5 p))))) Yw I L) : ed_Ct g l mD_gets 4 3 18 [.ref 0, .int (iZ p), .int (iZ w)] Yw I L post := by
  refine ed_Ct.of hl rfl (Nat.le_of_ble_eq_true rfl) (fun x _ C => ?_)
  show Gd g x post _ _ _ _ _ _ _ _ 0 [(0, _), (1, _), (2, _)] []
  refine r_ild C dD_gets_0 rfl ?_
  refine r_i2l C dD_gets_1 (by omega) ?_
  refine r_lk C dD_gets_2 ?_
  refine r_lk C dD_gets_3 ?_
  refine r_callS C lzD_requireWithin dD_gets_6 [_, _, _] [] rfl rfl (Nat.le_of_ble_eq_true rfl) ⟨(Nat.le_of_ble_eq_true rfl), (Nat.le_of_ble_eq_true rfl), (Nat.le_of_ble_eq_true rfl), (Nat.le_of_ble_eq_true rfl)⟩ rfl (cD_requireWithin C.2.2.2.2.2.1 rfl (by omega) (fun b6 => ?_) (fun b6 => ?_))
  · refine r_ild C dD_gets_9 rfl ?_
    refine r_i2l C dD_gets_10 (by omega) ?_
    refine r_lk C dD_gets_11 ?_
    refine r_lk C dD_gets_12 ?_
    refine r_callS C lzD_requireWithin dD_gets_15 [_, _, _] [] rfl rfl (Nat.le_of_ble_eq_true rfl) ⟨(Nat.le_of_ble_eq_true rfl), (Nat.le_of_ble_eq_true rfl), (Nat.le_of_ble_eq_true rfl), (Nat.le_of_ble_eq_true rfl)⟩ rfl (cD_requireWithin C.2.2.2.2.2.1 rfl (by omega) (fun b15 => ?_) (fun b15 => ?_))
    · refine r_ald C dD_gets_18 rfl ?_
      refine r_getI (z := 5) C dD_gets_19 rfl rfl rfl ?_
      refine r_callS C lzD_requireState dD_gets_22 [_] [] rfl rfl (Nat.le_of_ble_eq_true rfl) ⟨(Nat.le_of_ble_eq_true rfl), (Nat.le_of_ble_eq_true rfl), (Nat.le_of_ble_eq_true rfl), (Nat.le_of_ble_eq_true rfl)⟩ rfl (cD_requireState C.2.2.2.2.2.1 rfl (by omega) (fun b22 => ?_) (fun b22 => ?_))
      · refine r_ild C dD_gets_25 rfl ?_
        rcases (show w = 0 ∨ w = 1 ∨ w = 2 by omega) with rfl | rfl | rfl
        · refine r_lsw C (by omega) dD_gets_26 (off := 26) (t := 52) (by decide +kernel) (by decide +kernel) rfl ?_
          refine r_ald C dD_gets_52 rfl ?_
          refine r_getR C dD_gets_53 rfl rfl ?_
          refine r_getR C dD_gets_56 rfl rfl ?_
          refine r_ild C dD_gets_59 rfl ?_
          refine r_lald C dD_gets_60 rfl ⟨by omega, by omega⟩ (by decide) ?_
          exact r_lret C dD_gets_61 rfl (Nat.le_of_ble_eq_true rfl) (Nat.le_of_ble_eq_true rfl) (hn (by omega) (by omega))
        · refine r_lsw C (by omega) dD_gets_26 (off := 36) (t := 62) (by decide +kernel) (by decide +kernel) rfl ?_
          refine r_ald C dD_gets_62 rfl ?_
          refine r_getR C dD_gets_63 rfl rfl ?_
          refine r_getR C dD_gets_66 rfl rfl ?_
          refine r_ild C dD_gets_69 rfl ?_
          refine r_lald C dD_gets_70 rfl ⟨by omega, by omega⟩ (by decide) ?_
          exact r_lret C dD_gets_71 rfl (Nat.le_of_ble_eq_true rfl) (Nat.le_of_ble_eq_true rfl) (hn (by omega) (by omega))
        · refine r_lsw C (by omega) dD_gets_26 (off := 46) (t := 72) (by decide +kernel) (by decide +kernel) rfl ?_
          refine r_ald C dD_gets_72 rfl ?_
          refine r_getR C dD_gets_73 rfl rfl ?_
          refine r_getR C dD_gets_76 rfl rfl ?_
          refine r_ild C dD_gets_79 rfl ?_
          refine r_lald C dD_gets_80 rfl ⟨by omega, by omega⟩ (by decide) ?_
          exact r_lret C dD_gets_81 rfl (Nat.le_of_ble_eq_true rfl) (Nat.le_of_ble_eq_true rfl) (hn (by omega) (by omega))
      · exact gx_out C rfl (Nat.le_of_ble_eq_true rfl) (Nat.le_of_ble_eq_true rfl) (hS (by omega) (by omega))
    · exact gx_out C rfl (Nat.le_of_ble_eq_true rfl) (Nat.le_of_ble_eq_true rfl) (hA (by omega))
  · exact gx_out C rfl (Nat.le_of_ble_eq_true rfl) (Nat.le_of_ble_eq_true rfl) (hA (by omega))
set_option maxRecDepth 100000 in
set_option maxHeartbeats 4000000 in
theorem cD_told {g : ed_g} {l : Launch} (hl : l.stackTraces = false) {I : ed_I} {L : ed_L} {c w : Int} (rc : -2147483648 ≤ c ∧ c ≤ 2147483647) (rw : -2147483648 ≤ w ∧ w ≤ 2147483647) (hs : I 0 5 = 0 ∨ I 0 5 = 1) (hg : ∀ j, 1 ≤ j → j ≤ 40 → -1 ≤ I 62 j ∧ I 62 j ≤ 100000) {post : ed_post} (hA : ¬ ((1 ≤ c ∧ c ≤ 40) ∧ 0 ≤ w ∧ w ≤ 4) → post (.inr IAE) Yw I L) (hS : ((1 ≤ c ∧ c ≤ 40) ∧ 0 ≤ w ∧ w ≤ 4) → ¬ (I 0 5 ≠ 0) → post (.inr ISE) Yw I L) (hn : ((1 ≤ c ∧ c ≤ 40) ∧ 0 ≤ w ∧ w ≤ 4) → (I 0 5 ≠ 0) → post (.inl (some (.long (lZ (if w = 0 then L 63 c + L 64 c + L 65 c else if w = 1 then L 67 c else if w = 2 then L 64 c else if w = 3 then L 68 c else I 62 c))))) Yw I L) : ed_Ct g l mD_told 4 3 18 [.ref 0, .int (iZ c), .int (iZ w)] Yw I L post := by
  refine ed_Ct.of hl rfl (Nat.le_of_ble_eq_true rfl) (fun x _ C => ?_)
  show Gd g x post _ _ _ _ _ _ _ _ 0 [(0, _), (1, _), (2, _)] []
  have hg2 := fun (h : 1 ≤ c ∧ c ≤ 40) => hg c h.1 h.2
  refine r_ild C dD_told_0 rfl ?_
  refine r_i2l C dD_told_1 (by omega) ?_
  refine r_lk C dD_told_2 ?_
  refine r_lk C dD_told_3 ?_
  refine r_callS C lzD_requireWithin dD_told_6 [_, _, _] [] rfl rfl (Nat.le_of_ble_eq_true rfl) ⟨(Nat.le_of_ble_eq_true rfl), (Nat.le_of_ble_eq_true rfl), (Nat.le_of_ble_eq_true rfl), (Nat.le_of_ble_eq_true rfl)⟩ rfl (cD_requireWithin C.2.2.2.2.2.1 rfl (by omega) (fun b6 => ?_) (fun b6 => ?_))
  · refine r_ild C dD_told_9 rfl ?_
    refine r_i2l C dD_told_10 (by omega) ?_
    refine r_lk C dD_told_11 ?_
    refine r_lk C dD_told_12 ?_
    refine r_callS C lzD_requireWithin dD_told_15 [_, _, _] [] rfl rfl (Nat.le_of_ble_eq_true rfl) ⟨(Nat.le_of_ble_eq_true rfl), (Nat.le_of_ble_eq_true rfl), (Nat.le_of_ble_eq_true rfl), (Nat.le_of_ble_eq_true rfl)⟩ rfl (cD_requireWithin C.2.2.2.2.2.1 rfl (by omega) (fun b15 => ?_) (fun b15 => ?_))
    · refine r_ald C dD_told_18 rfl ?_
      refine r_getI (z := 5) C dD_told_19 rfl rfl rfl ?_
      refine r_callS C lzD_requireState dD_told_22 [_] [] rfl rfl (Nat.le_of_ble_eq_true rfl) ⟨(Nat.le_of_ble_eq_true rfl), (Nat.le_of_ble_eq_true rfl), (Nat.le_of_ble_eq_true rfl), (Nat.le_of_ble_eq_true rfl)⟩ rfl (cD_requireState C.2.2.2.2.2.1 rfl (by omega) (fun b22 => ?_) (fun b22 => ?_))
      · refine r_ild C dD_told_25 rfl ?_
        rcases (show w = 0 ∨ w = 1 ∨ w = 2 ∨ w = 3 ∨ w = 4 by omega) with rfl | rfl | rfl | rfl | rfl
        · refine r_sw C (by omega) dD_told_26 (off := 30) (t := 56) (by decide) (by decide) rfl rfl ?_
          refine r_ald C dD_told_56 rfl ?_
          refine r_getR C dD_told_57 rfl rfl ?_
          refine r_ild C dD_told_60 rfl ?_
          refine r_callV C lzC_worthInAll dD_told_61 _ [_] [] rfl rfl rfl rfl rfl (Nat.le_of_ble_eq_true rfl) ⟨(Nat.le_of_ble_eq_true rfl), (Nat.le_of_ble_eq_true rfl), (Nat.le_of_ble_eq_true rfl), (Nat.le_of_ble_eq_true rfl)⟩ rfl (cC_worthInAll C.2.2.2.2.2.1 (by omega) ?_)
          exact r_lret C dD_told_64 rfl (Nat.le_of_ble_eq_true rfl) (Nat.le_of_ble_eq_true rfl) (hn (by omega) (by omega))
        · refine r_sw C (by omega) dD_told_26 (off := 39) (t := 65) (by decide) (by decide) rfl rfl ?_
          refine r_ald C dD_told_65 rfl ?_
          refine r_getR C dD_told_66 rfl rfl ?_
          refine r_getR C dD_told_69 rfl rfl ?_
          refine r_ild C dD_told_72 rfl ?_
          refine r_lald C dD_told_73 rfl ⟨by omega, by omega⟩ (by decide) ?_
          exact r_lret C dD_told_74 rfl (Nat.le_of_ble_eq_true rfl) (Nat.le_of_ble_eq_true rfl) (hn (by omega) (by omega))
        · refine r_sw C (by omega) dD_told_26 (off := 49) (t := 75) (by decide) (by decide) rfl rfl ?_
          refine r_ald C dD_told_75 rfl ?_
          refine r_getR C dD_told_76 rfl rfl ?_
          refine r_getR C dD_told_79 rfl rfl ?_
          refine r_ild C dD_told_82 rfl ?_
          refine r_lald C dD_told_83 rfl ⟨by omega, by omega⟩ (by decide) ?_
          exact r_lret C dD_told_84 rfl (Nat.le_of_ble_eq_true rfl) (Nat.le_of_ble_eq_true rfl) (hn (by omega) (by omega))
        · refine r_sw C (by omega) dD_told_26 (off := 59) (t := 85) (by decide) (by decide) rfl rfl ?_
          refine r_ald C dD_told_85 rfl ?_
          refine r_getR C dD_told_86 rfl rfl ?_
          refine r_getR C dD_told_89 rfl rfl ?_
          refine r_ild C dD_told_92 rfl ?_
          refine r_lald C dD_told_93 rfl ⟨by omega, by omega⟩ (by decide) ?_
          exact r_lret C dD_told_94 rfl (Nat.le_of_ble_eq_true rfl) (Nat.le_of_ble_eq_true rfl) (hn (by omega) (by omega))
        · refine r_swD C (by omega) dD_told_26 (t := 95) (by decide) rfl ?_
          refine r_ald C dD_told_95 rfl ?_
          refine r_getR C dD_told_96 rfl rfl ?_
          refine r_getR C dD_told_99 rfl rfl ?_
          refine r_ild C dD_told_102 rfl ?_
          refine r_iald C dD_told_103 rfl ⟨by omega, by omega⟩ (by decide) ?_
          refine r_i2l C dD_told_104 (by omega) ?_
          exact r_lret C dD_told_105 rfl (Nat.le_of_ble_eq_true rfl) (Nat.le_of_ble_eq_true rfl) (hn (by omega) (by omega))
      · exact gx_out C rfl (Nat.le_of_ble_eq_true rfl) (Nat.le_of_ble_eq_true rfl) (hS (by omega) (by omega))
    · exact gx_out C rfl (Nat.le_of_ble_eq_true rfl) (Nat.le_of_ble_eq_true rfl) (hA (by omega))
  · exact gx_out C rfl (Nat.le_of_ble_eq_true rfl) (Nat.le_of_ble_eq_true rfl) (hA (by omega))
set_option maxRecDepth 100000 in
set_option maxHeartbeats 4000000 in
theorem cD_close {g : ed_g} {l : Launch} (hl : l.stackTraces = false) {I : ed_I} {L : ed_L}  (hc : I 0 7 = 0 ∨ I 0 7 = 1) (hs : I 0 6 = 0 ∨ I 0 6 = 1) {post : ed_post} (hS : ¬ (I 0 7 = 0 ∧ I 0 6 ≠ 0) → post (.inr ISE) Yw I L) (hn : (I 0 7 = 0 ∧ I 0 6 ≠ 0) → post (.inl (none)) Yw (upI I 0 7 1) L) : ed_Ct g l mD_close 4 2 12 [.ref 0] Yw I L post := by
  refine ed_Ct.of hl rfl (Nat.le_of_ble_eq_true rfl) (fun x _ C => ?_)
  show Gd g x post _ _ _ _ _ _ _ _ 0 [(0, _)] []
  refine r_ald C dD_close_0 rfl ?_
  refine r_callV C lzD_requireOpen dD_close_1 _ [] [] rfl rfl rfl rfl rfl (Nat.le_of_ble_eq_true rfl) ⟨(Nat.le_of_ble_eq_true rfl), (Nat.le_of_ble_eq_true rfl), (Nat.le_of_ble_eq_true rfl), (Nat.le_of_ble_eq_true rfl)⟩ rfl (cD_requireOpen C.2.2.2.2.2.1 hc (fun b1 => ?_) (fun b1 => ?_))
  · refine r_ald C dD_close_4 rfl ?_
    refine r_getI (z := 6) C dD_close_5 rfl rfl rfl ?_
    refine r_callS C lzD_requireState dD_close_8 [_] [] rfl rfl (Nat.le_of_ble_eq_true rfl) ⟨(Nat.le_of_ble_eq_true rfl), (Nat.le_of_ble_eq_true rfl), (Nat.le_of_ble_eq_true rfl), (Nat.le_of_ble_eq_true rfl)⟩ rfl (cD_requireState C.2.2.2.2.2.1 rfl (by omega) (fun b8 => ?_) (fun b8 => ?_))
    · refine r_ald C dD_close_11 rfl ?_
      refine r_ik C dD_close_12 ?_
      refine r_putI (z := 7) C dD_close_13 rfl rfl rfl rfl (ed_pz0_7 (by omega)) ?_
      exact r_vret C dD_close_16 rfl (Nat.le_of_ble_eq_true rfl) (Nat.le_of_ble_eq_true rfl) (hn (by omega))
    · exact gx_out C rfl (Nat.le_of_ble_eq_true rfl) (Nat.le_of_ble_eq_true rfl) (hS (by omega))
  · exact gx_out C rfl (Nat.le_of_ble_eq_true rfl) (Nat.le_of_ble_eq_true rfl) (hS (by omega))
set_option maxRecDepth 100000 in
set_option maxHeartbeats 4000000 in
theorem cD_worth {g : ed_g} {l : Launch} (hl : l.stackTraces = false) {I : ed_I} {L : ed_L} {y a : Int} (ra : -2147483648 ≤ a ∧ a ≤ 2147483647) (ry : -9223372036854775808 ≤ y ∧ y ≤ 9223372036854775807) {post : ed_post} (hA : ¬ ((0 ≤ y ∧ y ≤ 1000000000) ∧ 0 ≤ a ∧ a ≤ 99) → post (.inr IAE) Yw I L) (hn : ((0 ≤ y ∧ y ≤ 1000000000) ∧ 0 ≤ a ∧ a ≤ 99) → post (.inl (some (.long (lZ (anV y a))))) Yw I L) : ed_Ct g l mD_worth 4 2 12 [.ref 0, .long (lZ y), .int (iZ a)] Yw I L post := by
  refine ed_Ct.of hl rfl (Nat.le_of_ble_eq_true rfl) (fun x _ C => ?_)
  show Gd g x post _ _ _ _ _ _ _ _ 0 [(0, _), (1, _), (3, _)] []
  refine r_lld C dD_worth_0 rfl ?_
  refine r_lk C dD_worth_1 ?_
  refine r_lk C dD_worth_2 ?_
  refine r_callS C lzD_requireWithin dD_worth_5 [_, _, _] [] rfl rfl (Nat.le_of_ble_eq_true rfl) ⟨(Nat.le_of_ble_eq_true rfl), (Nat.le_of_ble_eq_true rfl), (Nat.le_of_ble_eq_true rfl), (Nat.le_of_ble_eq_true rfl)⟩ rfl (cD_requireWithin C.2.2.2.2.2.1 rfl (by omega) (fun b5 => ?_) (fun b5 => ?_))
  · refine r_ild C dD_worth_8 rfl ?_
    refine r_i2l C dD_worth_9 (by omega) ?_
    refine r_lk C dD_worth_10 ?_
    refine r_lk C dD_worth_11 ?_
    refine r_callS C lzD_requireWithin dD_worth_14 [_, _, _] [] rfl rfl (Nat.le_of_ble_eq_true rfl) ⟨(Nat.le_of_ble_eq_true rfl), (Nat.le_of_ble_eq_true rfl), (Nat.le_of_ble_eq_true rfl), (Nat.le_of_ble_eq_true rfl)⟩ rfl (cD_requireWithin C.2.2.2.2.2.1 rfl (by omega) (fun b14 => ?_) (fun b14 => ?_))
    · refine r_lld C dD_worth_17 rfl ?_
      refine r_ild C dD_worth_18 rfl ?_
      refine r_callS C lzD_annuityValue dD_worth_19 [_, _] [] rfl rfl (Nat.le_of_ble_eq_true rfl) ⟨(Nat.le_of_ble_eq_true rfl), (Nat.le_of_ble_eq_true rfl), (Nat.le_of_ble_eq_true rfl), (Nat.le_of_ble_eq_true rfl)⟩ rfl (cD_annuityValue C.2.2.2.2.2.1 (by omega) (by omega) ?_)
      exact r_lret C dD_worth_22 rfl (Nat.le_of_ble_eq_true rfl) (Nat.le_of_ble_eq_true rfl) (hn (by omega))
    · exact gx_out C rfl (Nat.le_of_ble_eq_true rfl) (Nat.le_of_ble_eq_true rfl) (hA (by omega))
  · exact gx_out C rfl (Nat.le_of_ble_eq_true rfl) (Nat.le_of_ble_eq_true rfl) (hA (by omega))
