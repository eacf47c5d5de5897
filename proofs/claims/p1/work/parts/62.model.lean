set_option maxRecDepth 100000 in
set_option maxHeartbeats 4000000 in
theorem cM_thrown {g : ed_g} {l : Launch} (hl : l.stackTraces = false) {I : ed_I} {L : ed_L} {post : ed_post} (hn : post (.inl (some (.int (iZ (I 79 0))))) Yw I L) : ed_Ct g l mM_thrown 0 0 0 [.ref 79] Yw I L post := by
  refine ed_Ct.of hl rfl (Nat.le_of_ble_eq_true rfl) (fun x _ C => ?_)
  show Gd g x post _ _ _ _ _ _ _ _ 0 [(0, _)] []
  refine r_ald C dM_thrown_0 rfl ?_
  refine r_getI (z := 0) C dM_thrown_1 rfl rfl rfl ?_
  exact r_iret C dM_thrown_4 rfl (Nat.le_of_ble_eq_true rfl) (Nat.le_of_ble_eq_true rfl) (hn)
set_option maxRecDepth 100000 in
set_option maxHeartbeats 4000000 in
theorem cM_refused {g : ed_g} {l : Launch} (hl : l.stackTraces = false) {I : ed_I} {L : ed_L} {w : Int} (hw : -2147483648 ≤ w ∧ w ≤ 2147483647) {post : ed_post} (h1 : 0 < w → post (.inl (some (.int (iZ 1)))) Yw (upI I 79 0 w) L) (h0 : w ≤ 0 → post (.inl (some (.int (iZ 0)))) Yw (upI I 79 0 w) L) : ed_Ct g l mM_refused 0 0 0 [.ref 79, .int (iZ w)] Yw I L post := by
  refine ed_Ct.of hl rfl (Nat.le_of_ble_eq_true rfl) (fun x _ C => ?_)
  show Gd g x post _ _ _ _ _ _ _ _ 0 [(0, _), (1, _)] []
  refine r_ald C dM_refused_0 rfl ?_
  refine r_ild C dM_refused_1 rfl ?_
  refine r_putI (z := 0) C dM_refused_2 rfl rfl rfl rfl (ed_pi7_0 _) ?_
  refine r_ild C dM_refused_5 rfl ?_
  refine r_if_le C dM_refused_6 (by omega) (fun b6 => ?_) (fun b6 => ?_)
  · refine r_ik C dM_refused_13 ?_
    exact r_zret C dM_refused_14 rfl (by omega) (Nat.le_of_ble_eq_true rfl) (Nat.le_of_ble_eq_true rfl) (by first | exact h1 (by omega) | exact h0 (by omega))
  · refine r_ik C dM_refused_9 ?_
    refine r_goto C dM_refused_10 ?_
    exact r_zret C dM_refused_14 rfl (by omega) (Nat.le_of_ble_eq_true rfl) (Nat.le_of_ble_eq_true rfl) (by first | exact h1 (by omega) | exact h0 (by omega))
set_option maxRecDepth 100000 in
set_option maxHeartbeats 4000000 in
theorem cM_isIn {g : ed_g} {l : Launch} (hl : l.stackTraces = false) {Y : ed_Y} {I : ed_I} {L : ed_L} {a b c : Int} (hr : -9223372036854775808 ≤ a ∧ a ≤ 9223372036854775807 ∧ -9223372036854775808 ≤ b ∧ b ≤ 9223372036854775807 ∧ -9223372036854775808 ≤ c ∧ c ≤ 9223372036854775807) {post : ed_post} (h1 : b ≤ a ∧ a ≤ c → post (.inl (some (.int (iZ 1)))) Y I L) (h0 : ¬ (b ≤ a ∧ a ≤ c) → post (.inl (some (.int (iZ 0)))) Y I L) : ed_Ct g l mM_isIn 0 0 0 [.long (lZ a), .long (lZ b), .long (lZ c)] Y I L post := by
  refine ed_Ct.of hl rfl (Nat.le_of_ble_eq_true rfl) (fun x _ C => ?_)
  show Gd g x post _ _ _ _ _ _ _ _ 0 [(0, _), (2, _), (4, _)] []
  refine r_lld C dM_isIn_0 rfl ?_
  refine r_lld C dM_isIn_1 rfl ?_
  refine r_lc_lt C dM_isIn_2 dM_isIn_3 (by omega) (fun b3 => ?_) (fun b3 => ?_)
  · refine r_ik C dM_isIn_17 ?_
    exact r_zret C dM_isIn_18 rfl (by omega) (Nat.le_of_ble_eq_true rfl) (Nat.le_of_ble_eq_true rfl) (by first | exact h1 (by omega) | exact h0 (by omega))
  · refine r_lld C dM_isIn_6 rfl ?_
    refine r_lld C dM_isIn_7 rfl ?_
    refine r_lc_gt C dM_isIn_9 dM_isIn_10 (by omega) (fun b10 => ?_) (fun b10 => ?_)
    · refine r_ik C dM_isIn_17 ?_
      exact r_zret C dM_isIn_18 rfl (by omega) (Nat.le_of_ble_eq_true rfl) (Nat.le_of_ble_eq_true rfl) (by first | exact h1 (by omega) | exact h0 (by omega))
    · refine r_ik C dM_isIn_13 ?_
      refine r_goto C dM_isIn_14 ?_
      exact r_zret C dM_isIn_18 rfl (by omega) (Nat.le_of_ble_eq_true rfl) (Nat.le_of_ble_eq_true rfl) (by first | exact h1 (by omega) | exact h0 (by omega))
set_option maxRecDepth 100000 in
set_option maxHeartbeats 4000000 in
theorem cM_isId {g : ed_g} {l : Launch} (hl : l.stackTraces = false) {Y : ed_Y} {I : ed_I} {L : ed_L} {a : Int} (hr : -2147483648 ≤ a ∧ a ≤ 2147483647) {post : ed_post} (h1 : 1 ≤ a ∧ a ≤ 40 → post (.inl (some (.int (iZ 1)))) Y I L) (h0 : ¬ (1 ≤ a ∧ a ≤ 40) → post (.inl (some (.int (iZ 0)))) Y I L) : ed_Ct g l mM_isId 1 0 0 [.int (iZ a)] Y I L post := by
  refine ed_Ct.of hl rfl (Nat.le_of_ble_eq_true rfl) (fun x _ C => ?_)
  show Gd g x post _ _ _ _ _ _ _ _ 0 [(0, _)] []
  refine r_ild C dM_isId_0 rfl ?_
  refine r_i2l C dM_isId_1 (by omega) ?_
  refine r_lk C dM_isId_2 ?_
  refine r_lk C dM_isId_3 ?_
  refine r_callS C lzM_isIn dM_isId_6 [_, _, _] [] rfl rfl (Nat.le_of_ble_eq_true rfl) ⟨(Nat.le_of_ble_eq_true rfl), (Nat.le_of_ble_eq_true rfl), (Nat.le_of_ble_eq_true rfl), (Nat.le_of_ble_eq_true rfl)⟩ rfl (cM_isIn C.2.2.2.2.2.1 (by omega) (fun b6 => ?_) (fun b6 => ?_))
  · exact r_zret C dM_isId_9 rfl (by omega) (Nat.le_of_ble_eq_true rfl) (Nat.le_of_ble_eq_true rfl) (by first | exact h1 (by omega) | exact h0 (by omega))
  · exact r_zret C dM_isId_9 rfl (by omega) (Nat.le_of_ble_eq_true rfl) (Nat.le_of_ble_eq_true rfl) (by first | exact h1 (by omega) | exact h0 (by omega))
set_option maxRecDepth 100000 in
set_option maxHeartbeats 4000000 in
theorem cM_isCents {g : ed_g} {l : Launch} (hl : l.stackTraces = false) {Y : ed_Y} {I : ed_I} {L : ed_L} {a : Int} (hr : -9223372036854775808 ≤ a ∧ a ≤ 9223372036854775807) {post : ed_post} (h1 : 0 ≤ a ∧ a ≤ 1000000000000 → post (.inl (some (.int (iZ 1)))) Y I L) (h0 : ¬ (0 ≤ a ∧ a ≤ 1000000000000) → post (.inl (some (.int (iZ 0)))) Y I L) : ed_Ct g l mM_isCents 1 0 0 [.long (lZ a)] Y I L post := by
  refine ed_Ct.of hl rfl (Nat.le_of_ble_eq_true rfl) (fun x _ C => ?_)
  show Gd g x post _ _ _ _ _ _ _ _ 0 [(0, _)] []
  refine r_lld C dM_isCents_0 rfl ?_
  refine r_lk C dM_isCents_1 ?_
  refine r_lk C dM_isCents_2 ?_
  refine r_callS C lzM_isIn dM_isCents_5 [_, _, _] [] rfl rfl (Nat.le_of_ble_eq_true rfl) ⟨(Nat.le_of_ble_eq_true rfl), (Nat.le_of_ble_eq_true rfl), (Nat.le_of_ble_eq_true rfl), (Nat.le_of_ble_eq_true rfl)⟩ rfl (cM_isIn C.2.2.2.2.2.1 (by omega) (fun b5 => ?_) (fun b5 => ?_))
  · exact r_zret C dM_isCents_8 rfl (by omega) (Nat.le_of_ble_eq_true rfl) (Nat.le_of_ble_eq_true rfl) (by first | exact h1 (by omega) | exact h0 (by omega))
  · exact r_zret C dM_isCents_8 rfl (by omega) (Nat.le_of_ble_eq_true rfl) (Nat.le_of_ble_eq_true rfl) (by first | exact h1 (by omega) | exact h0 (by omega))
set_option maxRecDepth 100000 in
set_option maxHeartbeats 4000000 in
theorem cM_isBarred {g : ed_g} {l : Launch} (hl : l.stackTraces = false) {I : ed_I} {L : ed_L} {v w : Int} (hv : v = 0 ∨ v = 1) (hw : w = 0 ∨ w = 1) (hc : I 79 2 = 0 ∨ I 79 2 = 1) {post : ed_post} (h1 : v = 0 → post (.inl (some (.int (iZ 1)))) Yw (upI I 79 0 1) L) (h2 : v ≠ 0 → (I 79 2 ≠ 0 ∨ w = 0) → post (.inl (some (.int (iZ 1)))) Yw (upI I 79 0 2) L) (h0 : v ≠ 0 → I 79 2 = 0 → w ≠ 0 → post (.inl (some (.int (iZ 0)))) Yw (upI (upI I 79 0 0) 79 4 0) L) : ed_Ct g l mM_isBarred 1 0 0 [.ref 79, .int (iZ v), .int (iZ w)] Yw I L post := by
  refine ed_Ct.of hl rfl (Nat.le_of_ble_eq_true rfl) (fun x _ C => ?_)
  show Gd g x post _ _ _ _ _ _ _ _ 0 [(0, _), (1, _), (2, _)] []
  refine r_ald C dM_isBarred_0 rfl ?_
  refine r_ild C dM_isBarred_1 rfl ?_
  refine r_if_ne C dM_isBarred_2 (by omega) (fun b2 => ?_) (fun b2 => ?_)
  · refine r_ald C dM_isBarred_9 rfl ?_
    refine r_getI (z := 2) C dM_isBarred_10 rfl rfl rfl ?_
    refine r_if_ne C dM_isBarred_13 (by omega) (fun b13 => ?_) (fun b13 => ?_)
    · refine r_ik C dM_isBarred_20 ?_
      refine r_goto C dM_isBarred_21 ?_
      refine r_callV C lzM_refused dM_isBarred_25 _ [_] [] rfl rfl rfl rfl rfl (Nat.le_of_ble_eq_true rfl) ⟨(Nat.le_of_ble_eq_true rfl), (Nat.le_of_ble_eq_true rfl), (Nat.le_of_ble_eq_true rfl), (Nat.le_of_ble_eq_true rfl)⟩ rfl (cM_refused C.2.2.2.2.2.1 (by omega) (fun _ => ?_) (fun h => absurd h (by decide)))
      refine r_if_eq C dM_isBarred_28 (by omega) (fun b28 => ?_) (fun b28 => ?_)
      · omega
      · refine r_ik C dM_isBarred_31 ?_
        exact r_zret C dM_isBarred_32 rfl (by omega) (Nat.le_of_ble_eq_true rfl) (Nat.le_of_ble_eq_true rfl) (by first | exact h1 (by omega) | exact h2 (by omega) (by omega) | exact h0 (by omega) (by omega) (by omega))
    · refine r_ild C dM_isBarred_16 rfl ?_
      refine r_if_ne C dM_isBarred_17 (by omega) (fun b17 => ?_) (fun b17 => ?_)
      · refine r_ik C dM_isBarred_24 ?_
        refine r_callV C lzM_refused dM_isBarred_25 _ [_] [] rfl rfl rfl rfl rfl (Nat.le_of_ble_eq_true rfl) ⟨(Nat.le_of_ble_eq_true rfl), (Nat.le_of_ble_eq_true rfl), (Nat.le_of_ble_eq_true rfl), (Nat.le_of_ble_eq_true rfl)⟩ rfl (cM_refused C.2.2.2.2.2.1 (by omega) (fun h => absurd h (by decide)) (fun _ => ?_))
        refine r_if_eq C dM_isBarred_28 (by omega) (fun b28 => ?_) (fun b28 => ?_)
        · refine r_ald C dM_isBarred_33 rfl ?_
          refine r_ik C dM_isBarred_34 ?_
          refine r_putI (z := 4) C dM_isBarred_35 rfl rfl rfl rfl (ed_pz7_4 (by omega)) ?_
          refine r_ik C dM_isBarred_38 ?_
          exact r_zret C dM_isBarred_39 rfl (by omega) (Nat.le_of_ble_eq_true rfl) (Nat.le_of_ble_eq_true rfl) (by first | exact h1 (by omega) | exact h2 (by omega) (by omega) | exact h0 (by omega) (by omega) (by omega))
        · omega
      · refine r_ik C dM_isBarred_20 ?_
        refine r_goto C dM_isBarred_21 ?_
        refine r_callV C lzM_refused dM_isBarred_25 _ [_] [] rfl rfl rfl rfl rfl (Nat.le_of_ble_eq_true rfl) ⟨(Nat.le_of_ble_eq_true rfl), (Nat.le_of_ble_eq_true rfl), (Nat.le_of_ble_eq_true rfl), (Nat.le_of_ble_eq_true rfl)⟩ rfl (cM_refused C.2.2.2.2.2.1 (by omega) (fun _ => ?_) (fun h => absurd h (by decide)))
        refine r_if_eq C dM_isBarred_28 (by omega) (fun b28 => ?_) (fun b28 => ?_)
        · omega
        · refine r_ik C dM_isBarred_31 ?_
          exact r_zret C dM_isBarred_32 rfl (by omega) (Nat.le_of_ble_eq_true rfl) (Nat.le_of_ble_eq_true rfl) (by first | exact h1 (by omega) | exact h2 (by omega) (by omega) | exact h0 (by omega) (by omega) (by omega))
  · refine r_ik C dM_isBarred_5 ?_
    refine r_goto C dM_isBarred_6 ?_
    refine r_callV C lzM_refused dM_isBarred_25 _ [_] [] rfl rfl rfl rfl rfl (Nat.le_of_ble_eq_true rfl) ⟨(Nat.le_of_ble_eq_true rfl), (Nat.le_of_ble_eq_true rfl), (Nat.le_of_ble_eq_true rfl), (Nat.le_of_ble_eq_true rfl)⟩ rfl (cM_refused C.2.2.2.2.2.1 (by omega) (fun _ => ?_) (fun h => absurd h (by decide)))
    refine r_if_eq C dM_isBarred_28 (by omega) (fun b28 => ?_) (fun b28 => ?_)
    · omega
    · refine r_ik C dM_isBarred_31 ?_
      exact r_zret C dM_isBarred_32 rfl (by omega) (Nat.le_of_ble_eq_true rfl) (Nat.le_of_ble_eq_true rfl) (by first | exact h1 (by omega) | exact h2 (by omega) (by omega) | exact h0 (by omega) (by omega) (by omega))
set_option maxRecDepth 100000 in
set_option maxHeartbeats 4000000 in
theorem cM_isWrong {g : ed_g} {l : Launch} (hl : l.stackTraces = false) {I : ed_I} {L : ed_L} {v : Int} (hv : v = 0 ∨ v = 1) (hs : I 79 3 = 0 ∨ I 79 3 = 1) {post : ed_post} (h1 : v = 0 → post (.inl (some (.int (iZ 1)))) Yw (upI I 79 0 1) L) (h2 : v ≠ 0 → I 79 3 = 0 → post (.inl (some (.int (iZ 1)))) Yw (upI I 79 0 2) L) (h0 : v ≠ 0 → I 79 3 ≠ 0 → post (.inl (some (.int (iZ 0)))) Yw (upI I 79 0 0) L) : ed_Ct g l mM_isWrong 1 0 0 [.ref 79, .int (iZ v)] Yw I L post := by
  refine ed_Ct.of hl rfl (Nat.le_of_ble_eq_true rfl) (fun x _ C => ?_)
  show Gd g x post _ _ _ _ _ _ _ _ 0 [(0, _), (1, _)] []
  refine r_ald C dM_isWrong_0 rfl ?_
  refine r_ild C dM_isWrong_1 rfl ?_
  refine r_if_ne C dM_isWrong_2 (by omega) (fun b2 => ?_) (fun b2 => ?_)
  · refine r_ald C dM_isWrong_9 rfl ?_
    refine r_getI (z := 3) C dM_isWrong_10 rfl rfl rfl ?_
    refine r_if_ne C dM_isWrong_13 (by omega) (fun b13 => ?_) (fun b13 => ?_)
    · refine r_ik C dM_isWrong_20 ?_
      refine r_callV C lzM_refused dM_isWrong_21 _ [_] [] rfl rfl rfl rfl rfl (Nat.le_of_ble_eq_true rfl) ⟨(Nat.le_of_ble_eq_true rfl), (Nat.le_of_ble_eq_true rfl), (Nat.le_of_ble_eq_true rfl), (Nat.le_of_ble_eq_true rfl)⟩ rfl (cM_refused C.2.2.2.2.2.1 (by omega) (fun h => absurd h (by decide)) (fun _ => ?_))
      exact r_zret C dM_isWrong_24 rfl (by omega) (Nat.le_of_ble_eq_true rfl) (Nat.le_of_ble_eq_true rfl) (by first | exact h1 (by omega) | exact h2 (by omega) (by omega) | exact h0 (by omega) (by omega))
    · refine r_ik C dM_isWrong_16 ?_
      refine r_goto C dM_isWrong_17 ?_
      refine r_callV C lzM_refused dM_isWrong_21 _ [_] [] rfl rfl rfl rfl rfl (Nat.le_of_ble_eq_true rfl) ⟨(Nat.le_of_ble_eq_true rfl), (Nat.le_of_ble_eq_true rfl), (Nat.le_of_ble_eq_true rfl), (Nat.le_of_ble_eq_true rfl)⟩ rfl (cM_refused C.2.2.2.2.2.1 (by omega) (fun _ => ?_) (fun h => absurd h (by decide)))
      exact r_zret C dM_isWrong_24 rfl (by omega) (Nat.le_of_ble_eq_true rfl) (Nat.le_of_ble_eq_true rfl) (by first | exact h1 (by omega) | exact h2 (by omega) (by omega) | exact h0 (by omega) (by omega))
  · refine r_ik C dM_isWrong_5 ?_
    refine r_goto C dM_isWrong_6 ?_
    refine r_callV C lzM_refused dM_isWrong_21 _ [_] [] rfl rfl rfl rfl rfl (Nat.le_of_ble_eq_true rfl) ⟨(Nat.le_of_ble_eq_true rfl), (Nat.le_of_ble_eq_true rfl), (Nat.le_of_ble_eq_true rfl), (Nat.le_of_ble_eq_true rfl)⟩ rfl (cM_refused C.2.2.2.2.2.1 (by omega) (fun _ => ?_) (fun h => absurd h (by decide)))
    exact r_zret C dM_isWrong_24 rfl (by omega) (Nat.le_of_ble_eq_true rfl) (Nat.le_of_ble_eq_true rfl) (by first | exact h1 (by omega) | exact h2 (by omega) (by omega) | exact h0 (by omega) (by omega))
set_option maxRecDepth 100000 in
set_option maxHeartbeats 4000000 in
theorem cM_hasAsset {g : ed_g} {l : Launch} (hl : l.stackTraces = false) {I : ed_I} {L : ed_L} {a : Int} (ha : -2147483648 ≤ a ∧ a ≤ 2147483647) (hk : ∀ j, 0 ≤ j → j ≤ 40 → I 81 j = 0 ∨ I 81 j = 1) {post : ed_post} (h1 : (1 ≤ a ∧ a ≤ 40) ∧ I 81 a ≠ 0 → post (.inl (some (.int (iZ 1)))) Yw I L) (h0 : ¬ ((1 ≤ a ∧ a ≤ 40) ∧ I 81 a ≠ 0) → post (.inl (some (.int (iZ 0)))) Yw I L) : ed_Ct g l mM_hasAsset 2 0 0 [.ref 79, .int (iZ a)] Yw I L post := by
  refine ed_Ct.of hl rfl (Nat.le_of_ble_eq_true rfl) (fun x _ C => ?_)
  show Gd g x post _ _ _ _ _ _ _ _ 0 [(0, _), (1, _)] []
  have hka := fun (h : 0 ≤ a ∧ a ≤ 40) => hk a h.1 h.2
  refine r_ild C dM_hasAsset_0 rfl ?_
  refine r_callS C lzM_isId dM_hasAsset_1 [_] [] rfl rfl (Nat.le_of_ble_eq_true rfl) ⟨(Nat.le_of_ble_eq_true rfl), (Nat.le_of_ble_eq_true rfl), (Nat.le_of_ble_eq_true rfl), (Nat.le_of_ble_eq_true rfl)⟩ rfl (cM_isId C.2.2.2.2.2.1 (by omega) (fun b1 => ?_) (fun b1 => ?_))
  · refine r_if_eq C dM_hasAsset_4 (by omega) (fun b4 => ?_) (fun b4 => ?_)
    · omega
    · refine r_ald C dM_hasAsset_7 rfl ?_
      refine r_getR C dM_hasAsset_8 rfl rfl ?_
      refine r_ild C dM_hasAsset_11 rfl ?_
      refine r_zald C dM_hasAsset_12 rfl ⟨by omega, by omega⟩ (by decide) ?_
      refine r_if_eq C dM_hasAsset_13 (by omega) (fun b13 => ?_) (fun b13 => ?_)
      · refine r_ik C dM_hasAsset_20 ?_
        exact r_zret C dM_hasAsset_21 rfl (by omega) (Nat.le_of_ble_eq_true rfl) (Nat.le_of_ble_eq_true rfl) (by first | exact h1 (by omega) | exact h0 (by omega))
      · refine r_ik C dM_hasAsset_16 ?_
        refine r_goto C dM_hasAsset_17 ?_
        exact r_zret C dM_hasAsset_21 rfl (by omega) (Nat.le_of_ble_eq_true rfl) (Nat.le_of_ble_eq_true rfl) (by first | exact h1 (by omega) | exact h0 (by omega))
  · refine r_if_eq C dM_hasAsset_4 (by omega) (fun b4 => ?_) (fun b4 => ?_)
    · refine r_ik C dM_hasAsset_20 ?_
      exact r_zret C dM_hasAsset_21 rfl (by omega) (Nat.le_of_ble_eq_true rfl) (Nat.le_of_ble_eq_true rfl) (by first | exact h1 (by omega) | exact h0 (by omega))
    · omega
set_option maxRecDepth 100000 in
set_option maxHeartbeats 4000000 in
theorem cM_tell {g : ed_g} {l : Launch} (hl : l.stackTraces = false) {I : ed_I} {L : ed_L} {c k a m n : Int} (hc : 0 ≤ c ∧ c ≤ 40) {post : ed_post} (hn : post (.inl none) Yw (upI (upI (upI (upI I 85 c k) 86 c a) 88 c n) 89 c 1) (upI L 87 c m)) : ed_Ct g l mM_tell 0 0 0 [.ref 79, .int (iZ c), .int (iZ k), .int (iZ a), .long (lZ m), .int (iZ n)] Yw I L post := by
  refine ed_Ct.of hl rfl (Nat.le_of_ble_eq_true rfl) (fun x _ C => ?_)
  show Gd g x post _ _ _ _ _ _ _ _ 0 [(0, _), (1, _), (2, _), (3, _), (4, _), (6, _)] []
  refine r_ald C dM_tell_0 rfl ?_
  refine r_getR C dM_tell_1 rfl rfl ?_
  refine r_ild C dM_tell_4 rfl ?_
  refine r_ild C dM_tell_5 rfl ?_
  refine r_iast C dM_tell_6 rfl rfl ⟨by omega, by omega⟩ (by decide) ?_
  refine r_ald C dM_tell_7 rfl ?_
  refine r_getR C dM_tell_8 rfl rfl ?_
  refine r_ild C dM_tell_11 rfl ?_
  refine r_ild C dM_tell_12 rfl ?_
  refine r_iast C dM_tell_13 rfl rfl ⟨by omega, by omega⟩ (by decide) ?_
  refine r_ald C dM_tell_14 rfl ?_
  refine r_getR C dM_tell_15 rfl rfl ?_
  refine r_ild C dM_tell_18 rfl ?_
  refine r_lld C dM_tell_19 rfl ?_
  refine r_last C dM_tell_21 rfl rfl ⟨by omega, by omega⟩ (by decide) ?_
  refine r_ald C dM_tell_22 rfl ?_
  refine r_getR C dM_tell_23 rfl rfl ?_
  refine r_ild C dM_tell_26 rfl ?_
  refine r_ild C dM_tell_27 rfl ?_
  refine r_iast C dM_tell_29 rfl rfl ⟨by omega, by omega⟩ (by decide) ?_
  refine r_ald C dM_tell_30 rfl ?_
  refine r_getR C dM_tell_31 rfl rfl ?_
  refine r_ild C dM_tell_34 rfl ?_
  refine r_ik C dM_tell_35 ?_
  refine r_zast C dM_tell_36 rfl rfl ⟨by omega, by omega⟩ (by decide) (by omega) ?_
  exact r_vret C dM_tell_37 rfl (Nat.le_of_ble_eq_true rfl) (Nat.le_of_ble_eq_true rfl) (hn)
set_option maxRecDepth 100000 in
set_option maxHeartbeats 4000000 in
theorem cM_table {g : ed_g} {l : Launch} (hl : l.stackTraces = false) {I : ed_I} {L : ed_L} {Y : ed_Y} {y a : Int} (hy : 0 ≤ y ∧ y ≤ 1000000000) (ha : 0 ≤ a ∧ a ≤ 99) {post : ed_post} (hp : post (.inl (some (.long (lZ (anV y a))))) Y I L) : ed_Ct g l mM_table 0 0 0 [.long (lZ y), .int (iZ a)] Y I L post := by
  refine ed_Ct.of hl rfl (Nat.le_of_ble_eq_true rfl) (fun x _ C => ?_)
  show Gd g x post _ _ _ _ _ _ _ _ 0 [(0, _), (2, _)] []
  have loop : ∀ (q : Nat) (i f t : Int), (102 - a - i).toNat < q → 1 ≤ i ∧ i ≤ 101 - a → f = anF (i - 1).toNat → t = anS (i - 1).toNat → Gd g x post 0 0 mM_table.2.2.1 0 0 Y I L 10 [(0, .long (lZ y)), (2, .int (iZ a)), (3, .long (lZ f)), (5, .long (lZ t)), (7, .int (iZ i))] [] := by
    intro q
    induction q with
    | zero => intro i f t hq; omega
    | succ q ih =>
      intro i f t hq g1 g2 g3
      have f1 := anF_in (i - 1).toNat
      have f2 := anM (n := (i - 1).toNat) hy (by omega)
      rw [← g3] at f2
      rw [← g2] at f1
      refine r_ild C dM_table_10 rfl ?_
      refine r_ik C dM_table_12 ?_
      refine r_ild C dM_table_14 rfl ?_
      refine r_isub C dM_table_15 ?_
      refine r_icmp_gt C dM_table_16 (by omega) (fun b16 => ?_) (fun b16 => ?_)
      · refine r_lld C dM_table_41 rfl ?_
        refine r_lld C dM_table_42 rfl ?_
        refine r_lmul C dM_table_44 ?_
        refine r_lk C dM_table_45 ?_
        refine r_ldiv C dM_table_48 (by omega) ?_
        exact r_lret C dM_table_49 rfl (Nat.le_of_ble_eq_true rfl) (Nat.le_of_ble_eq_true rfl) (by rw [g3, show (i - 1).toNat = (100 - a).toNat by omega]; exact hp)
      · refine r_lk C dM_table_19 ?_
        refine r_lld C dM_table_22 rfl ?_
        refine r_lmul C dM_table_23 ?_
        refine r_lk C dM_table_24 ?_
        refine r_ldiv C dM_table_27 (by omega) ?_
        refine r_lst C dM_table_28 (by decide) (ls' := [(0, _), (2, _), (3, _), (5, _), (7, _)]) rfl ?_
        refine r_lld C dM_table_29 rfl ?_
        refine r_lld C dM_table_31 rfl ?_
        refine r_ladd C dM_table_32 ?_
        refine r_lst C dM_table_33 (by decide) (ls' := [(0, _), (2, _), (3, _), (5, _), (7, _)]) rfl ?_
        refine r_iinc C dM_table_35 (by decide) rfl (ls' := [(0, _), (2, _), (3, _), (5, _), (7, _)]) rfl ?_
        refine r_goto C dM_table_38 ?_
        exact ih _ _ _ (by omega) (by omega) (by rw [(an_to g1.1).1, g2]) (by rw [(an_to g1.1).2, g2, g3])
  refine r_lk C dM_table_0 ?_
  refine r_lst C dM_table_3 (by decide) (ls' := [(0, _), (2, _), (3, _)]) rfl ?_
  refine r_lk C dM_table_4 ?_
  refine r_lst C dM_table_5 (by decide) (ls' := [(0, _), (2, _), (3, _), (5, _)]) rfl ?_
  refine r_ik C dM_table_7 ?_
  refine r_ist C dM_table_8 (by decide) (ls' := [(0, _), (2, _), (3, _), (5, _), (7, _)]) rfl ?_
  exact loop 200 1 1000000 0 (by omega) (by omega) rfl rfl
/-- another clause below n has the asset a, in a gift or (y) in a legacy -/
def mHad (I : ed_I) (c a y n : Int) : Prop := ∃ j, 1 ≤ j ∧ j < n ∧ j ≠ c ∧ (I 85 j = 1 ∨ (y ≠ 0 ∧ I 85 j = 2)) ∧ I 86 j = a ∧ 0 < a
set_option maxRecDepth 100000 in
set_option maxHeartbeats 4000000 in
theorem cM_isHad {g : ed_g} {l : Launch} (hl : l.stackTraces = false) {I : ed_I} {L : ed_L} {c a y : Int} (hc : -2147483648 ≤ c ∧ c ≤ 2147483647) (ha : -2147483648 ≤ a ∧ a ≤ 2147483647) (hy : y = 0 ∨ y = 1) (hr : ∀ j, 0 ≤ j → j ≤ 40 → -1 ≤ I 86 j ∧ I 86 j ≤ 100000) (hr2 : ∀ j, 0 ≤ j → j ≤ 40 → -1 ≤ I 85 j ∧ I 85 j ≤ 100000) {post : ed_post} (h1 : mHad I c a y 41 → post (.inl (some (.int (iZ 1)))) Yw I L) (h0 : ¬ mHad I c a y 41 → post (.inl (some (.int (iZ 0)))) Yw I L) : ed_Ct g l mM_isHad 0 0 0 [.ref 79, .int (iZ c), .int (iZ a), .int (iZ y)] Yw I L post := by
  refine ed_Ct.of hl rfl (Nat.le_of_ble_eq_true rfl) (fun x _ C => ?_)
  show Gd g x post _ _ _ _ _ _ _ _ 0 [(0, _), (1, _), (2, _), (3, _)] []
  have loop : ∀ (q : Nat) (i b : Int), (41 - i).toNat < q → 1 ≤ i ∧ i ≤ 41 → (b = 0 ∨ b = 1) → (b = 1 ↔ mHad I c a y i) → Gd g x post 0 0 mM_isHad.2.2.1 0 0 Yw I L 6 [(0, .ref 79), (1, .int (iZ c)), (2, .int (iZ a)), (3, .int (iZ y)), (4, .int (iZ b)), (5, .int (iZ i))] [] := by
    intro q
    induction q with
    | zero => intro i b hq; omega
    | succ q ih =>
      intro i b hq g1 g2 g3
      have hri := fun (h : i ≤ 40) => hr i (by omega) h
      have hri2 := fun (h : i ≤ 40) => hr2 i (by omega) h
      refine r_ild C dM_isHad_6 rfl ?_
      refine r_ik C dM_isHad_8 ?_
      refine r_icmp_ge C dM_isHad_10 (by omega) (fun b10 => ?_) (fun b10 => ?_)
      · refine r_ild C dM_isHad_90 rfl ?_
        exact r_zret C dM_isHad_92 rfl (by omega) (Nat.le_of_ble_eq_true rfl) (Nat.le_of_ble_eq_true rfl) (by first | (rcases g2 with rfl | rfl; exact h0 (fun hh => by have := g3.mpr (by rw [show i = 41 by omega]; exact hh); omega); exact h1 (by rw [← show i = 41 by omega]; exact g3.mp rfl)))
      · refine r_ald C dM_isHad_13 rfl ?_
        refine r_getR C dM_isHad_14 rfl rfl ?_
        refine r_ild C dM_isHad_17 rfl ?_
        refine r_iald C dM_isHad_19 rfl ⟨by omega, by omega⟩ (by decide) ?_
        refine r_ik C dM_isHad_20 ?_
        refine r_icmp_eq C dM_isHad_21 (by omega) (fun b21 => ?_) (fun b21 => ?_)
        · refine r_ik C dM_isHad_39 ?_
          refine r_goto C dM_isHad_40 ?_
          refine r_ist C dM_isHad_44 (by decide) (ls' := [(0, _), (1, _), (2, _), (3, _), (4, _), (5, _), (6, _)]) rfl ?_
          refine r_ild C dM_isHad_46 rfl ?_
          refine r_if_ne C dM_isHad_48 (by omega) (fun b48 => ?_) (fun b48 => ?_)
          · refine r_ik C dM_isHad_77 ?_
            refine r_goto C dM_isHad_78 ?_
            refine r_ist C dM_isHad_82 (by decide) (ls' := [(0, _), (1, _), (2, _), (3, _), (4, _), (5, _), (6, _)]) rfl ?_
            refine r_iinc C dM_isHad_84 (by decide) rfl (ls' := [(0, _), (1, _), (2, _), (3, _), (4, _), (5, _), (6, _)]) rfl ?_
            refine r_goto C dM_isHad_87 ?_
            refine Gd.drop (ls := [(0, _), (1, _), (2, _), (3, _), (4, _), (5, _)]) (ls2 := [(6, _)]) (ih _ _ (by omega) (by omega) (by omega) ?_)
            constructor
            · intro h9
              first | omega | exact ⟨i, by omega, by omega, by omega, by omega, by omega, by omega⟩ | (obtain ⟨j, j1, j2, j3, j4, j5, j6⟩ := g3.mp (by omega); exact ⟨j, j1, by omega, j3, j4, j5, j6⟩)
            · rintro ⟨j, j1, j2, j3, j4, j5, j6⟩
              by_cases hj : j = i
              · subst hj; omega
              · first | omega | (have := g3.mpr ⟨j, j1, by omega, j3, j4, j5, j6⟩; omega)
          · refine r_ild C dM_isHad_51 rfl ?_
            refine r_ild C dM_isHad_53 rfl ?_
            refine r_icmp_eq C dM_isHad_54 (by omega) (fun b54 => ?_) (fun b54 => ?_)
            · refine r_ik C dM_isHad_81 ?_
              refine r_ist C dM_isHad_82 (by decide) (ls' := [(0, _), (1, _), (2, _), (3, _), (4, _), (5, _), (6, _)]) rfl ?_
              refine r_iinc C dM_isHad_84 (by decide) rfl (ls' := [(0, _), (1, _), (2, _), (3, _), (4, _), (5, _), (6, _)]) rfl ?_
              refine r_goto C dM_isHad_87 ?_
              refine Gd.drop (ls := [(0, _), (1, _), (2, _), (3, _), (4, _), (5, _)]) (ls2 := [(6, _)]) (ih _ _ (by omega) (by omega) (by omega) ?_)
              constructor
              · intro h9
                first | omega | exact ⟨i, by omega, by omega, by omega, by omega, by omega, by omega⟩ | (obtain ⟨j, j1, j2, j3, j4, j5, j6⟩ := g3.mp (by omega); exact ⟨j, j1, by omega, j3, j4, j5, j6⟩)
              · rintro ⟨j, j1, j2, j3, j4, j5, j6⟩
                by_cases hj : j = i
                · subst hj; omega
                · first | omega | (have := g3.mpr ⟨j, j1, by omega, j3, j4, j5, j6⟩; omega)
            · refine r_ild C dM_isHad_57 rfl ?_
              refine r_if_eq C dM_isHad_59 (by omega) (fun b59 => ?_) (fun b59 => ?_)
              · omega
              · refine r_ald C dM_isHad_62 rfl ?_
                refine r_getR C dM_isHad_63 rfl rfl ?_
                refine r_ild C dM_isHad_66 rfl ?_
                refine r_iald C dM_isHad_68 rfl ⟨by omega, by omega⟩ (by decide) ?_
                refine r_ild C dM_isHad_69 rfl ?_
                refine r_icmp_ne C dM_isHad_70 (by omega) (fun b70 => ?_) (fun b70 => ?_)
                · refine r_ik C dM_isHad_81 ?_
                  refine r_ist C dM_isHad_82 (by decide) (ls' := [(0, _), (1, _), (2, _), (3, _), (4, _), (5, _), (6, _)]) rfl ?_
                  refine r_iinc C dM_isHad_84 (by decide) rfl (ls' := [(0, _), (1, _), (2, _), (3, _), (4, _), (5, _), (6, _)]) rfl ?_
                  refine r_goto C dM_isHad_87 ?_
                  refine Gd.drop (ls := [(0, _), (1, _), (2, _), (3, _), (4, _), (5, _)]) (ls2 := [(6, _)]) (ih _ _ (by omega) (by omega) (by omega) ?_)
                  constructor
                  · intro h9
                    first | omega | exact ⟨i, by omega, by omega, by omega, by omega, by omega, by omega⟩ | (obtain ⟨j, j1, j2, j3, j4, j5, j6⟩ := g3.mp (by omega); exact ⟨j, j1, by omega, j3, j4, j5, j6⟩)
                  · rintro ⟨j, j1, j2, j3, j4, j5, j6⟩
                    by_cases hj : j = i
                    · subst hj; omega
                    · first | omega | (have := g3.mpr ⟨j, j1, by omega, j3, j4, j5, j6⟩; omega)
                · refine r_ild C dM_isHad_73 rfl ?_
                  refine r_if_le C dM_isHad_74 (by omega) (fun b74 => ?_) (fun b74 => ?_)
                  · refine r_ik C dM_isHad_81 ?_
                    refine r_ist C dM_isHad_82 (by decide) (ls' := [(0, _), (1, _), (2, _), (3, _), (4, _), (5, _), (6, _)]) rfl ?_
                    refine r_iinc C dM_isHad_84 (by decide) rfl (ls' := [(0, _), (1, _), (2, _), (3, _), (4, _), (5, _), (6, _)]) rfl ?_
                    refine r_goto C dM_isHad_87 ?_
                    refine Gd.drop (ls := [(0, _), (1, _), (2, _), (3, _), (4, _), (5, _)]) (ls2 := [(6, _)]) (ih _ _ (by omega) (by omega) (by omega) ?_)
                    constructor
                    · intro h9
                      first | omega | exact ⟨i, by omega, by omega, by omega, by omega, by omega, by omega⟩ | (obtain ⟨j, j1, j2, j3, j4, j5, j6⟩ := g3.mp (by omega); exact ⟨j, j1, by omega, j3, j4, j5, j6⟩)
                    · rintro ⟨j, j1, j2, j3, j4, j5, j6⟩
                      by_cases hj : j = i
                      · subst hj; omega
                      · first | omega | (have := g3.mpr ⟨j, j1, by omega, j3, j4, j5, j6⟩; omega)
                  · refine r_ik C dM_isHad_77 ?_
                    refine r_goto C dM_isHad_78 ?_
                    refine r_ist C dM_isHad_82 (by decide) (ls' := [(0, _), (1, _), (2, _), (3, _), (4, _), (5, _), (6, _)]) rfl ?_
                    refine r_iinc C dM_isHad_84 (by decide) rfl (ls' := [(0, _), (1, _), (2, _), (3, _), (4, _), (5, _), (6, _)]) rfl ?_
                    refine r_goto C dM_isHad_87 ?_
                    refine Gd.drop (ls := [(0, _), (1, _), (2, _), (3, _), (4, _), (5, _)]) (ls2 := [(6, _)]) (ih _ _ (by omega) (by omega) (by omega) ?_)
                    constructor
                    · intro h9
                      first | omega | exact ⟨i, by omega, by omega, by omega, by omega, by omega, by omega⟩ | (obtain ⟨j, j1, j2, j3, j4, j5, j6⟩ := g3.mp (by omega); exact ⟨j, j1, by omega, j3, j4, j5, j6⟩)
                    · rintro ⟨j, j1, j2, j3, j4, j5, j6⟩
                      by_cases hj : j = i
                      · subst hj; omega
                      · first | omega | (have := g3.mpr ⟨j, j1, by omega, j3, j4, j5, j6⟩; omega)
        · refine r_ild C dM_isHad_24 rfl ?_
          refine r_if_eq C dM_isHad_25 (by omega) (fun b25 => ?_) (fun b25 => ?_)
          · refine r_ik C dM_isHad_43 ?_
            refine r_ist C dM_isHad_44 (by decide) (ls' := [(0, _), (1, _), (2, _), (3, _), (4, _), (5, _), (6, _)]) rfl ?_
            refine r_ild C dM_isHad_46 rfl ?_
            refine r_if_ne C dM_isHad_48 (by omega) (fun b48 => ?_) (fun b48 => ?_)
            · refine r_ik C dM_isHad_77 ?_
              refine r_goto C dM_isHad_78 ?_
              refine r_ist C dM_isHad_82 (by decide) (ls' := [(0, _), (1, _), (2, _), (3, _), (4, _), (5, _), (6, _)]) rfl ?_
              refine r_iinc C dM_isHad_84 (by decide) rfl (ls' := [(0, _), (1, _), (2, _), (3, _), (4, _), (5, _), (6, _)]) rfl ?_
              refine r_goto C dM_isHad_87 ?_
              refine Gd.drop (ls := [(0, _), (1, _), (2, _), (3, _), (4, _), (5, _)]) (ls2 := [(6, _)]) (ih _ _ (by omega) (by omega) (by omega) ?_)
              constructor
              · intro h9
                first | omega | exact ⟨i, by omega, by omega, by omega, by omega, by omega, by omega⟩ | (obtain ⟨j, j1, j2, j3, j4, j5, j6⟩ := g3.mp (by omega); exact ⟨j, j1, by omega, j3, j4, j5, j6⟩)
              · rintro ⟨j, j1, j2, j3, j4, j5, j6⟩
                by_cases hj : j = i
                · subst hj; omega
                · first | omega | (have := g3.mpr ⟨j, j1, by omega, j3, j4, j5, j6⟩; omega)
            · refine r_ild C dM_isHad_51 rfl ?_
              refine r_ild C dM_isHad_53 rfl ?_
              refine r_icmp_eq C dM_isHad_54 (by omega) (fun b54 => ?_) (fun b54 => ?_)
              · refine r_ik C dM_isHad_81 ?_
                refine r_ist C dM_isHad_82 (by decide) (ls' := [(0, _), (1, _), (2, _), (3, _), (4, _), (5, _), (6, _)]) rfl ?_
                refine r_iinc C dM_isHad_84 (by decide) rfl (ls' := [(0, _), (1, _), (2, _), (3, _), (4, _), (5, _), (6, _)]) rfl ?_
                refine r_goto C dM_isHad_87 ?_
                refine Gd.drop (ls := [(0, _), (1, _), (2, _), (3, _), (4, _), (5, _)]) (ls2 := [(6, _)]) (ih _ _ (by omega) (by omega) (by omega) ?_)
                constructor
                · intro h9
                  first | omega | exact ⟨i, by omega, by omega, by omega, by omega, by omega, by omega⟩ | (obtain ⟨j, j1, j2, j3, j4, j5, j6⟩ := g3.mp (by omega); exact ⟨j, j1, by omega, j3, j4, j5, j6⟩)
                · rintro ⟨j, j1, j2, j3, j4, j5, j6⟩
                  by_cases hj : j = i
                  · subst hj; omega
                  · first | omega | (have := g3.mpr ⟨j, j1, by omega, j3, j4, j5, j6⟩; omega)
              · refine r_ild C dM_isHad_57 rfl ?_
                refine r_if_eq C dM_isHad_59 (by omega) (fun b59 => ?_) (fun b59 => ?_)
                · refine r_ik C dM_isHad_81 ?_
                  refine r_ist C dM_isHad_82 (by decide) (ls' := [(0, _), (1, _), (2, _), (3, _), (4, _), (5, _), (6, _)]) rfl ?_
                  refine r_iinc C dM_isHad_84 (by decide) rfl (ls' := [(0, _), (1, _), (2, _), (3, _), (4, _), (5, _), (6, _)]) rfl ?_
                  refine r_goto C dM_isHad_87 ?_
                  refine Gd.drop (ls := [(0, _), (1, _), (2, _), (3, _), (4, _), (5, _)]) (ls2 := [(6, _)]) (ih _ _ (by omega) (by omega) (by omega) ?_)
                  constructor
                  · intro h9
                    first | omega | exact ⟨i, by omega, by omega, by omega, by omega, by omega, by omega⟩ | (obtain ⟨j, j1, j2, j3, j4, j5, j6⟩ := g3.mp (by omega); exact ⟨j, j1, by omega, j3, j4, j5, j6⟩)
                  · rintro ⟨j, j1, j2, j3, j4, j5, j6⟩
                    by_cases hj : j = i
                    · subst hj; omega
                    · first | omega | (have := g3.mpr ⟨j, j1, by omega, j3, j4, j5, j6⟩; omega)
                · omega
          · refine r_ald C dM_isHad_28 rfl ?_
            refine r_getR C dM_isHad_29 rfl rfl ?_
            refine r_ild C dM_isHad_32 rfl ?_
            refine r_iald C dM_isHad_34 rfl ⟨by omega, by omega⟩ (by decide) ?_
            refine r_ik C dM_isHad_35 ?_
            refine r_icmp_ne C dM_isHad_36 (by omega) (fun b36 => ?_) (fun b36 => ?_)
            · refine r_ik C dM_isHad_43 ?_
              refine r_ist C dM_isHad_44 (by decide) (ls' := [(0, _), (1, _), (2, _), (3, _), (4, _), (5, _), (6, _)]) rfl ?_
              refine r_ild C dM_isHad_46 rfl ?_
              refine r_if_ne C dM_isHad_48 (by omega) (fun b48 => ?_) (fun b48 => ?_)
              · refine r_ik C dM_isHad_77 ?_
                refine r_goto C dM_isHad_78 ?_
                refine r_ist C dM_isHad_82 (by decide) (ls' := [(0, _), (1, _), (2, _), (3, _), (4, _), (5, _), (6, _)]) rfl ?_
                refine r_iinc C dM_isHad_84 (by decide) rfl (ls' := [(0, _), (1, _), (2, _), (3, _), (4, _), (5, _), (6, _)]) rfl ?_
                refine r_goto C dM_isHad_87 ?_
                refine Gd.drop (ls := [(0, _), (1, _), (2, _), (3, _), (4, _), (5, _)]) (ls2 := [(6, _)]) (ih _ _ (by omega) (by omega) (by omega) ?_)
                constructor
                · intro h9
                  first | omega | exact ⟨i, by omega, by omega, by omega, by omega, by omega, by omega⟩ | (obtain ⟨j, j1, j2, j3, j4, j5, j6⟩ := g3.mp (by omega); exact ⟨j, j1, by omega, j3, j4, j5, j6⟩)
                · rintro ⟨j, j1, j2, j3, j4, j5, j6⟩
                  by_cases hj : j = i
                  · subst hj; omega
                  · first | omega | (have := g3.mpr ⟨j, j1, by omega, j3, j4, j5, j6⟩; omega)
              · refine r_ild C dM_isHad_51 rfl ?_
                refine r_ild C dM_isHad_53 rfl ?_
                refine r_icmp_eq C dM_isHad_54 (by omega) (fun b54 => ?_) (fun b54 => ?_)
                · refine r_ik C dM_isHad_81 ?_
                  refine r_ist C dM_isHad_82 (by decide) (ls' := [(0, _), (1, _), (2, _), (3, _), (4, _), (5, _), (6, _)]) rfl ?_
                  refine r_iinc C dM_isHad_84 (by decide) rfl (ls' := [(0, _), (1, _), (2, _), (3, _), (4, _), (5, _), (6, _)]) rfl ?_
                  refine r_goto C dM_isHad_87 ?_
                  refine Gd.drop (ls := [(0, _), (1, _), (2, _), (3, _), (4, _), (5, _)]) (ls2 := [(6, _)]) (ih _ _ (by omega) (by omega) (by omega) ?_)
                  constructor
                  · intro h9
                    first | omega | exact ⟨i, by omega, by omega, by omega, by omega, by omega, by omega⟩ | (obtain ⟨j, j1, j2, j3, j4, j5, j6⟩ := g3.mp (by omega); exact ⟨j, j1, by omega, j3, j4, j5, j6⟩)
                  · rintro ⟨j, j1, j2, j3, j4, j5, j6⟩
                    by_cases hj : j = i
                    · subst hj; omega
                    · first | omega | (have := g3.mpr ⟨j, j1, by omega, j3, j4, j5, j6⟩; omega)
                · refine r_ild C dM_isHad_57 rfl ?_
                  refine r_if_eq C dM_isHad_59 (by omega) (fun b59 => ?_) (fun b59 => ?_)
                  · refine r_ik C dM_isHad_81 ?_
                    refine r_ist C dM_isHad_82 (by decide) (ls' := [(0, _), (1, _), (2, _), (3, _), (4, _), (5, _), (6, _)]) rfl ?_
                    refine r_iinc C dM_isHad_84 (by decide) rfl (ls' := [(0, _), (1, _), (2, _), (3, _), (4, _), (5, _), (6, _)]) rfl ?_
                    refine r_goto C dM_isHad_87 ?_
                    refine Gd.drop (ls := [(0, _), (1, _), (2, _), (3, _), (4, _), (5, _)]) (ls2 := [(6, _)]) (ih _ _ (by omega) (by omega) (by omega) ?_)
                    constructor
                    · intro h9
                      first | omega | exact ⟨i, by omega, by omega, by omega, by omega, by omega, by omega⟩ | (obtain ⟨j, j1, j2, j3, j4, j5, j6⟩ := g3.mp (by omega); exact ⟨j, j1, by omega, j3, j4, j5, j6⟩)
                    · rintro ⟨j, j1, j2, j3, j4, j5, j6⟩
                      by_cases hj : j = i
                      · subst hj; omega
                      · first | omega | (have := g3.mpr ⟨j, j1, by omega, j3, j4, j5, j6⟩; omega)
                  · omega
            · refine r_ik C dM_isHad_39 ?_
              refine r_goto C dM_isHad_40 ?_
              refine r_ist C dM_isHad_44 (by decide) (ls' := [(0, _), (1, _), (2, _), (3, _), (4, _), (5, _), (6, _)]) rfl ?_
              refine r_ild C dM_isHad_46 rfl ?_
              refine r_if_ne C dM_isHad_48 (by omega) (fun b48 => ?_) (fun b48 => ?_)
              · refine r_ik C dM_isHad_77 ?_
                refine r_goto C dM_isHad_78 ?_
                refine r_ist C dM_isHad_82 (by decide) (ls' := [(0, _), (1, _), (2, _), (3, _), (4, _), (5, _), (6, _)]) rfl ?_
                refine r_iinc C dM_isHad_84 (by decide) rfl (ls' := [(0, _), (1, _), (2, _), (3, _), (4, _), (5, _), (6, _)]) rfl ?_
                refine r_goto C dM_isHad_87 ?_
                refine Gd.drop (ls := [(0, _), (1, _), (2, _), (3, _), (4, _), (5, _)]) (ls2 := [(6, _)]) (ih _ _ (by omega) (by omega) (by omega) ?_)
                constructor
                · intro h9
                  first | omega | exact ⟨i, by omega, by omega, by omega, by omega, by omega, by omega⟩ | (obtain ⟨j, j1, j2, j3, j4, j5, j6⟩ := g3.mp (by omega); exact ⟨j, j1, by omega, j3, j4, j5, j6⟩)
                · rintro ⟨j, j1, j2, j3, j4, j5, j6⟩
                  by_cases hj : j = i
                  · subst hj; omega
                  · first | omega | (have := g3.mpr ⟨j, j1, by omega, j3, j4, j5, j6⟩; omega)
              · refine r_ild C dM_isHad_51 rfl ?_
                refine r_ild C dM_isHad_53 rfl ?_
                refine r_icmp_eq C dM_isHad_54 (by omega) (fun b54 => ?_) (fun b54 => ?_)
                · refine r_ik C dM_isHad_81 ?_
                  refine r_ist C dM_isHad_82 (by decide) (ls' := [(0, _), (1, _), (2, _), (3, _), (4, _), (5, _), (6, _)]) rfl ?_
                  refine r_iinc C dM_isHad_84 (by decide) rfl (ls' := [(0, _), (1, _), (2, _), (3, _), (4, _), (5, _), (6, _)]) rfl ?_
                  refine r_goto C dM_isHad_87 ?_
                  refine Gd.drop (ls := [(0, _), (1, _), (2, _), (3, _), (4, _), (5, _)]) (ls2 := [(6, _)]) (ih _ _ (by omega) (by omega) (by omega) ?_)
                  constructor
                  · intro h9
                    first | omega | exact ⟨i, by omega, by omega, by omega, by omega, by omega, by omega⟩ | (obtain ⟨j, j1, j2, j3, j4, j5, j6⟩ := g3.mp (by omega); exact ⟨j, j1, by omega, j3, j4, j5, j6⟩)
                  · rintro ⟨j, j1, j2, j3, j4, j5, j6⟩
                    by_cases hj : j = i
                    · subst hj; omega
                    · first | omega | (have := g3.mpr ⟨j, j1, by omega, j3, j4, j5, j6⟩; omega)
                · refine r_ild C dM_isHad_57 rfl ?_
                  refine r_if_eq C dM_isHad_59 (by omega) (fun b59 => ?_) (fun b59 => ?_)
                  · omega
                  · refine r_ald C dM_isHad_62 rfl ?_
                    refine r_getR C dM_isHad_63 rfl rfl ?_
                    refine r_ild C dM_isHad_66 rfl ?_
                    refine r_iald C dM_isHad_68 rfl ⟨by omega, by omega⟩ (by decide) ?_
                    refine r_ild C dM_isHad_69 rfl ?_
                    refine r_icmp_ne C dM_isHad_70 (by omega) (fun b70 => ?_) (fun b70 => ?_)
                    · refine r_ik C dM_isHad_81 ?_
                      refine r_ist C dM_isHad_82 (by decide) (ls' := [(0, _), (1, _), (2, _), (3, _), (4, _), (5, _), (6, _)]) rfl ?_
                      refine r_iinc C dM_isHad_84 (by decide) rfl (ls' := [(0, _), (1, _), (2, _), (3, _), (4, _), (5, _), (6, _)]) rfl ?_
                      refine r_goto C dM_isHad_87 ?_
                      refine Gd.drop (ls := [(0, _), (1, _), (2, _), (3, _), (4, _), (5, _)]) (ls2 := [(6, _)]) (ih _ _ (by omega) (by omega) (by omega) ?_)
                      constructor
                      · intro h9
                        first | omega | exact ⟨i, by omega, by omega, by omega, by omega, by omega, by omega⟩ | (obtain ⟨j, j1, j2, j3, j4, j5, j6⟩ := g3.mp (by omega); exact ⟨j, j1, by omega, j3, j4, j5, j6⟩)
                      · rintro ⟨j, j1, j2, j3, j4, j5, j6⟩
                        by_cases hj : j = i
                        · subst hj; omega
                        · first | omega | (have := g3.mpr ⟨j, j1, by omega, j3, j4, j5, j6⟩; omega)
                    · refine r_ild C dM_isHad_73 rfl ?_
                      refine r_if_le C dM_isHad_74 (by omega) (fun b74 => ?_) (fun b74 => ?_)
                      · refine r_ik C dM_isHad_81 ?_
                        refine r_ist C dM_isHad_82 (by decide) (ls' := [(0, _), (1, _), (2, _), (3, _), (4, _), (5, _), (6, _)]) rfl ?_
                        refine r_iinc C dM_isHad_84 (by decide) rfl (ls' := [(0, _), (1, _), (2, _), (3, _), (4, _), (5, _), (6, _)]) rfl ?_
                        refine r_goto C dM_isHad_87 ?_
                        refine Gd.drop (ls := [(0, _), (1, _), (2, _), (3, _), (4, _), (5, _)]) (ls2 := [(6, _)]) (ih _ _ (by omega) (by omega) (by omega) ?_)
                        constructor
                        · intro h9
                          first | omega | exact ⟨i, by omega, by omega, by omega, by omega, by omega, by omega⟩ | (obtain ⟨j, j1, j2, j3, j4, j5, j6⟩ := g3.mp (by omega); exact ⟨j, j1, by omega, j3, j4, j5, j6⟩)
                        · rintro ⟨j, j1, j2, j3, j4, j5, j6⟩
                          by_cases hj : j = i
                          · subst hj; omega
                          · first | omega | (have := g3.mpr ⟨j, j1, by omega, j3, j4, j5, j6⟩; omega)
                      · refine r_ik C dM_isHad_77 ?_
                        refine r_goto C dM_isHad_78 ?_
                        refine r_ist C dM_isHad_82 (by decide) (ls' := [(0, _), (1, _), (2, _), (3, _), (4, _), (5, _), (6, _)]) rfl ?_
                        refine r_iinc C dM_isHad_84 (by decide) rfl (ls' := [(0, _), (1, _), (2, _), (3, _), (4, _), (5, _), (6, _)]) rfl ?_
                        refine r_goto C dM_isHad_87 ?_
                        refine Gd.drop (ls := [(0, _), (1, _), (2, _), (3, _), (4, _), (5, _)]) (ls2 := [(6, _)]) (ih _ _ (by omega) (by omega) (by omega) ?_)
                        constructor
                        · intro h9
                          first | omega | exact ⟨i, by omega, by omega, by omega, by omega, by omega, by omega⟩ | (obtain ⟨j, j1, j2, j3, j4, j5, j6⟩ := g3.mp (by omega); exact ⟨j, j1, by omega, j3, j4, j5, j6⟩)
                        · rintro ⟨j, j1, j2, j3, j4, j5, j6⟩
                          by_cases hj : j = i
                          · subst hj; omega
                          · first | omega | (have := g3.mpr ⟨j, j1, by omega, j3, j4, j5, j6⟩; omega)
  refine r_ik C dM_isHad_0 ?_
  refine r_ist C dM_isHad_1 (by decide) (ls' := [(0, _), (1, _), (2, _), (3, _), (4, _)]) rfl ?_
  refine r_ik C dM_isHad_3 ?_
  refine r_ist C dM_isHad_4 (by decide) (ls' := [(0, _), (1, _), (2, _), (3, _), (4, _), (5, _)]) rfl ?_
  exact loop 50 1 0 (by omega) (by omega) (by omega) (by constructor <;> (first | omega | (rintro ⟨j, j1, j2, -⟩; omega)))
set_option maxRecDepth 100000 in
set_option maxHeartbeats 4000000 in
theorem cM_testator {g : ed_g} {l : Launch} (hl : l.stackTraces = false) {I : ed_I} {L : ed_L} {a : Int} (ra : -2147483648 ≤ a ∧ a ≤ 2147483647) (hc : I 79 2 = 0 ∨ I 79 2 = 1) {post : ed_post} (h1 : ¬ (1 ≤ a ∧ a ≤ 100000) → post (.inl (none)) Yw (upI I 79 0 1) L) (h2 : (1 ≤ a ∧ a ≤ 100000) → ¬ (I 79 2 = 0) → post (.inl (none)) Yw (upI I 79 0 2) L) (hn : (1 ≤ a ∧ a ≤ 100000) → (I 79 2 = 0) → post (.inl (none)) Yw (upI (upI (upI I 79 0 0) 79 4 0) 79 1 a) L) : ed_Ct g l mM_testator 3 0 0 [.ref 79, .int (iZ a)] Yw I L post := by
  refine ed_Ct.of hl rfl (Nat.le_of_ble_eq_true rfl) (fun x _ C => ?_)
  show Gd g x post _ _ _ _ _ _ _ _ 0 [(0, _), (1, _)] []
  refine r_ald C dM_testator_0 rfl ?_
  refine r_ild C dM_testator_1 rfl ?_
  refine r_i2l C dM_testator_2 (by omega) ?_
  refine r_lk C dM_testator_3 ?_
  refine r_lk C dM_testator_4 ?_
  refine r_callS C lzM_isIn dM_testator_7 [_, _, _] [_] rfl rfl (Nat.le_of_ble_eq_true rfl) ⟨(Nat.le_of_ble_eq_true rfl), (Nat.le_of_ble_eq_true rfl), (Nat.le_of_ble_eq_true rfl), (Nat.le_of_ble_eq_true rfl)⟩ rfl (cM_isIn C.2.2.2.2.2.1 (by omega) (fun b7 => ?_) (fun b7 => ?_))
  · refine r_ik C dM_testator_10 ?_
    refine r_callV C lzM_isBarred dM_testator_11 _ [_, _] [] rfl rfl rfl rfl rfl (Nat.le_of_ble_eq_true rfl) ⟨(Nat.le_of_ble_eq_true rfl), (Nat.le_of_ble_eq_true rfl), (Nat.le_of_ble_eq_true rfl), (Nat.le_of_ble_eq_true rfl)⟩ rfl (cM_isBarred C.2.2.2.2.2.1 (by omega) (by omega) hc (fun h => absurd h (by decide)) (fun _ b11 => ?_) (fun _ b11 _ => ?_))
    · refine r_if_ne C dM_testator_14 (by omega) (fun b14 => ?_) (fun b14 => ?_)
      · exact r_vret C dM_testator_22 rfl (Nat.le_of_ble_eq_true rfl) (Nat.le_of_ble_eq_true rfl) (by first | exact h1 (by omega) | exact h2 (by omega) (by omega) | exact hn (by omega) (by omega))
      · omega
    · refine r_if_ne C dM_testator_14 (by omega) (fun b14 => ?_) (fun b14 => ?_)
      · omega
      · refine r_ald C dM_testator_17 rfl ?_
        refine r_ild C dM_testator_18 rfl ?_
        refine r_putI (z := 1) C dM_testator_19 rfl rfl rfl rfl (ed_pi7_1 _) ?_
        exact r_vret C dM_testator_22 rfl (Nat.le_of_ble_eq_true rfl) (Nat.le_of_ble_eq_true rfl) (by first | exact h1 (by omega) | exact h2 (by omega) (by omega) | exact hn (by omega) (by omega))
  · refine r_ik C dM_testator_10 ?_
    refine r_callV C lzM_isBarred dM_testator_11 _ [_, _] [] rfl rfl rfl rfl rfl (Nat.le_of_ble_eq_true rfl) ⟨(Nat.le_of_ble_eq_true rfl), (Nat.le_of_ble_eq_true rfl), (Nat.le_of_ble_eq_true rfl), (Nat.le_of_ble_eq_true rfl)⟩ rfl (cM_isBarred C.2.2.2.2.2.1 (by omega) (by omega) hc (fun _ => ?_) (fun h => absurd rfl h) (fun h => absurd rfl h))
    refine r_if_ne C dM_testator_14 (by omega) (fun b14 => ?_) (fun b14 => ?_)
    · exact r_vret C dM_testator_22 rfl (Nat.le_of_ble_eq_true rfl) (Nat.le_of_ble_eq_true rfl) (by first | exact h1 (by omega) | exact h2 (by omega) (by omega) | exact hn (by omega) (by omega))
    · omega
set_option maxRecDepth 100000 in
set_option maxHeartbeats 4000000 in
theorem cM_person {g : ed_g} {l : Launch} (hl : l.stackTraces = false) {I : ed_I} {L : ed_L} {a b : Int} (ra : -2147483648 ≤ a ∧ a ≤ 2147483647) (rb : -2147483648 ≤ b ∧ b ≤ 2147483647) (hc : I 79 2 = 0 ∨ I 79 2 = 1) {post : ed_post} (h1 : ¬ ((1 ≤ a ∧ a ≤ 40) ∧ 0 ≤ b ∧ b ≤ 100000) → post (.inl (none)) Yw (upI I 79 0 1) L) (h2 : ((1 ≤ a ∧ a ≤ 40) ∧ 0 ≤ b ∧ b ≤ 100000) → ¬ (I 79 2 = 0) → post (.inl (none)) Yw (upI I 79 0 2) L) (hn : ((1 ≤ a ∧ a ≤ 40) ∧ 0 ≤ b ∧ b ≤ 100000) → (I 79 2 = 0) → post (.inl (none)) Yw (upI (upI (upI I 79 0 0) 79 4 0) 80 a b) L) : ed_Ct g l mM_person 3 0 0 [.ref 79, .int (iZ a), .int (iZ b)] Yw I L post := by
  refine ed_Ct.of hl rfl (Nat.le_of_ble_eq_true rfl) (fun x _ C => ?_)
  show Gd g x post _ _ _ _ _ _ _ _ 0 [(0, _), (1, _), (2, _)] []
  refine r_ald C dM_person_0 rfl ?_
  refine r_ild C dM_person_1 rfl ?_
  refine r_callS C lzM_isId dM_person_2 [_] [_] rfl rfl (Nat.le_of_ble_eq_true rfl) ⟨(Nat.le_of_ble_eq_true rfl), (Nat.le_of_ble_eq_true rfl), (Nat.le_of_ble_eq_true rfl), (Nat.le_of_ble_eq_true rfl)⟩ rfl (cM_isId C.2.2.2.2.2.1 (by omega) (fun b2 => ?_) (fun b2 => ?_))
  · refine r_if_eq C dM_person_5 (by omega) (fun b5 => ?_) (fun b5 => ?_)
    · omega
    · refine r_ild C dM_person_8 rfl ?_
      refine r_i2l C dM_person_9 (by omega) ?_
      refine r_lk C dM_person_10 ?_
      refine r_lk C dM_person_11 ?_
      refine r_callS C lzM_isIn dM_person_14 [_, _, _] [_] rfl rfl (Nat.le_of_ble_eq_true rfl) ⟨(Nat.le_of_ble_eq_true rfl), (Nat.le_of_ble_eq_true rfl), (Nat.le_of_ble_eq_true rfl), (Nat.le_of_ble_eq_true rfl)⟩ rfl (cM_isIn C.2.2.2.2.2.1 (by omega) (fun b14 => ?_) (fun b14 => ?_))
      · refine r_if_eq C dM_person_17 (by omega) (fun b17 => ?_) (fun b17 => ?_)
        · omega
        · refine r_ik C dM_person_20 ?_
          refine r_goto C dM_person_21 ?_
          refine r_ik C dM_person_25 ?_
          refine r_callV C lzM_isBarred dM_person_26 _ [_, _] [] rfl rfl rfl rfl rfl (Nat.le_of_ble_eq_true rfl) ⟨(Nat.le_of_ble_eq_true rfl), (Nat.le_of_ble_eq_true rfl), (Nat.le_of_ble_eq_true rfl), (Nat.le_of_ble_eq_true rfl)⟩ rfl (cM_isBarred C.2.2.2.2.2.1 (by omega) (by omega) hc (fun h => absurd h (by decide)) (fun _ b26 => ?_) (fun _ b26 _ => ?_))
          · refine r_if_ne C dM_person_29 (by omega) (fun b29 => ?_) (fun b29 => ?_)
            · exact r_vret C dM_person_39 rfl (Nat.le_of_ble_eq_true rfl) (Nat.le_of_ble_eq_true rfl) (by first | exact h1 (by omega) | exact h2 (by omega) (by omega) | exact hn (by omega) (by omega))
            · omega
          · refine r_if_ne C dM_person_29 (by omega) (fun b29 => ?_) (fun b29 => ?_)
            · omega
            · refine r_ald C dM_person_32 rfl ?_
              refine r_getR C dM_person_33 rfl rfl ?_
              refine r_ild C dM_person_36 rfl ?_
              refine r_ild C dM_person_37 rfl ?_
              refine r_iast C dM_person_38 rfl rfl ⟨by omega, by omega⟩ (by decide) ?_
              exact r_vret C dM_person_39 rfl (Nat.le_of_ble_eq_true rfl) (Nat.le_of_ble_eq_true rfl) (by first | exact h1 (by omega) | exact h2 (by omega) (by omega) | exact hn (by omega) (by omega))
      · refine r_if_eq C dM_person_17 (by omega) (fun b17 => ?_) (fun b17 => ?_)
        · refine r_ik C dM_person_24 ?_
          refine r_ik C dM_person_25 ?_
          refine r_callV C lzM_isBarred dM_person_26 _ [_, _] [] rfl rfl rfl rfl rfl (Nat.le_of_ble_eq_true rfl) ⟨(Nat.le_of_ble_eq_true rfl), (Nat.le_of_ble_eq_true rfl), (Nat.le_of_ble_eq_true rfl), (Nat.le_of_ble_eq_true rfl)⟩ rfl (cM_isBarred C.2.2.2.2.2.1 (by omega) (by omega) hc (fun _ => ?_) (fun h => absurd rfl h) (fun h => absurd rfl h))
          refine r_if_ne C dM_person_29 (by omega) (fun b29 => ?_) (fun b29 => ?_)
          · exact r_vret C dM_person_39 rfl (Nat.le_of_ble_eq_true rfl) (Nat.le_of_ble_eq_true rfl) (by first | exact h1 (by omega) | exact h2 (by omega) (by omega) | exact hn (by omega) (by omega))
          · omega
        · omega
  · refine r_if_eq C dM_person_5 (by omega) (fun b5 => ?_) (fun b5 => ?_)
    · refine r_ik C dM_person_24 ?_
      refine r_ik C dM_person_25 ?_
      refine r_callV C lzM_isBarred dM_person_26 _ [_, _] [] rfl rfl rfl rfl rfl (Nat.le_of_ble_eq_true rfl) ⟨(Nat.le_of_ble_eq_true rfl), (Nat.le_of_ble_eq_true rfl), (Nat.le_of_ble_eq_true rfl), (Nat.le_of_ble_eq_true rfl)⟩ rfl (cM_isBarred C.2.2.2.2.2.1 (by omega) (by omega) hc (fun _ => ?_) (fun h => absurd rfl h) (fun h => absurd rfl h))
      refine r_if_ne C dM_person_29 (by omega) (fun b29 => ?_) (fun b29 => ?_)
      · exact r_vret C dM_person_39 rfl (Nat.le_of_ble_eq_true rfl) (Nat.le_of_ble_eq_true rfl) (by first | exact h1 (by omega) | exact h2 (by omega) (by omega) | exact hn (by omega) (by omega))
      · omega
    · omega
set_option maxRecDepth 100000 in
set_option maxHeartbeats 4000000 in
theorem cM_asset {g : ed_g} {l : Launch} (hl : l.stackTraces = false) {I : ed_I} {L : ed_L} {a v f : Int} (ra : -2147483648 ≤ a ∧ a ≤ 2147483647) (rv : -9223372036854775808 ≤ v ∧ v ≤ 9223372036854775807) (hf : f = 0 ∨ f = 1) (hc : I 79 2 = 0 ∨ I 79 2 = 1) (hk : ∀ j, 0 ≤ j → j ≤ 40 → I 81 j = 0 ∨ I 81 j = 1) {post : ed_post} (h1 : ¬ ((1 ≤ a ∧ a ≤ 40) ∧ 0 ≤ v ∧ v ≤ 1000000000000) → post (.inl (none)) Yw (upI I 79 0 1) L) (h2 : ((1 ≤ a ∧ a ≤ 40) ∧ 0 ≤ v ∧ v ≤ 1000000000000) → ¬ (I 79 2 = 0 ∧ I 81 a = 0) → post (.inl (none)) Yw (upI I 79 0 2) L) (hn : ((1 ≤ a ∧ a ≤ 40) ∧ 0 ≤ v ∧ v ≤ 1000000000000) → (I 79 2 = 0 ∧ I 81 a = 0) → post (.inl (none)) Yw (upI (upI (upI (upI (upI I 79 0 0) 79 4 0) 81 a 1) 83 a f) 84 a 0) (upI L 82 a v)) : ed_Ct g l mM_asset 3 0 0 [.ref 79, .int (iZ a), .long (lZ v), .int (iZ f)] Yw I L post := by
  refine ed_Ct.of hl rfl (Nat.le_of_ble_eq_true rfl) (fun x _ C => ?_)
  show Gd g x post _ _ _ _ _ _ _ _ 0 [(0, _), (1, _), (2, _), (4, _)] []
  have hka := fun (h : 0 ≤ a ∧ a ≤ 40) => hk a h.1 h.2
  refine r_ild C dM_asset_0 rfl ?_
  refine r_callS C lzM_isId dM_asset_1 [_] [] rfl rfl (Nat.le_of_ble_eq_true rfl) ⟨(Nat.le_of_ble_eq_true rfl), (Nat.le_of_ble_eq_true rfl), (Nat.le_of_ble_eq_true rfl), (Nat.le_of_ble_eq_true rfl)⟩ rfl (cM_isId C.2.2.2.2.2.1 (by omega) (fun b1 => ?_) (fun b1 => ?_))
  · refine r_if_eq C dM_asset_4 (by omega) (fun b4 => ?_) (fun b4 => ?_)
    · omega
    · refine r_lld C dM_asset_7 rfl ?_
      refine r_callS C lzM_isCents dM_asset_8 [_] [] rfl rfl (Nat.le_of_ble_eq_true rfl) ⟨(Nat.le_of_ble_eq_true rfl), (Nat.le_of_ble_eq_true rfl), (Nat.le_of_ble_eq_true rfl), (Nat.le_of_ble_eq_true rfl)⟩ rfl (cM_isCents C.2.2.2.2.2.1 (by omega) (fun b8 => ?_) (fun b8 => ?_))
      · refine r_if_eq C dM_asset_11 (by omega) (fun b11 => ?_) (fun b11 => ?_)
        · omega
        · refine r_ik C dM_asset_14 ?_
          refine r_goto C dM_asset_15 ?_
          refine r_ist C dM_asset_19 (by decide) (ls' := [(0, _), (1, _), (2, _), (4, _), (5, _)]) rfl ?_
          refine r_ald C dM_asset_21 rfl ?_
          refine r_ild C dM_asset_22 rfl ?_
          refine r_ild C dM_asset_24 rfl ?_
          refine r_if_eq C dM_asset_26 (by omega) (fun b26 => ?_) (fun b26 => ?_)
          · omega
          · refine r_ald C dM_asset_29 rfl ?_
            refine r_getR C dM_asset_30 rfl rfl ?_
            refine r_ild C dM_asset_33 rfl ?_
            refine r_zald C dM_asset_34 rfl ⟨by omega, by omega⟩ (by decide) ?_
            refine r_if_ne C dM_asset_35 (by omega) (fun b35 => ?_) (fun b35 => ?_)
            · refine r_ik C dM_asset_42 ?_
              refine r_callV C lzM_isBarred dM_asset_43 _ [_, _] [] rfl rfl rfl rfl rfl (Nat.le_of_ble_eq_true rfl) ⟨(Nat.le_of_ble_eq_true rfl), (Nat.le_of_ble_eq_true rfl), (Nat.le_of_ble_eq_true rfl), (Nat.le_of_ble_eq_true rfl)⟩ rfl (cM_isBarred C.2.2.2.2.2.1 (by omega) (by omega) hc (fun h => absurd h (by decide)) (fun _ _ => ?_) (fun _ _ h => absurd rfl h))
              refine r_if_ne C dM_asset_46 (by omega) (fun b46 => ?_) (fun b46 => ?_)
              · exact r_vret C dM_asset_78 rfl (Nat.le_of_ble_eq_true rfl) (Nat.le_of_ble_eq_true rfl) (by first | exact h1 (by omega) | exact h2 (by omega) (by omega) | exact hn (by omega) (by omega))
              · omega
            · refine r_ik C dM_asset_38 ?_
              refine r_goto C dM_asset_39 ?_
              refine r_callV C lzM_isBarred dM_asset_43 _ [_, _] [] rfl rfl rfl rfl rfl (Nat.le_of_ble_eq_true rfl) ⟨(Nat.le_of_ble_eq_true rfl), (Nat.le_of_ble_eq_true rfl), (Nat.le_of_ble_eq_true rfl), (Nat.le_of_ble_eq_true rfl)⟩ rfl (cM_isBarred C.2.2.2.2.2.1 (by omega) (by omega) hc (fun h => absurd h (by decide)) (fun _ b43 => ?_) (fun _ b43 _ => ?_))
              · refine r_if_ne C dM_asset_46 (by omega) (fun b46 => ?_) (fun b46 => ?_)
                · exact r_vret C dM_asset_78 rfl (Nat.le_of_ble_eq_true rfl) (Nat.le_of_ble_eq_true rfl) (by first | exact h1 (by omega) | exact h2 (by omega) (by omega) | exact hn (by omega) (by omega))
                · omega
              · refine r_if_ne C dM_asset_46 (by omega) (fun b46 => ?_) (fun b46 => ?_)
                · omega
                · refine r_ald C dM_asset_49 rfl ?_
                  refine r_getR C dM_asset_50 rfl rfl ?_
                  refine r_ild C dM_asset_53 rfl ?_
                  refine r_ik C dM_asset_54 ?_
                  refine r_zast C dM_asset_55 rfl rfl ⟨by omega, by omega⟩ (by decide) (by omega) ?_
                  refine r_ald C dM_asset_56 rfl ?_
                  refine r_getR C dM_asset_57 rfl rfl ?_
                  refine r_ild C dM_asset_60 rfl ?_
                  refine r_lld C dM_asset_61 rfl ?_
                  refine r_last C dM_asset_62 rfl rfl ⟨by omega, by omega⟩ (by decide) ?_
                  refine r_ald C dM_asset_63 rfl ?_
                  refine r_getR C dM_asset_64 rfl rfl ?_
                  refine r_ild C dM_asset_67 rfl ?_
                  refine r_ild C dM_asset_68 rfl ?_
                  refine r_zast C dM_asset_70 rfl rfl ⟨by omega, by omega⟩ (by decide) (by omega) ?_
                  refine r_ald C dM_asset_71 rfl ?_
                  refine r_getR C dM_asset_72 rfl rfl ?_
                  refine r_ild C dM_asset_75 rfl ?_
                  refine r_ik C dM_asset_76 ?_
                  refine r_zast C dM_asset_77 rfl rfl ⟨by omega, by omega⟩ (by decide) (by omega) ?_
                  exact r_vret C dM_asset_78 rfl (Nat.le_of_ble_eq_true rfl) (Nat.le_of_ble_eq_true rfl) (by first | exact h1 (by omega) | exact h2 (by omega) (by omega) | exact hn (by omega) (by omega))
      · refine r_if_eq C dM_asset_11 (by omega) (fun b11 => ?_) (fun b11 => ?_)
        · refine r_ik C dM_asset_18 ?_
          refine r_ist C dM_asset_19 (by decide) (ls' := [(0, _), (1, _), (2, _), (4, _), (5, _)]) rfl ?_
          refine r_ald C dM_asset_21 rfl ?_
          refine r_ild C dM_asset_22 rfl ?_
          refine r_ild C dM_asset_24 rfl ?_
          refine r_if_eq C dM_asset_26 (by omega) (fun b26 => ?_) (fun b26 => ?_)
          · refine r_ik C dM_asset_42 ?_
            refine r_callV C lzM_isBarred dM_asset_43 _ [_, _] [] rfl rfl rfl rfl rfl (Nat.le_of_ble_eq_true rfl) ⟨(Nat.le_of_ble_eq_true rfl), (Nat.le_of_ble_eq_true rfl), (Nat.le_of_ble_eq_true rfl), (Nat.le_of_ble_eq_true rfl)⟩ rfl (cM_isBarred C.2.2.2.2.2.1 (by omega) (by omega) hc (fun _ => ?_) (fun h => absurd rfl h) (fun h => absurd rfl h))
            refine r_if_ne C dM_asset_46 (by omega) (fun b46 => ?_) (fun b46 => ?_)
            · exact r_vret C dM_asset_78 rfl (Nat.le_of_ble_eq_true rfl) (Nat.le_of_ble_eq_true rfl) (by first | exact h1 (by omega) | exact h2 (by omega) (by omega) | exact hn (by omega) (by omega))
            · omega
          · omega
        · omega
  · refine r_if_eq C dM_asset_4 (by omega) (fun b4 => ?_) (fun b4 => ?_)
    · refine r_ik C dM_asset_18 ?_
      refine r_ist C dM_asset_19 (by decide) (ls' := [(0, _), (1, _), (2, _), (4, _), (5, _)]) rfl ?_
      refine r_ald C dM_asset_21 rfl ?_
      refine r_ild C dM_asset_22 rfl ?_
      refine r_ild C dM_asset_24 rfl ?_
      refine r_if_eq C dM_asset_26 (by omega) (fun b26 => ?_) (fun b26 => ?_)
      · refine r_ik C dM_asset_42 ?_
        refine r_callV C lzM_isBarred dM_asset_43 _ [_, _] [] rfl rfl rfl rfl rfl (Nat.le_of_ble_eq_true rfl) ⟨(Nat.le_of_ble_eq_true rfl), (Nat.le_of_ble_eq_true rfl), (Nat.le_of_ble_eq_true rfl), (Nat.le_of_ble_eq_true rfl)⟩ rfl (cM_isBarred C.2.2.2.2.2.1 (by omega) (by omega) hc (fun _ => ?_) (fun h => absurd rfl h) (fun h => absurd rfl h))
        refine r_if_ne C dM_asset_46 (by omega) (fun b46 => ?_) (fun b46 => ?_)
        · exact r_vret C dM_asset_78 rfl (Nat.le_of_ble_eq_true rfl) (Nat.le_of_ble_eq_true rfl) (by first | exact h1 (by omega) | exact h2 (by omega) (by omega) | exact hn (by omega) (by omega))
        · omega
      · omega
    · omega
set_option maxRecDepth 100000 in
set_option maxHeartbeats 4000000 in
theorem cM_revalue {g : ed_g} {l : Launch} (hl : l.stackTraces = false) {I : ed_I} {L : ed_L} {a v : Int} (ra : -2147483648 ≤ a ∧ a ≤ 2147483647) (rv : -9223372036854775808 ≤ v ∧ v ≤ 9223372036854775807) (hc : I 79 2 = 0 ∨ I 79 2 = 1) (hk : ∀ j, 0 ≤ j → j ≤ 40 → I 81 j = 0 ∨ I 81 j = 1) {post : ed_post} (h1 : ¬ (((1 ≤ a ∧ a ≤ 40) ∧ I 81 a ≠ 0) ∧ 0 ≤ v ∧ v ≤ 1000000000000) → post (.inl (some (.long (lZ 0)))) Yw (upI I 79 0 1) L) (h2 : (((1 ≤ a ∧ a ≤ 40) ∧ I 81 a ≠ 0) ∧ 0 ≤ v ∧ v ≤ 1000000000000) → ¬ (I 79 2 = 0) → post (.inl (some (.long (lZ 0)))) Yw (upI I 79 0 2) L) (hn : (((1 ≤ a ∧ a ≤ 40) ∧ I 81 a ≠ 0) ∧ 0 ≤ v ∧ v ≤ 1000000000000) → (I 79 2 = 0) → post (.inl (some (.long (lZ (L 82 a))))) Yw (upI (upI I 79 0 0) 79 4 0) (upI L 82 a v)) : ed_Ct g l mM_revalue 3 0 0 [.ref 79, .int (iZ a), .long (lZ v)] Yw I L post := by
  refine ed_Ct.of hl rfl (Nat.le_of_ble_eq_true rfl) (fun x _ C => ?_)
  show Gd g x post _ _ _ _ _ _ _ _ 0 [(0, _), (1, _), (2, _)] []
  refine r_ald C dM_revalue_0 rfl ?_
  refine r_ald C dM_revalue_1 rfl ?_
  refine r_ild C dM_revalue_2 rfl ?_
  refine r_callV C lzM_hasAsset dM_revalue_3 _ [_] [_] rfl rfl rfl rfl rfl (Nat.le_of_ble_eq_true rfl) ⟨(Nat.le_of_ble_eq_true rfl), (Nat.le_of_ble_eq_true rfl), (Nat.le_of_ble_eq_true rfl), (Nat.le_of_ble_eq_true rfl)⟩ rfl (cM_hasAsset C.2.2.2.2.2.1 (by omega) hk (fun b3 => ?_) (fun b3 => ?_))
  · refine r_if_eq C dM_revalue_6 (by omega) (fun b6 => ?_) (fun b6 => ?_)
    · omega
    · refine r_lld C dM_revalue_9 rfl ?_
      refine r_callS C lzM_isCents dM_revalue_10 [_] [_] rfl rfl (Nat.le_of_ble_eq_true rfl) ⟨(Nat.le_of_ble_eq_true rfl), (Nat.le_of_ble_eq_true rfl), (Nat.le_of_ble_eq_true rfl), (Nat.le_of_ble_eq_true rfl)⟩ rfl (cM_isCents C.2.2.2.2.2.1 (by omega) (fun b10 => ?_) (fun b10 => ?_))
      · refine r_if_eq C dM_revalue_13 (by omega) (fun b13 => ?_) (fun b13 => ?_)
        · omega
        · refine r_ik C dM_revalue_16 ?_
          refine r_goto C dM_revalue_17 ?_
          refine r_ik C dM_revalue_21 ?_
          refine r_callV C lzM_isBarred dM_revalue_22 _ [_, _] [] rfl rfl rfl rfl rfl (Nat.le_of_ble_eq_true rfl) ⟨(Nat.le_of_ble_eq_true rfl), (Nat.le_of_ble_eq_true rfl), (Nat.le_of_ble_eq_true rfl), (Nat.le_of_ble_eq_true rfl)⟩ rfl (cM_isBarred C.2.2.2.2.2.1 (by omega) (by omega) hc (fun h => absurd h (by decide)) (fun _ b22 => ?_) (fun _ b22 _ => ?_))
          · refine r_if_eq C dM_revalue_25 (by omega) (fun b25 => ?_) (fun b25 => ?_)
            · omega
            · refine r_lk C dM_revalue_28 ?_
              exact r_lret C dM_revalue_29 rfl (Nat.le_of_ble_eq_true rfl) (Nat.le_of_ble_eq_true rfl) (by first | exact h1 (by omega) | exact h2 (by omega) (by omega) | exact hn (by omega) (by omega))
          · refine r_if_eq C dM_revalue_25 (by omega) (fun b25 => ?_) (fun b25 => ?_)
            · refine r_ald C dM_revalue_30 rfl ?_
              refine r_getR C dM_revalue_31 rfl rfl ?_
              refine r_ild C dM_revalue_34 rfl ?_
              refine r_lald C dM_revalue_35 rfl ⟨by omega, by omega⟩ (by decide) ?_
              refine r_lst C dM_revalue_36 (by decide) (ls' := [(0, _), (1, _), (2, _), (4, _)]) rfl ?_
              refine r_ald C dM_revalue_38 rfl ?_
              refine r_getR C dM_revalue_39 rfl rfl ?_
              refine r_ild C dM_revalue_42 rfl ?_
              refine r_lld C dM_revalue_43 rfl ?_
              refine r_last C dM_revalue_44 rfl rfl ⟨by omega, by omega⟩ (by decide) ?_
              refine r_lld C dM_revalue_45 rfl ?_
              exact r_lret C dM_revalue_47 rfl (Nat.le_of_ble_eq_true rfl) (Nat.le_of_ble_eq_true rfl) (by first | exact h1 (by omega) | exact h2 (by omega) (by omega) | exact hn (by omega) (by omega))
            · omega
      · refine r_if_eq C dM_revalue_13 (by omega) (fun b13 => ?_) (fun b13 => ?_)
        · refine r_ik C dM_revalue_20 ?_
          refine r_ik C dM_revalue_21 ?_
          refine r_callV C lzM_isBarred dM_revalue_22 _ [_, _] [] rfl rfl rfl rfl rfl (Nat.le_of_ble_eq_true rfl) ⟨(Nat.le_of_ble_eq_true rfl), (Nat.le_of_ble_eq_true rfl), (Nat.le_of_ble_eq_true rfl), (Nat.le_of_ble_eq_true rfl)⟩ rfl (cM_isBarred C.2.2.2.2.2.1 (by omega) (by omega) hc (fun _ => ?_) (fun h => absurd rfl h) (fun h => absurd rfl h))
          refine r_if_eq C dM_revalue_25 (by omega) (fun b25 => ?_) (fun b25 => ?_)
          · omega
          · refine r_lk C dM_revalue_28 ?_
            exact r_lret C dM_revalue_29 rfl (Nat.le_of_ble_eq_true rfl) (Nat.le_of_ble_eq_true rfl) (by first | exact h1 (by omega) | exact h2 (by omega) (by omega) | exact hn (by omega) (by omega))
        · omega
  · refine r_if_eq C dM_revalue_6 (by omega) (fun b6 => ?_) (fun b6 => ?_)
    · refine r_ik C dM_revalue_20 ?_
      refine r_ik C dM_revalue_21 ?_
      refine r_callV C lzM_isBarred dM_revalue_22 _ [_, _] [] rfl rfl rfl rfl rfl (Nat.le_of_ble_eq_true rfl) ⟨(Nat.le_of_ble_eq_true rfl), (Nat.le_of_ble_eq_true rfl), (Nat.le_of_ble_eq_true rfl), (Nat.le_of_ble_eq_true rfl)⟩ rfl (cM_isBarred C.2.2.2.2.2.1 (by omega) (by omega) hc (fun _ => ?_) (fun h => absurd rfl h) (fun h => absurd rfl h))
      refine r_if_eq C dM_revalue_25 (by omega) (fun b25 => ?_) (fun b25 => ?_)
      · omega
      · refine r_lk C dM_revalue_28 ?_
        exact r_lret C dM_revalue_29 rfl (Nat.le_of_ble_eq_true rfl) (Nat.le_of_ble_eq_true rfl) (by first | exact h1 (by omega) | exact h2 (by omega) (by omega) | exact hn (by omega) (by omega))
    · omega
set_option maxRecDepth 100000 in
set_option maxHeartbeats 4000000 in
theorem cM_gone {g : ed_g} {l : Launch} (hl : l.stackTraces = false) {I : ed_I} {L : ed_L} {a : Int} (ra : -2147483648 ≤ a ∧ a ≤ 2147483647) (hc : I 79 2 = 0 ∨ I 79 2 = 1) (hk : ∀ j, 0 ≤ j → j ≤ 40 → I 81 j = 0 ∨ I 81 j = 1) {post : ed_post} (h1 : ¬ ((1 ≤ a ∧ a ≤ 40) ∧ I 81 a ≠ 0) → post (.inl (none)) Yw (upI I 79 0 1) L) (h2 : ((1 ≤ a ∧ a ≤ 40) ∧ I 81 a ≠ 0) → ¬ (I 79 2 = 0) → post (.inl (none)) Yw (upI I 79 0 2) L) (hn : ((1 ≤ a ∧ a ≤ 40) ∧ I 81 a ≠ 0) → (I 79 2 = 0) → post (.inl (none)) Yw (upI (upI (upI I 79 0 0) 79 4 0) 84 a 1) L) : ed_Ct g l mM_gone 3 0 0 [.ref 79, .int (iZ a)] Yw I L post := by
  refine ed_Ct.of hl rfl (Nat.le_of_ble_eq_true rfl) (fun x _ C => ?_)
  show Gd g x post _ _ _ _ _ _ _ _ 0 [(0, _), (1, _)] []
  refine r_ald C dM_gone_0 rfl ?_
  refine r_ald C dM_gone_1 rfl ?_
  refine r_ild C dM_gone_2 rfl ?_
  refine r_callV C lzM_hasAsset dM_gone_3 _ [_] [_] rfl rfl rfl rfl rfl (Nat.le_of_ble_eq_true rfl) ⟨(Nat.le_of_ble_eq_true rfl), (Nat.le_of_ble_eq_true rfl), (Nat.le_of_ble_eq_true rfl), (Nat.le_of_ble_eq_true rfl)⟩ rfl (cM_hasAsset C.2.2.2.2.2.1 (by omega) hk (fun b3 => ?_) (fun b3 => ?_))
  · refine r_ik C dM_gone_6 ?_
    refine r_callV C lzM_isBarred dM_gone_7 _ [_, _] [] rfl rfl rfl rfl rfl (Nat.le_of_ble_eq_true rfl) ⟨(Nat.le_of_ble_eq_true rfl), (Nat.le_of_ble_eq_true rfl), (Nat.le_of_ble_eq_true rfl), (Nat.le_of_ble_eq_true rfl)⟩ rfl (cM_isBarred C.2.2.2.2.2.1 (by omega) (by omega) hc (fun h => absurd h (by decide)) (fun _ b7 => ?_) (fun _ b7 _ => ?_))
    · refine r_if_ne C dM_gone_10 (by omega) (fun b10 => ?_) (fun b10 => ?_)
      · exact r_vret C dM_gone_20 rfl (Nat.le_of_ble_eq_true rfl) (Nat.le_of_ble_eq_true rfl) (by first | exact h1 (by omega) | exact h2 (by omega) (by omega) | exact hn (by omega) (by omega))
      · omega
    · refine r_if_ne C dM_gone_10 (by omega) (fun b10 => ?_) (fun b10 => ?_)
      · omega
      · refine r_ald C dM_gone_13 rfl ?_
        refine r_getR C dM_gone_14 rfl rfl ?_
        refine r_ild C dM_gone_17 rfl ?_
        refine r_ik C dM_gone_18 ?_
        refine r_zast C dM_gone_19 rfl rfl ⟨by omega, by omega⟩ (by decide) (by omega) ?_
        exact r_vret C dM_gone_20 rfl (Nat.le_of_ble_eq_true rfl) (Nat.le_of_ble_eq_true rfl) (by first | exact h1 (by omega) | exact h2 (by omega) (by omega) | exact hn (by omega) (by omega))
  · refine r_ik C dM_gone_6 ?_
    refine r_callV C lzM_isBarred dM_gone_7 _ [_, _] [] rfl rfl rfl rfl rfl (Nat.le_of_ble_eq_true rfl) ⟨(Nat.le_of_ble_eq_true rfl), (Nat.le_of_ble_eq_true rfl), (Nat.le_of_ble_eq_true rfl), (Nat.le_of_ble_eq_true rfl)⟩ rfl (cM_isBarred C.2.2.2.2.2.1 (by omega) (by omega) hc (fun _ => ?_) (fun h => absurd rfl h) (fun h => absurd rfl h))
    refine r_if_ne C dM_gone_10 (by omega) (fun b10 => ?_) (fun b10 => ?_)
    · exact r_vret C dM_gone_20 rfl (Nat.le_of_ble_eq_true rfl) (Nat.le_of_ble_eq_true rfl) (by first | exact h1 (by omega) | exact h2 (by omega) (by omega) | exact hn (by omega) (by omega))
    · omega
