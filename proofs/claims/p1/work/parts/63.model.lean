set_option maxRecDepth 100000 in
set_option maxHeartbeats 4000000 in
theorem cM_gift {g : ed_g} {l : Launch} (hl : l.stackTraces = false) {I : ed_I} {L : ed_L} {c a : Int} (rc : -2147483648 ≤ c ∧ c ≤ 2147483647) (ra : -2147483648 ≤ a ∧ a ≤ 2147483647) (hc : I 79 2 = 0 ∨ I 79 2 = 1) (hk : ∀ j, 0 ≤ j → j ≤ 40 → I 81 j = 0 ∨ I 81 j = 1) (hr : ∀ j, 0 ≤ j → j ≤ 40 → -1 ≤ I 86 j ∧ I 86 j ≤ 100000) (hr2 : ∀ j, 0 ≤ j → j ≤ 40 → -1 ≤ I 85 j ∧ I 85 j ≤ 100000) {post : ed_post} (h1 : ¬ ((1 ≤ c ∧ c ≤ 40) ∧ (1 ≤ a ∧ a ≤ 40) ∧ I 81 a ≠ 0) → post (.inl (none)) Yw (upI I 79 0 1) L) (h2 : ((1 ≤ c ∧ c ≤ 40) ∧ (1 ≤ a ∧ a ≤ 40) ∧ I 81 a ≠ 0) → ¬ (I 79 2 = 0 ∧ ¬ mHad I c a 1 41) → post (.inl (none)) Yw (upI I 79 0 2) L) (hn : ((1 ≤ c ∧ c ≤ 40) ∧ (1 ≤ a ∧ a ≤ 40) ∧ I 81 a ≠ 0) → (I 79 2 = 0 ∧ ¬ mHad I c a 1 41) → post (.inl (none)) Yw (upI (upI (upI (upI (upI (upI I 79 0 0) 79 4 0) 85 c 1) 86 c a) 88 c 0) 89 c 1) (upI L 87 c 0)) : ed_Ct g l mM_gift 3 0 0 [.ref 79, .int (iZ c), .int (iZ a)] Yw I L post := by
  refine ed_Ct.of hl rfl (Nat.le_of_ble_eq_true rfl) (fun x _ C => ?_)
  show Gd g x post _ _ _ _ _ _ _ _ 0 [(0, _), (1, _), (2, _)] []
  refine r_ild C dM_gift_0 rfl ?_
  refine r_callS C lzM_isId dM_gift_1 [_] [] rfl rfl (Nat.le_of_ble_eq_true rfl) ⟨(Nat.le_of_ble_eq_true rfl), (Nat.le_of_ble_eq_true rfl), (Nat.le_of_ble_eq_true rfl), (Nat.le_of_ble_eq_true rfl)⟩ rfl (cM_isId C.2.2.2.2.2.1 (by omega) (fun b1 => ?_) (fun b1 => ?_))
  · refine r_if_eq C dM_gift_4 (by omega) (fun b4 => ?_) (fun b4 => ?_)
    · omega
    · refine r_ald C dM_gift_7 rfl ?_
      refine r_ild C dM_gift_8 rfl ?_
      refine r_callV C lzM_hasAsset dM_gift_9 _ [_] [] rfl rfl rfl rfl rfl (Nat.le_of_ble_eq_true rfl) ⟨(Nat.le_of_ble_eq_true rfl), (Nat.le_of_ble_eq_true rfl), (Nat.le_of_ble_eq_true rfl), (Nat.le_of_ble_eq_true rfl)⟩ rfl (cM_hasAsset C.2.2.2.2.2.1 (by omega) hk (fun b9 => ?_) (fun b9 => ?_))
      · refine r_if_eq C dM_gift_12 (by omega) (fun b12 => ?_) (fun b12 => ?_)
        · omega
        · refine r_ik C dM_gift_15 ?_
          refine r_goto C dM_gift_16 ?_
          refine r_ist C dM_gift_20 (by decide) (ls' := [(0, _), (1, _), (2, _), (3, _)]) rfl ?_
          refine r_ald C dM_gift_21 rfl ?_
          refine r_ild C dM_gift_22 rfl ?_
          refine r_ild C dM_gift_23 rfl ?_
          refine r_if_eq C dM_gift_24 (by omega) (fun b24 => ?_) (fun b24 => ?_)
          · omega
          · refine r_ald C dM_gift_27 rfl ?_
            refine r_ild C dM_gift_28 rfl ?_
            refine r_ild C dM_gift_29 rfl ?_
            refine r_ik C dM_gift_30 ?_
            refine r_callV C lzM_isHad dM_gift_31 _ [_, _, _] [_, _] rfl rfl rfl rfl rfl (Nat.le_of_ble_eq_true rfl) ⟨(Nat.le_of_ble_eq_true rfl), (Nat.le_of_ble_eq_true rfl), (Nat.le_of_ble_eq_true rfl), (Nat.le_of_ble_eq_true rfl)⟩ rfl (cM_isHad C.2.2.2.2.2.1 (by omega) (by omega) (by omega) hr hr2 (fun b31 => ?_) (fun b31 => ?_))
            · refine r_if_ne C dM_gift_34 (by omega) (fun b34 => ?_) (fun b34 => ?_)
              · refine r_ik C dM_gift_41 ?_
                refine r_callV C lzM_isBarred dM_gift_42 _ [_, _] [] rfl rfl rfl rfl rfl (Nat.le_of_ble_eq_true rfl) ⟨(Nat.le_of_ble_eq_true rfl), (Nat.le_of_ble_eq_true rfl), (Nat.le_of_ble_eq_true rfl), (Nat.le_of_ble_eq_true rfl)⟩ rfl (cM_isBarred C.2.2.2.2.2.1 (by omega) (by omega) hc (fun h => absurd h (by decide)) (fun _ _ => ?_) (fun _ _ h => absurd rfl h))
                refine r_if_ne C dM_gift_45 (by omega) (fun b45 => ?_) (fun b45 => ?_)
                · exact r_vret C dM_gift_57 rfl (Nat.le_of_ble_eq_true rfl) (Nat.le_of_ble_eq_true rfl) (by first | exact h1 (by omega) | exact h2 (by omega) (fun hh => by first | omega | exact hh.2 b31) | exact hn (by omega) ⟨by omega, b31⟩)
                · omega
              · omega
            · refine r_if_ne C dM_gift_34 (by omega) (fun b34 => ?_) (fun b34 => ?_)
              · omega
              · refine r_ik C dM_gift_37 ?_
                refine r_goto C dM_gift_38 ?_
                refine r_callV C lzM_isBarred dM_gift_42 _ [_, _] [] rfl rfl rfl rfl rfl (Nat.le_of_ble_eq_true rfl) ⟨(Nat.le_of_ble_eq_true rfl), (Nat.le_of_ble_eq_true rfl), (Nat.le_of_ble_eq_true rfl), (Nat.le_of_ble_eq_true rfl)⟩ rfl (cM_isBarred C.2.2.2.2.2.1 (by omega) (by omega) hc (fun h => absurd h (by decide)) (fun _ b42 => ?_) (fun _ b42 _ => ?_))
                · refine r_if_ne C dM_gift_45 (by omega) (fun b45 => ?_) (fun b45 => ?_)
                  · exact r_vret C dM_gift_57 rfl (Nat.le_of_ble_eq_true rfl) (Nat.le_of_ble_eq_true rfl) (by first | exact h1 (by omega) | exact h2 (by omega) (fun hh => by first | omega | exact hh.2 b31) | exact hn (by omega) ⟨by omega, b31⟩)
                  · omega
                · refine r_if_ne C dM_gift_45 (by omega) (fun b45 => ?_) (fun b45 => ?_)
                  · omega
                  · refine r_ald C dM_gift_48 rfl ?_
                    refine r_ild C dM_gift_49 rfl ?_
                    refine r_ik C dM_gift_50 ?_
                    refine r_ild C dM_gift_51 rfl ?_
                    refine r_lk C dM_gift_52 ?_
                    refine r_ik C dM_gift_53 ?_
                    refine r_callV C lzM_tell dM_gift_54 _ [_, _, _, _, _] [] rfl rfl rfl rfl rfl (Nat.le_of_ble_eq_true rfl) ⟨(Nat.le_of_ble_eq_true rfl), (Nat.le_of_ble_eq_true rfl), (Nat.le_of_ble_eq_true rfl), (Nat.le_of_ble_eq_true rfl)⟩ rfl (cM_tell C.2.2.2.2.2.1 (by omega) ?_)
                    exact r_vret C dM_gift_57 rfl (Nat.le_of_ble_eq_true rfl) (Nat.le_of_ble_eq_true rfl) (by first | exact h1 (by omega) | exact h2 (by omega) (fun hh => by first | omega | exact hh.2 b31) | exact hn (by omega) ⟨by omega, b31⟩)
      · refine r_if_eq C dM_gift_12 (by omega) (fun b12 => ?_) (fun b12 => ?_)
        · refine r_ik C dM_gift_19 ?_
          refine r_ist C dM_gift_20 (by decide) (ls' := [(0, _), (1, _), (2, _), (3, _)]) rfl ?_
          refine r_ald C dM_gift_21 rfl ?_
          refine r_ild C dM_gift_22 rfl ?_
          refine r_ild C dM_gift_23 rfl ?_
          refine r_if_eq C dM_gift_24 (by omega) (fun b24 => ?_) (fun b24 => ?_)
          · refine r_ik C dM_gift_41 ?_
            refine r_callV C lzM_isBarred dM_gift_42 _ [_, _] [] rfl rfl rfl rfl rfl (Nat.le_of_ble_eq_true rfl) ⟨(Nat.le_of_ble_eq_true rfl), (Nat.le_of_ble_eq_true rfl), (Nat.le_of_ble_eq_true rfl), (Nat.le_of_ble_eq_true rfl)⟩ rfl (cM_isBarred C.2.2.2.2.2.1 (by omega) (by omega) hc (fun _ => ?_) (fun h => absurd rfl h) (fun h => absurd rfl h))
            refine r_if_ne C dM_gift_45 (by omega) (fun b45 => ?_) (fun b45 => ?_)
            · exact r_vret C dM_gift_57 rfl (Nat.le_of_ble_eq_true rfl) (Nat.le_of_ble_eq_true rfl) (by first | exact h1 (by omega) | exact h2 (by omega) (fun hh => by first | omega | exact hh.2 b31) | exact hn (by omega) ⟨by omega, b31⟩)
            · omega
          · omega
        · omega
  · refine r_if_eq C dM_gift_4 (by omega) (fun b4 => ?_) (fun b4 => ?_)
    · refine r_ik C dM_gift_19 ?_
      refine r_ist C dM_gift_20 (by decide) (ls' := [(0, _), (1, _), (2, _), (3, _)]) rfl ?_
      refine r_ald C dM_gift_21 rfl ?_
      refine r_ild C dM_gift_22 rfl ?_
      refine r_ild C dM_gift_23 rfl ?_
      refine r_if_eq C dM_gift_24 (by omega) (fun b24 => ?_) (fun b24 => ?_)
      · refine r_ik C dM_gift_41 ?_
        refine r_callV C lzM_isBarred dM_gift_42 _ [_, _] [] rfl rfl rfl rfl rfl (Nat.le_of_ble_eq_true rfl) ⟨(Nat.le_of_ble_eq_true rfl), (Nat.le_of_ble_eq_true rfl), (Nat.le_of_ble_eq_true rfl), (Nat.le_of_ble_eq_true rfl)⟩ rfl (cM_isBarred C.2.2.2.2.2.1 (by omega) (by omega) hc (fun _ => ?_) (fun h => absurd rfl h) (fun h => absurd rfl h))
        refine r_if_ne C dM_gift_45 (by omega) (fun b45 => ?_) (fun b45 => ?_)
        · exact r_vret C dM_gift_57 rfl (Nat.le_of_ble_eq_true rfl) (Nat.le_of_ble_eq_true rfl) (by first | exact h1 (by omega) | exact h2 (by omega) (fun hh => by first | omega | exact hh.2 b31) | exact hn (by omega) ⟨by omega, b31⟩)
        · omega
      · omega
    · omega
set_option maxRecDepth 100000 in
set_option maxHeartbeats 4000000 in
theorem cM_legacy {g : ed_g} {l : Launch} (hl : l.stackTraces = false) {I : ed_I} {L : ed_L} {c v a : Int} (rc : -2147483648 ≤ c ∧ c ≤ 2147483647) (ra : -2147483648 ≤ a ∧ a ≤ 2147483647) (rv : -9223372036854775808 ≤ v ∧ v ≤ 9223372036854775807) (hc : I 79 2 = 0 ∨ I 79 2 = 1) (hk : ∀ j, 0 ≤ j → j ≤ 40 → I 81 j = 0 ∨ I 81 j = 1) (hfu : ∀ j, 0 ≤ j → j ≤ 40 → I 83 j = 0 ∨ I 83 j = 1) (hr : ∀ j, 0 ≤ j → j ≤ 40 → -1 ≤ I 86 j ∧ I 86 j ≤ 100000) (hr2 : ∀ j, 0 ≤ j → j ≤ 40 → -1 ≤ I 85 j ∧ I 85 j ≤ 100000) {post : ed_post} (h1 : ¬ ((1 ≤ c ∧ c ≤ 40) ∧ (0 ≤ v ∧ v ≤ 1000000000000) ∧ (a = 0 ∨ ((1 ≤ a ∧ a ≤ 40) ∧ I 81 a ≠ 0 ∧ I 83 a ≠ 0))) → post (.inl (none)) Yw (upI I 79 0 1) L) (h2 : ((1 ≤ c ∧ c ≤ 40) ∧ (0 ≤ v ∧ v ≤ 1000000000000) ∧ (a = 0 ∨ ((1 ≤ a ∧ a ≤ 40) ∧ I 81 a ≠ 0 ∧ I 83 a ≠ 0))) → ¬ (I 79 2 = 0 ∧ ¬ mHad I c a 0 41) → post (.inl (none)) Yw (upI I 79 0 2) L) (hn : ((1 ≤ c ∧ c ≤ 40) ∧ (0 ≤ v ∧ v ≤ 1000000000000) ∧ (a = 0 ∨ ((1 ≤ a ∧ a ≤ 40) ∧ I 81 a ≠ 0 ∧ I 83 a ≠ 0))) → (I 79 2 = 0 ∧ ¬ mHad I c a 0 41) → post (.inl (none)) Yw (upI (upI (upI (upI (upI (upI I 79 0 0) 79 4 0) 85 c 2) 86 c a) 88 c 0) 89 c 1) (upI L 87 c v)) : ed_Ct g l mM_legacy 3 0 0 [.ref 79, .int (iZ c), .long (lZ v), .int (iZ a)] Yw I L post := by
  refine ed_Ct.of hl rfl (Nat.le_of_ble_eq_true rfl) (fun x _ C => ?_)
  show Gd g x post _ _ _ _ _ _ _ _ 0 [(0, _), (1, _), (2, _), (4, _)] []
  have hfa := fun (h : 0 ≤ a ∧ a ≤ 40) => hfu a h.1 h.2
  refine r_ild C dM_legacy_0 rfl ?_
  refine r_callS C lzM_isId dM_legacy_1 [_] [] rfl rfl (Nat.le_of_ble_eq_true rfl) ⟨(Nat.le_of_ble_eq_true rfl), (Nat.le_of_ble_eq_true rfl), (Nat.le_of_ble_eq_true rfl), (Nat.le_of_ble_eq_true rfl)⟩ rfl (cM_isId C.2.2.2.2.2.1 (by omega) (fun b1 => ?_) (fun b1 => ?_))
  · refine r_if_eq C dM_legacy_4 (by omega) (fun b4 => ?_) (fun b4 => ?_)
    · omega
    · refine r_lld C dM_legacy_7 rfl ?_
      refine r_callS C lzM_isCents dM_legacy_8 [_] [] rfl rfl (Nat.le_of_ble_eq_true rfl) ⟨(Nat.le_of_ble_eq_true rfl), (Nat.le_of_ble_eq_true rfl), (Nat.le_of_ble_eq_true rfl), (Nat.le_of_ble_eq_true rfl)⟩ rfl (cM_isCents C.2.2.2.2.2.1 (by omega) (fun b8 => ?_) (fun b8 => ?_))
      · refine r_if_eq C dM_legacy_11 (by omega) (fun b11 => ?_) (fun b11 => ?_)
        · omega
        · refine r_ild C dM_legacy_14 rfl ?_
          refine r_if_eq C dM_legacy_16 (by omega) (fun b16 => ?_) (fun b16 => ?_)
          · refine r_ik C dM_legacy_38 ?_
            refine r_goto C dM_legacy_39 ?_
            refine r_ist C dM_legacy_43 (by decide) (ls' := [(0, _), (1, _), (2, _), (4, _), (5, _)]) rfl ?_
            refine r_ald C dM_legacy_45 rfl ?_
            refine r_ild C dM_legacy_46 rfl ?_
            refine r_ild C dM_legacy_48 rfl ?_
            refine r_if_eq C dM_legacy_50 (by omega) (fun b50 => ?_) (fun b50 => ?_)
            · omega
            · refine r_ald C dM_legacy_53 rfl ?_
              refine r_ild C dM_legacy_54 rfl ?_
              refine r_ild C dM_legacy_55 rfl ?_
              refine r_ik C dM_legacy_57 ?_
              refine r_callV C lzM_isHad dM_legacy_58 _ [_, _, _] [_, _] rfl rfl rfl rfl rfl (Nat.le_of_ble_eq_true rfl) ⟨(Nat.le_of_ble_eq_true rfl), (Nat.le_of_ble_eq_true rfl), (Nat.le_of_ble_eq_true rfl), (Nat.le_of_ble_eq_true rfl)⟩ rfl (cM_isHad C.2.2.2.2.2.1 (by omega) (by omega) (by omega) hr hr2 (fun b58 => ?_) (fun b58 => ?_))
              · refine r_if_ne C dM_legacy_61 (by omega) (fun b61 => ?_) (fun b61 => ?_)
                · refine r_ik C dM_legacy_68 ?_
                  refine r_callV C lzM_isBarred dM_legacy_69 _ [_, _] [] rfl rfl rfl rfl rfl (Nat.le_of_ble_eq_true rfl) ⟨(Nat.le_of_ble_eq_true rfl), (Nat.le_of_ble_eq_true rfl), (Nat.le_of_ble_eq_true rfl), (Nat.le_of_ble_eq_true rfl)⟩ rfl (cM_isBarred C.2.2.2.2.2.1 (by omega) (by omega) hc (fun h => absurd h (by decide)) (fun _ _ => ?_) (fun _ _ h => absurd rfl h))
                  refine r_if_ne C dM_legacy_72 (by omega) (fun b72 => ?_) (fun b72 => ?_)
                  · exact r_vret C dM_legacy_85 rfl (Nat.le_of_ble_eq_true rfl) (Nat.le_of_ble_eq_true rfl) (by first | exact h1 (by omega) | exact h2 (by omega) (fun hh => by first | omega | exact hh.2 b58) | exact hn (by omega) ⟨by omega, b58⟩)
                  · omega
                · omega
              · refine r_if_ne C dM_legacy_61 (by omega) (fun b61 => ?_) (fun b61 => ?_)
                · omega
                · refine r_ik C dM_legacy_64 ?_
                  refine r_goto C dM_legacy_65 ?_
                  refine r_callV C lzM_isBarred dM_legacy_69 _ [_, _] [] rfl rfl rfl rfl rfl (Nat.le_of_ble_eq_true rfl) ⟨(Nat.le_of_ble_eq_true rfl), (Nat.le_of_ble_eq_true rfl), (Nat.le_of_ble_eq_true rfl), (Nat.le_of_ble_eq_true rfl)⟩ rfl (cM_isBarred C.2.2.2.2.2.1 (by omega) (by omega) hc (fun h => absurd h (by decide)) (fun _ b69 => ?_) (fun _ b69 _ => ?_))
                  · refine r_if_ne C dM_legacy_72 (by omega) (fun b72 => ?_) (fun b72 => ?_)
                    · exact r_vret C dM_legacy_85 rfl (Nat.le_of_ble_eq_true rfl) (Nat.le_of_ble_eq_true rfl) (by first | exact h1 (by omega) | exact h2 (by omega) (fun hh => by first | omega | exact hh.2 b58) | exact hn (by omega) ⟨by omega, b58⟩)
                    · omega
                  · refine r_if_ne C dM_legacy_72 (by omega) (fun b72 => ?_) (fun b72 => ?_)
                    · omega
                    · refine r_ald C dM_legacy_75 rfl ?_
                      refine r_ild C dM_legacy_76 rfl ?_
                      refine r_ik C dM_legacy_77 ?_
                      refine r_ild C dM_legacy_78 rfl ?_
                      refine r_lld C dM_legacy_80 rfl ?_
                      refine r_ik C dM_legacy_81 ?_
                      refine r_callV C lzM_tell dM_legacy_82 _ [_, _, _, _, _] [] rfl rfl rfl rfl rfl (Nat.le_of_ble_eq_true rfl) ⟨(Nat.le_of_ble_eq_true rfl), (Nat.le_of_ble_eq_true rfl), (Nat.le_of_ble_eq_true rfl), (Nat.le_of_ble_eq_true rfl)⟩ rfl (cM_tell C.2.2.2.2.2.1 (by omega) ?_)
                      exact r_vret C dM_legacy_85 rfl (Nat.le_of_ble_eq_true rfl) (Nat.le_of_ble_eq_true rfl) (by first | exact h1 (by omega) | exact h2 (by omega) (fun hh => by first | omega | exact hh.2 b58) | exact hn (by omega) ⟨by omega, b58⟩)
          · refine r_ald C dM_legacy_19 rfl ?_
            refine r_ild C dM_legacy_20 rfl ?_
            refine r_callV C lzM_hasAsset dM_legacy_22 _ [_] [] rfl rfl rfl rfl rfl (Nat.le_of_ble_eq_true rfl) ⟨(Nat.le_of_ble_eq_true rfl), (Nat.le_of_ble_eq_true rfl), (Nat.le_of_ble_eq_true rfl), (Nat.le_of_ble_eq_true rfl)⟩ rfl (cM_hasAsset C.2.2.2.2.2.1 (by omega) hk (fun b22 => ?_) (fun b22 => ?_))
            · refine r_if_eq C dM_legacy_25 (by omega) (fun b25 => ?_) (fun b25 => ?_)
              · omega
              · refine r_ald C dM_legacy_28 rfl ?_
                refine r_getR C dM_legacy_29 rfl rfl ?_
                refine r_ild C dM_legacy_32 rfl ?_
                refine r_zald C dM_legacy_34 rfl ⟨by omega, by omega⟩ (by decide) ?_
                refine r_if_eq C dM_legacy_35 (by omega) (fun b35 => ?_) (fun b35 => ?_)
                · refine r_ik C dM_legacy_42 ?_
                  refine r_ist C dM_legacy_43 (by decide) (ls' := [(0, _), (1, _), (2, _), (4, _), (5, _)]) rfl ?_
                  refine r_ald C dM_legacy_45 rfl ?_
                  refine r_ild C dM_legacy_46 rfl ?_
                  refine r_ild C dM_legacy_48 rfl ?_
                  refine r_if_eq C dM_legacy_50 (by omega) (fun b50 => ?_) (fun b50 => ?_)
                  · refine r_ik C dM_legacy_68 ?_
                    refine r_callV C lzM_isBarred dM_legacy_69 _ [_, _] [] rfl rfl rfl rfl rfl (Nat.le_of_ble_eq_true rfl) ⟨(Nat.le_of_ble_eq_true rfl), (Nat.le_of_ble_eq_true rfl), (Nat.le_of_ble_eq_true rfl), (Nat.le_of_ble_eq_true rfl)⟩ rfl (cM_isBarred C.2.2.2.2.2.1 (by omega) (by omega) hc (fun _ => ?_) (fun h => absurd rfl h) (fun h => absurd rfl h))
                    refine r_if_ne C dM_legacy_72 (by omega) (fun b72 => ?_) (fun b72 => ?_)
                    · exact r_vret C dM_legacy_85 rfl (Nat.le_of_ble_eq_true rfl) (Nat.le_of_ble_eq_true rfl) (by first | exact h1 (by omega) | exact h2 (by omega) (fun hh => by first | omega | exact hh.2 b58) | exact hn (by omega) ⟨by omega, b58⟩)
                    · omega
                  · omega
                · refine r_ik C dM_legacy_38 ?_
                  refine r_goto C dM_legacy_39 ?_
                  refine r_ist C dM_legacy_43 (by decide) (ls' := [(0, _), (1, _), (2, _), (4, _), (5, _)]) rfl ?_
                  refine r_ald C dM_legacy_45 rfl ?_
                  refine r_ild C dM_legacy_46 rfl ?_
                  refine r_ild C dM_legacy_48 rfl ?_
                  refine r_if_eq C dM_legacy_50 (by omega) (fun b50 => ?_) (fun b50 => ?_)
                  · omega
                  · refine r_ald C dM_legacy_53 rfl ?_
                    refine r_ild C dM_legacy_54 rfl ?_
                    refine r_ild C dM_legacy_55 rfl ?_
                    refine r_ik C dM_legacy_57 ?_
                    refine r_callV C lzM_isHad dM_legacy_58 _ [_, _, _] [_, _] rfl rfl rfl rfl rfl (Nat.le_of_ble_eq_true rfl) ⟨(Nat.le_of_ble_eq_true rfl), (Nat.le_of_ble_eq_true rfl), (Nat.le_of_ble_eq_true rfl), (Nat.le_of_ble_eq_true rfl)⟩ rfl (cM_isHad C.2.2.2.2.2.1 (by omega) (by omega) (by omega) hr hr2 (fun b58 => ?_) (fun b58 => ?_))
                    · refine r_if_ne C dM_legacy_61 (by omega) (fun b61 => ?_) (fun b61 => ?_)
                      · refine r_ik C dM_legacy_68 ?_
                        refine r_callV C lzM_isBarred dM_legacy_69 _ [_, _] [] rfl rfl rfl rfl rfl (Nat.le_of_ble_eq_true rfl) ⟨(Nat.le_of_ble_eq_true rfl), (Nat.le_of_ble_eq_true rfl), (Nat.le_of_ble_eq_true rfl), (Nat.le_of_ble_eq_true rfl)⟩ rfl (cM_isBarred C.2.2.2.2.2.1 (by omega) (by omega) hc (fun h => absurd h (by decide)) (fun _ _ => ?_) (fun _ _ h => absurd rfl h))
                        refine r_if_ne C dM_legacy_72 (by omega) (fun b72 => ?_) (fun b72 => ?_)
                        · exact r_vret C dM_legacy_85 rfl (Nat.le_of_ble_eq_true rfl) (Nat.le_of_ble_eq_true rfl) (by first | exact h1 (by omega) | exact h2 (by omega) (fun hh => by first | omega | exact hh.2 b58) | exact hn (by omega) ⟨by omega, b58⟩)
                        · omega
                      · omega
                    · refine r_if_ne C dM_legacy_61 (by omega) (fun b61 => ?_) (fun b61 => ?_)
                      · omega
                      · refine r_ik C dM_legacy_64 ?_
                        refine r_goto C dM_legacy_65 ?_
                        refine r_callV C lzM_isBarred dM_legacy_69 _ [_, _] [] rfl rfl rfl rfl rfl (Nat.le_of_ble_eq_true rfl) ⟨(Nat.le_of_ble_eq_true rfl), (Nat.le_of_ble_eq_true rfl), (Nat.le_of_ble_eq_true rfl), (Nat.le_of_ble_eq_true rfl)⟩ rfl (cM_isBarred C.2.2.2.2.2.1 (by omega) (by omega) hc (fun h => absurd h (by decide)) (fun _ b69 => ?_) (fun _ b69 _ => ?_))
                        · refine r_if_ne C dM_legacy_72 (by omega) (fun b72 => ?_) (fun b72 => ?_)
                          · exact r_vret C dM_legacy_85 rfl (Nat.le_of_ble_eq_true rfl) (Nat.le_of_ble_eq_true rfl) (by first | exact h1 (by omega) | exact h2 (by omega) (fun hh => by first | omega | exact hh.2 b58) | exact hn (by omega) ⟨by omega, b58⟩)
                          · omega
                        · refine r_if_ne C dM_legacy_72 (by omega) (fun b72 => ?_) (fun b72 => ?_)
                          · omega
                          · refine r_ald C dM_legacy_75 rfl ?_
                            refine r_ild C dM_legacy_76 rfl ?_
                            refine r_ik C dM_legacy_77 ?_
                            refine r_ild C dM_legacy_78 rfl ?_
                            refine r_lld C dM_legacy_80 rfl ?_
                            refine r_ik C dM_legacy_81 ?_
                            refine r_callV C lzM_tell dM_legacy_82 _ [_, _, _, _, _] [] rfl rfl rfl rfl rfl (Nat.le_of_ble_eq_true rfl) ⟨(Nat.le_of_ble_eq_true rfl), (Nat.le_of_ble_eq_true rfl), (Nat.le_of_ble_eq_true rfl), (Nat.le_of_ble_eq_true rfl)⟩ rfl (cM_tell C.2.2.2.2.2.1 (by omega) ?_)
                            exact r_vret C dM_legacy_85 rfl (Nat.le_of_ble_eq_true rfl) (Nat.le_of_ble_eq_true rfl) (by first | exact h1 (by omega) | exact h2 (by omega) (fun hh => by first | omega | exact hh.2 b58) | exact hn (by omega) ⟨by omega, b58⟩)
            · refine r_if_eq C dM_legacy_25 (by omega) (fun b25 => ?_) (fun b25 => ?_)
              · refine r_ik C dM_legacy_42 ?_
                refine r_ist C dM_legacy_43 (by decide) (ls' := [(0, _), (1, _), (2, _), (4, _), (5, _)]) rfl ?_
                refine r_ald C dM_legacy_45 rfl ?_
                refine r_ild C dM_legacy_46 rfl ?_
                refine r_ild C dM_legacy_48 rfl ?_
                refine r_if_eq C dM_legacy_50 (by omega) (fun b50 => ?_) (fun b50 => ?_)
                · refine r_ik C dM_legacy_68 ?_
                  refine r_callV C lzM_isBarred dM_legacy_69 _ [_, _] [] rfl rfl rfl rfl rfl (Nat.le_of_ble_eq_true rfl) ⟨(Nat.le_of_ble_eq_true rfl), (Nat.le_of_ble_eq_true rfl), (Nat.le_of_ble_eq_true rfl), (Nat.le_of_ble_eq_true rfl)⟩ rfl (cM_isBarred C.2.2.2.2.2.1 (by omega) (by omega) hc (fun _ => ?_) (fun h => absurd rfl h) (fun h => absurd rfl h))
                  refine r_if_ne C dM_legacy_72 (by omega) (fun b72 => ?_) (fun b72 => ?_)
                  · exact r_vret C dM_legacy_85 rfl (Nat.le_of_ble_eq_true rfl) (Nat.le_of_ble_eq_true rfl) (by first | exact h1 (by omega) | exact h2 (by omega) (fun hh => by first | omega | exact hh.2 b58) | exact hn (by omega) ⟨by omega, b58⟩)
                  · omega
                · omega
              · omega
      · refine r_if_eq C dM_legacy_11 (by omega) (fun b11 => ?_) (fun b11 => ?_)
        · refine r_ik C dM_legacy_42 ?_
          refine r_ist C dM_legacy_43 (by decide) (ls' := [(0, _), (1, _), (2, _), (4, _), (5, _)]) rfl ?_
          refine r_ald C dM_legacy_45 rfl ?_
          refine r_ild C dM_legacy_46 rfl ?_
          refine r_ild C dM_legacy_48 rfl ?_
          refine r_if_eq C dM_legacy_50 (by omega) (fun b50 => ?_) (fun b50 => ?_)
          · refine r_ik C dM_legacy_68 ?_
            refine r_callV C lzM_isBarred dM_legacy_69 _ [_, _] [] rfl rfl rfl rfl rfl (Nat.le_of_ble_eq_true rfl) ⟨(Nat.le_of_ble_eq_true rfl), (Nat.le_of_ble_eq_true rfl), (Nat.le_of_ble_eq_true rfl), (Nat.le_of_ble_eq_true rfl)⟩ rfl (cM_isBarred C.2.2.2.2.2.1 (by omega) (by omega) hc (fun _ => ?_) (fun h => absurd rfl h) (fun h => absurd rfl h))
            refine r_if_ne C dM_legacy_72 (by omega) (fun b72 => ?_) (fun b72 => ?_)
            · exact r_vret C dM_legacy_85 rfl (Nat.le_of_ble_eq_true rfl) (Nat.le_of_ble_eq_true rfl) (by first | exact h1 (by omega) | exact h2 (by omega) (fun hh => by first | omega | exact hh.2 b58) | exact hn (by omega) ⟨by omega, b58⟩)
            · omega
          · omega
        · omega
  · refine r_if_eq C dM_legacy_4 (by omega) (fun b4 => ?_) (fun b4 => ?_)
    · refine r_ik C dM_legacy_42 ?_
      refine r_ist C dM_legacy_43 (by decide) (ls' := [(0, _), (1, _), (2, _), (4, _), (5, _)]) rfl ?_
      refine r_ald C dM_legacy_45 rfl ?_
      refine r_ild C dM_legacy_46 rfl ?_
      refine r_ild C dM_legacy_48 rfl ?_
      refine r_if_eq C dM_legacy_50 (by omega) (fun b50 => ?_) (fun b50 => ?_)
      · refine r_ik C dM_legacy_68 ?_
        refine r_callV C lzM_isBarred dM_legacy_69 _ [_, _] [] rfl rfl rfl rfl rfl (Nat.le_of_ble_eq_true rfl) ⟨(Nat.le_of_ble_eq_true rfl), (Nat.le_of_ble_eq_true rfl), (Nat.le_of_ble_eq_true rfl), (Nat.le_of_ble_eq_true rfl)⟩ rfl (cM_isBarred C.2.2.2.2.2.1 (by omega) (by omega) hc (fun _ => ?_) (fun h => absurd rfl h) (fun h => absurd rfl h))
        refine r_if_ne C dM_legacy_72 (by omega) (fun b72 => ?_) (fun b72 => ?_)
        · exact r_vret C dM_legacy_85 rfl (Nat.le_of_ble_eq_true rfl) (Nat.le_of_ble_eq_true rfl) (by first | exact h1 (by omega) | exact h2 (by omega) (fun hh => by first | omega | exact hh.2 b58) | exact hn (by omega) ⟨by omega, b58⟩)
        · omega
      · omega
    · omega
set_option maxRecDepth 100000 in
set_option maxHeartbeats 4000000 in
theorem cM_annuity {g : ed_g} {l : Launch} (hl : l.stackTraces = false) {I : ed_I} {L : ed_L} {c y a : Int} (rc : -2147483648 ≤ c ∧ c ≤ 2147483647) (ra : -2147483648 ≤ a ∧ a ≤ 2147483647) (ry : -9223372036854775808 ≤ y ∧ y ≤ 9223372036854775807) (hc : I 79 2 = 0 ∨ I 79 2 = 1) {post : ed_post} (h1 : ¬ ((1 ≤ c ∧ c ≤ 40) ∧ (0 ≤ y ∧ y ≤ 1000000000) ∧ 0 ≤ a ∧ a ≤ 99) → post (.inl (none)) Yw (upI I 79 0 1) L) (h2 : ((1 ≤ c ∧ c ≤ 40) ∧ (0 ≤ y ∧ y ≤ 1000000000) ∧ 0 ≤ a ∧ a ≤ 99) → ¬ (I 79 2 = 0) → post (.inl (none)) Yw (upI I 79 0 2) L) (hn : ((1 ≤ c ∧ c ≤ 40) ∧ (0 ≤ y ∧ y ≤ 1000000000) ∧ 0 ≤ a ∧ a ≤ 99) → (I 79 2 = 0) → post (.inl (none)) Yw (upI (upI (upI (upI (upI (upI I 79 0 0) 79 4 0) 85 c 3) 86 c 0) 88 c a) 89 c 1) (upI L 87 c y)) : ed_Ct g l mM_annuity 3 0 0 [.ref 79, .int (iZ c), .long (lZ y), .int (iZ a)] Yw I L post := by
  refine ed_Ct.of hl rfl (Nat.le_of_ble_eq_true rfl) (fun x _ C => ?_)
  show Gd g x post _ _ _ _ _ _ _ _ 0 [(0, _), (1, _), (2, _), (4, _)] []
  refine r_ald C dM_annuity_0 rfl ?_
  refine r_ild C dM_annuity_1 rfl ?_
  refine r_callS C lzM_isId dM_annuity_2 [_] [_] rfl rfl (Nat.le_of_ble_eq_true rfl) ⟨(Nat.le_of_ble_eq_true rfl), (Nat.le_of_ble_eq_true rfl), (Nat.le_of_ble_eq_true rfl), (Nat.le_of_ble_eq_true rfl)⟩ rfl (cM_isId C.2.2.2.2.2.1 (by omega) (fun b2 => ?_) (fun b2 => ?_))
  · refine r_if_eq C dM_annuity_5 (by omega) (fun b5 => ?_) (fun b5 => ?_)
    · omega
    · refine r_lld C dM_annuity_8 rfl ?_
      refine r_lk C dM_annuity_9 ?_
      refine r_lk C dM_annuity_10 ?_
      refine r_callS C lzM_isIn dM_annuity_13 [_, _, _] [_] rfl rfl (Nat.le_of_ble_eq_true rfl) ⟨(Nat.le_of_ble_eq_true rfl), (Nat.le_of_ble_eq_true rfl), (Nat.le_of_ble_eq_true rfl), (Nat.le_of_ble_eq_true rfl)⟩ rfl (cM_isIn C.2.2.2.2.2.1 (by omega) (fun b13 => ?_) (fun b13 => ?_))
      · refine r_if_eq C dM_annuity_16 (by omega) (fun b16 => ?_) (fun b16 => ?_)
        · omega
        · refine r_ild C dM_annuity_19 rfl ?_
          refine r_i2l C dM_annuity_21 (by omega) ?_
          refine r_lk C dM_annuity_22 ?_
          refine r_lk C dM_annuity_23 ?_
          refine r_callS C lzM_isIn dM_annuity_26 [_, _, _] [_] rfl rfl (Nat.le_of_ble_eq_true rfl) ⟨(Nat.le_of_ble_eq_true rfl), (Nat.le_of_ble_eq_true rfl), (Nat.le_of_ble_eq_true rfl), (Nat.le_of_ble_eq_true rfl)⟩ rfl (cM_isIn C.2.2.2.2.2.1 (by omega) (fun b26 => ?_) (fun b26 => ?_))
          · refine r_if_eq C dM_annuity_29 (by omega) (fun b29 => ?_) (fun b29 => ?_)
            · omega
            · refine r_ik C dM_annuity_32 ?_
              refine r_goto C dM_annuity_33 ?_
              refine r_ik C dM_annuity_37 ?_
              refine r_callV C lzM_isBarred dM_annuity_38 _ [_, _] [] rfl rfl rfl rfl rfl (Nat.le_of_ble_eq_true rfl) ⟨(Nat.le_of_ble_eq_true rfl), (Nat.le_of_ble_eq_true rfl), (Nat.le_of_ble_eq_true rfl), (Nat.le_of_ble_eq_true rfl)⟩ rfl (cM_isBarred C.2.2.2.2.2.1 (by omega) (by omega) hc (fun h => absurd h (by decide)) (fun _ b38 => ?_) (fun _ b38 _ => ?_))
              · refine r_if_ne C dM_annuity_41 (by omega) (fun b41 => ?_) (fun b41 => ?_)
                · exact r_vret C dM_annuity_54 rfl (Nat.le_of_ble_eq_true rfl) (Nat.le_of_ble_eq_true rfl) (by first | exact h1 (by omega) | exact h2 (by omega) (by omega) | exact hn (by omega) (by omega))
                · omega
              · refine r_if_ne C dM_annuity_41 (by omega) (fun b41 => ?_) (fun b41 => ?_)
                · omega
                · refine r_ald C dM_annuity_44 rfl ?_
                  refine r_ild C dM_annuity_45 rfl ?_
                  refine r_ik C dM_annuity_46 ?_
                  refine r_ik C dM_annuity_47 ?_
                  refine r_lld C dM_annuity_48 rfl ?_
                  refine r_ild C dM_annuity_49 rfl ?_
                  refine r_callV C lzM_tell dM_annuity_51 _ [_, _, _, _, _] [] rfl rfl rfl rfl rfl (Nat.le_of_ble_eq_true rfl) ⟨(Nat.le_of_ble_eq_true rfl), (Nat.le_of_ble_eq_true rfl), (Nat.le_of_ble_eq_true rfl), (Nat.le_of_ble_eq_true rfl)⟩ rfl (cM_tell C.2.2.2.2.2.1 (by omega) ?_)
                  exact r_vret C dM_annuity_54 rfl (Nat.le_of_ble_eq_true rfl) (Nat.le_of_ble_eq_true rfl) (by first | exact h1 (by omega) | exact h2 (by omega) (by omega) | exact hn (by omega) (by omega))
          · refine r_if_eq C dM_annuity_29 (by omega) (fun b29 => ?_) (fun b29 => ?_)
            · refine r_ik C dM_annuity_36 ?_
              refine r_ik C dM_annuity_37 ?_
              refine r_callV C lzM_isBarred dM_annuity_38 _ [_, _] [] rfl rfl rfl rfl rfl (Nat.le_of_ble_eq_true rfl) ⟨(Nat.le_of_ble_eq_true rfl), (Nat.le_of_ble_eq_true rfl), (Nat.le_of_ble_eq_true rfl), (Nat.le_of_ble_eq_true rfl)⟩ rfl (cM_isBarred C.2.2.2.2.2.1 (by omega) (by omega) hc (fun _ => ?_) (fun h => absurd rfl h) (fun h => absurd rfl h))
              refine r_if_ne C dM_annuity_41 (by omega) (fun b41 => ?_) (fun b41 => ?_)
              · exact r_vret C dM_annuity_54 rfl (Nat.le_of_ble_eq_true rfl) (Nat.le_of_ble_eq_true rfl) (by first | exact h1 (by omega) | exact h2 (by omega) (by omega) | exact hn (by omega) (by omega))
              · omega
            · omega
      · refine r_if_eq C dM_annuity_16 (by omega) (fun b16 => ?_) (fun b16 => ?_)
        · refine r_ik C dM_annuity_36 ?_
          refine r_ik C dM_annuity_37 ?_
          refine r_callV C lzM_isBarred dM_annuity_38 _ [_, _] [] rfl rfl rfl rfl rfl (Nat.le_of_ble_eq_true rfl) ⟨(Nat.le_of_ble_eq_true rfl), (Nat.le_of_ble_eq_true rfl), (Nat.le_of_ble_eq_true rfl), (Nat.le_of_ble_eq_true rfl)⟩ rfl (cM_isBarred C.2.2.2.2.2.1 (by omega) (by omega) hc (fun _ => ?_) (fun h => absurd rfl h) (fun h => absurd rfl h))
          refine r_if_ne C dM_annuity_41 (by omega) (fun b41 => ?_) (fun b41 => ?_)
          · exact r_vret C dM_annuity_54 rfl (Nat.le_of_ble_eq_true rfl) (Nat.le_of_ble_eq_true rfl) (by first | exact h1 (by omega) | exact h2 (by omega) (by omega) | exact hn (by omega) (by omega))
          · omega
        · omega
  · refine r_if_eq C dM_annuity_5 (by omega) (fun b5 => ?_) (fun b5 => ?_)
    · refine r_ik C dM_annuity_36 ?_
      refine r_ik C dM_annuity_37 ?_
      refine r_callV C lzM_isBarred dM_annuity_38 _ [_, _] [] rfl rfl rfl rfl rfl (Nat.le_of_ble_eq_true rfl) ⟨(Nat.le_of_ble_eq_true rfl), (Nat.le_of_ble_eq_true rfl), (Nat.le_of_ble_eq_true rfl), (Nat.le_of_ble_eq_true rfl)⟩ rfl (cM_isBarred C.2.2.2.2.2.1 (by omega) (by omega) hc (fun _ => ?_) (fun h => absurd rfl h) (fun h => absurd rfl h))
      refine r_if_ne C dM_annuity_41 (by omega) (fun b41 => ?_) (fun b41 => ?_)
      · exact r_vret C dM_annuity_54 rfl (Nat.le_of_ble_eq_true rfl) (Nat.le_of_ble_eq_true rfl) (by first | exact h1 (by omega) | exact h2 (by omega) (by omega) | exact hn (by omega) (by omega))
      · omega
    · omega
set_option maxRecDepth 100000 in
set_option maxHeartbeats 4000000 in
theorem cM_residue {g : ed_g} {l : Launch} (hl : l.stackTraces = false) {I : ed_I} {L : ed_L} {c a : Int} (rc : -2147483648 ≤ c ∧ c ≤ 2147483647) (ra : -2147483648 ≤ a ∧ a ≤ 2147483647) (hc : I 79 2 = 0 ∨ I 79 2 = 1) {post : ed_post} (h1 : ¬ ((1 ≤ c ∧ c ≤ 40) ∧ 1 ≤ a ∧ a ≤ 1000) → post (.inl (none)) Yw (upI I 79 0 1) L) (h2 : ((1 ≤ c ∧ c ≤ 40) ∧ 1 ≤ a ∧ a ≤ 1000) → ¬ (I 79 2 = 0) → post (.inl (none)) Yw (upI I 79 0 2) L) (hn : ((1 ≤ c ∧ c ≤ 40) ∧ 1 ≤ a ∧ a ≤ 1000) → (I 79 2 = 0) → post (.inl (none)) Yw (upI (upI (upI (upI (upI (upI I 79 0 0) 79 4 0) 85 c 4) 86 c 0) 88 c a) 89 c 1) (upI L 87 c 0)) : ed_Ct g l mM_residue 3 0 0 [.ref 79, .int (iZ c), .int (iZ a)] Yw I L post := by
  refine ed_Ct.of hl rfl (Nat.le_of_ble_eq_true rfl) (fun x _ C => ?_)
  show Gd g x post _ _ _ _ _ _ _ _ 0 [(0, _), (1, _), (2, _)] []
  refine r_ald C dM_residue_0 rfl ?_
  refine r_ild C dM_residue_1 rfl ?_
  refine r_callS C lzM_isId dM_residue_2 [_] [_] rfl rfl (Nat.le_of_ble_eq_true rfl) ⟨(Nat.le_of_ble_eq_true rfl), (Nat.le_of_ble_eq_true rfl), (Nat.le_of_ble_eq_true rfl), (Nat.le_of_ble_eq_true rfl)⟩ rfl (cM_isId C.2.2.2.2.2.1 (by omega) (fun b2 => ?_) (fun b2 => ?_))
  · refine r_if_eq C dM_residue_5 (by omega) (fun b5 => ?_) (fun b5 => ?_)
    · omega
    · refine r_ild C dM_residue_8 rfl ?_
      refine r_i2l C dM_residue_9 (by omega) ?_
      refine r_lk C dM_residue_10 ?_
      refine r_lk C dM_residue_11 ?_
      refine r_callS C lzM_isIn dM_residue_14 [_, _, _] [_] rfl rfl (Nat.le_of_ble_eq_true rfl) ⟨(Nat.le_of_ble_eq_true rfl), (Nat.le_of_ble_eq_true rfl), (Nat.le_of_ble_eq_true rfl), (Nat.le_of_ble_eq_true rfl)⟩ rfl (cM_isIn C.2.2.2.2.2.1 (by omega) (fun b14 => ?_) (fun b14 => ?_))
      · refine r_if_eq C dM_residue_17 (by omega) (fun b17 => ?_) (fun b17 => ?_)
        · omega
        · refine r_ik C dM_residue_20 ?_
          refine r_goto C dM_residue_21 ?_
          refine r_ik C dM_residue_25 ?_
          refine r_callV C lzM_isBarred dM_residue_26 _ [_, _] [] rfl rfl rfl rfl rfl (Nat.le_of_ble_eq_true rfl) ⟨(Nat.le_of_ble_eq_true rfl), (Nat.le_of_ble_eq_true rfl), (Nat.le_of_ble_eq_true rfl), (Nat.le_of_ble_eq_true rfl)⟩ rfl (cM_isBarred C.2.2.2.2.2.1 (by omega) (by omega) hc (fun h => absurd h (by decide)) (fun _ b26 => ?_) (fun _ b26 _ => ?_))
          · refine r_if_ne C dM_residue_29 (by omega) (fun b29 => ?_) (fun b29 => ?_)
            · exact r_vret C dM_residue_41 rfl (Nat.le_of_ble_eq_true rfl) (Nat.le_of_ble_eq_true rfl) (by first | exact h1 (by omega) | exact h2 (by omega) (by omega) | exact hn (by omega) (by omega))
            · omega
          · refine r_if_ne C dM_residue_29 (by omega) (fun b29 => ?_) (fun b29 => ?_)
            · omega
            · refine r_ald C dM_residue_32 rfl ?_
              refine r_ild C dM_residue_33 rfl ?_
              refine r_ik C dM_residue_34 ?_
              refine r_ik C dM_residue_35 ?_
              refine r_lk C dM_residue_36 ?_
              refine r_ild C dM_residue_37 rfl ?_
              refine r_callV C lzM_tell dM_residue_38 _ [_, _, _, _, _] [] rfl rfl rfl rfl rfl (Nat.le_of_ble_eq_true rfl) ⟨(Nat.le_of_ble_eq_true rfl), (Nat.le_of_ble_eq_true rfl), (Nat.le_of_ble_eq_true rfl), (Nat.le_of_ble_eq_true rfl)⟩ rfl (cM_tell C.2.2.2.2.2.1 (by omega) ?_)
              exact r_vret C dM_residue_41 rfl (Nat.le_of_ble_eq_true rfl) (Nat.le_of_ble_eq_true rfl) (by first | exact h1 (by omega) | exact h2 (by omega) (by omega) | exact hn (by omega) (by omega))
      · refine r_if_eq C dM_residue_17 (by omega) (fun b17 => ?_) (fun b17 => ?_)
        · refine r_ik C dM_residue_24 ?_
          refine r_ik C dM_residue_25 ?_
          refine r_callV C lzM_isBarred dM_residue_26 _ [_, _] [] rfl rfl rfl rfl rfl (Nat.le_of_ble_eq_true rfl) ⟨(Nat.le_of_ble_eq_true rfl), (Nat.le_of_ble_eq_true rfl), (Nat.le_of_ble_eq_true rfl), (Nat.le_of_ble_eq_true rfl)⟩ rfl (cM_isBarred C.2.2.2.2.2.1 (by omega) (by omega) hc (fun _ => ?_) (fun h => absurd rfl h) (fun h => absurd rfl h))
          refine r_if_ne C dM_residue_29 (by omega) (fun b29 => ?_) (fun b29 => ?_)
          · exact r_vret C dM_residue_41 rfl (Nat.le_of_ble_eq_true rfl) (Nat.le_of_ble_eq_true rfl) (by first | exact h1 (by omega) | exact h2 (by omega) (by omega) | exact hn (by omega) (by omega))
          · omega
        · omega
  · refine r_if_eq C dM_residue_5 (by omega) (fun b5 => ?_) (fun b5 => ?_)
    · refine r_ik C dM_residue_24 ?_
      refine r_ik C dM_residue_25 ?_
      refine r_callV C lzM_isBarred dM_residue_26 _ [_, _] [] rfl rfl rfl rfl rfl (Nat.le_of_ble_eq_true rfl) ⟨(Nat.le_of_ble_eq_true rfl), (Nat.le_of_ble_eq_true rfl), (Nat.le_of_ble_eq_true rfl), (Nat.le_of_ble_eq_true rfl)⟩ rfl (cM_isBarred C.2.2.2.2.2.1 (by omega) (by omega) hc (fun _ => ?_) (fun h => absurd rfl h) (fun h => absurd rfl h))
      refine r_if_ne C dM_residue_29 (by omega) (fun b29 => ?_) (fun b29 => ?_)
      · exact r_vret C dM_residue_41 rfl (Nat.le_of_ble_eq_true rfl) (Nat.le_of_ble_eq_true rfl) (by first | exact h1 (by omega) | exact h2 (by omega) (by omega) | exact hn (by omega) (by omega))
      · omega
    · omega
set_option maxRecDepth 100000 in
set_option maxHeartbeats 4000000 in
theorem cM_strike {g : ed_g} {l : Launch} (hl : l.stackTraces = false) {I : ed_I} {L : ed_L} {c : Int} (rc : -2147483648 ≤ c ∧ c ≤ 2147483647) (hc : I 79 2 = 0 ∨ I 79 2 = 1) {post : ed_post} (h1 : ¬ (1 ≤ c ∧ c ≤ 40) → post (.inl (none)) Yw (upI I 79 0 1) L) (h2 : (1 ≤ c ∧ c ≤ 40) → ¬ (I 79 2 = 0) → post (.inl (none)) Yw (upI I 79 0 2) L) (hn : (1 ≤ c ∧ c ≤ 40) → (I 79 2 = 0) → post (.inl (none)) Yw (upI (upI (upI I 79 0 0) 79 4 0) 85 c 0) L) : ed_Ct g l mM_strike 3 0 0 [.ref 79, .int (iZ c)] Yw I L post := by
  refine ed_Ct.of hl rfl (Nat.le_of_ble_eq_true rfl) (fun x _ C => ?_)
  show Gd g x post _ _ _ _ _ _ _ _ 0 [(0, _), (1, _)] []
  refine r_ald C dM_strike_0 rfl ?_
  refine r_ild C dM_strike_1 rfl ?_
  refine r_callS C lzM_isId dM_strike_2 [_] [_] rfl rfl (Nat.le_of_ble_eq_true rfl) ⟨(Nat.le_of_ble_eq_true rfl), (Nat.le_of_ble_eq_true rfl), (Nat.le_of_ble_eq_true rfl), (Nat.le_of_ble_eq_true rfl)⟩ rfl (cM_isId C.2.2.2.2.2.1 (by omega) (fun b2 => ?_) (fun b2 => ?_))
  · refine r_ik C dM_strike_5 ?_
    refine r_callV C lzM_isBarred dM_strike_6 _ [_, _] [] rfl rfl rfl rfl rfl (Nat.le_of_ble_eq_true rfl) ⟨(Nat.le_of_ble_eq_true rfl), (Nat.le_of_ble_eq_true rfl), (Nat.le_of_ble_eq_true rfl), (Nat.le_of_ble_eq_true rfl)⟩ rfl (cM_isBarred C.2.2.2.2.2.1 (by omega) (by omega) hc (fun h => absurd h (by decide)) (fun _ b6 => ?_) (fun _ b6 _ => ?_))
    · refine r_if_ne C dM_strike_9 (by omega) (fun b9 => ?_) (fun b9 => ?_)
      · exact r_vret C dM_strike_19 rfl (Nat.le_of_ble_eq_true rfl) (Nat.le_of_ble_eq_true rfl) (by first | exact h1 (by omega) | exact h2 (by omega) (by omega) | exact hn (by omega) (by omega))
      · omega
    · refine r_if_ne C dM_strike_9 (by omega) (fun b9 => ?_) (fun b9 => ?_)
      · omega
      · refine r_ald C dM_strike_12 rfl ?_
        refine r_getR C dM_strike_13 rfl rfl ?_
        refine r_ild C dM_strike_16 rfl ?_
        refine r_ik C dM_strike_17 ?_
        refine r_iast C dM_strike_18 rfl rfl ⟨by omega, by omega⟩ (by decide) ?_
        exact r_vret C dM_strike_19 rfl (Nat.le_of_ble_eq_true rfl) (Nat.le_of_ble_eq_true rfl) (by first | exact h1 (by omega) | exact h2 (by omega) (by omega) | exact hn (by omega) (by omega))
  · refine r_ik C dM_strike_5 ?_
    refine r_callV C lzM_isBarred dM_strike_6 _ [_, _] [] rfl rfl rfl rfl rfl (Nat.le_of_ble_eq_true rfl) ⟨(Nat.le_of_ble_eq_true rfl), (Nat.le_of_ble_eq_true rfl), (Nat.le_of_ble_eq_true rfl), (Nat.le_of_ble_eq_true rfl)⟩ rfl (cM_isBarred C.2.2.2.2.2.1 (by omega) (by omega) hc (fun _ => ?_) (fun h => absurd rfl h) (fun h => absurd rfl h))
    refine r_if_ne C dM_strike_9 (by omega) (fun b9 => ?_) (fun b9 => ?_)
    · exact r_vret C dM_strike_19 rfl (Nat.le_of_ble_eq_true rfl) (Nat.le_of_ble_eq_true rfl) (by first | exact h1 (by omega) | exact h2 (by omega) (by omega) | exact hn (by omega) (by omega))
    · omega
set_option maxRecDepth 100000 in
set_option maxHeartbeats 4000000 in
theorem cM_taker {g : ed_g} {l : Launch} (hl : l.stackTraces = false) {I : ed_I} {L : ed_L} {c r p : Int} (rc : -2147483648 ≤ c ∧ c ≤ 2147483647) (rr : -2147483648 ≤ r ∧ r ≤ 2147483647) (rp : -2147483648 ≤ p ∧ p ≤ 2147483647) (hc : I 79 2 = 0 ∨ I 79 2 = 1) {post : ed_post} (h1 : ¬ ((1 ≤ c ∧ c ≤ 40) ∧ (1 ≤ r ∧ r ≤ 4) ∧ 0 ≤ p ∧ p ≤ 40) → post (.inl (none)) Yw (upI I 79 0 1) L) (h2 : ((1 ≤ c ∧ c ≤ 40) ∧ (1 ≤ r ∧ r ≤ 4) ∧ 0 ≤ p ∧ p ≤ 40) → ¬ (I 79 2 = 0) → post (.inl (none)) Yw (upI I 79 0 2) L) (hn : ((1 ≤ c ∧ c ≤ 40) ∧ (1 ≤ r ∧ r ≤ 4) ∧ 0 ≤ p ∧ p ≤ 40) → (I 79 2 = 0) → post (.inl (none)) Yw (upI (upI (upI I 79 0 0) 79 4 0) 90 (5 * c + r) p) L) : ed_Ct g l mM_taker 3 0 0 [.ref 79, .int (iZ c), .int (iZ r), .int (iZ p)] Yw I L post := by
  refine ed_Ct.of hl rfl (Nat.le_of_ble_eq_true rfl) (fun x _ C => ?_)
  show Gd g x post _ _ _ _ _ _ _ _ 0 [(0, _), (1, _), (2, _), (3, _)] []
  refine r_ald C dM_taker_0 rfl ?_
  refine r_ild C dM_taker_1 rfl ?_
  refine r_callS C lzM_isId dM_taker_2 [_] [_] rfl rfl (Nat.le_of_ble_eq_true rfl) ⟨(Nat.le_of_ble_eq_true rfl), (Nat.le_of_ble_eq_true rfl), (Nat.le_of_ble_eq_true rfl), (Nat.le_of_ble_eq_true rfl)⟩ rfl (cM_isId C.2.2.2.2.2.1 (by omega) (fun b2 => ?_) (fun b2 => ?_))
  · refine r_if_eq C dM_taker_5 (by omega) (fun b5 => ?_) (fun b5 => ?_)
    · omega
    · refine r_ild C dM_taker_8 rfl ?_
      refine r_i2l C dM_taker_9 (by omega) ?_
      refine r_lk C dM_taker_10 ?_
      refine r_lk C dM_taker_11 ?_
      refine r_callS C lzM_isIn dM_taker_14 [_, _, _] [_] rfl rfl (Nat.le_of_ble_eq_true rfl) ⟨(Nat.le_of_ble_eq_true rfl), (Nat.le_of_ble_eq_true rfl), (Nat.le_of_ble_eq_true rfl), (Nat.le_of_ble_eq_true rfl)⟩ rfl (cM_isIn C.2.2.2.2.2.1 (by omega) (fun b14 => ?_) (fun b14 => ?_))
      · refine r_if_eq C dM_taker_17 (by omega) (fun b17 => ?_) (fun b17 => ?_)
        · omega
        · refine r_ild C dM_taker_20 rfl ?_
          refine r_i2l C dM_taker_21 (by omega) ?_
          refine r_lk C dM_taker_22 ?_
          refine r_lk C dM_taker_23 ?_
          refine r_callS C lzM_isIn dM_taker_26 [_, _, _] [_] rfl rfl (Nat.le_of_ble_eq_true rfl) ⟨(Nat.le_of_ble_eq_true rfl), (Nat.le_of_ble_eq_true rfl), (Nat.le_of_ble_eq_true rfl), (Nat.le_of_ble_eq_true rfl)⟩ rfl (cM_isIn C.2.2.2.2.2.1 (by omega) (fun b26 => ?_) (fun b26 => ?_))
          · refine r_if_eq C dM_taker_29 (by omega) (fun b29 => ?_) (fun b29 => ?_)
            · omega
            · refine r_ik C dM_taker_32 ?_
              refine r_goto C dM_taker_33 ?_
              refine r_ik C dM_taker_37 ?_
              refine r_callV C lzM_isBarred dM_taker_38 _ [_, _] [] rfl rfl rfl rfl rfl (Nat.le_of_ble_eq_true rfl) ⟨(Nat.le_of_ble_eq_true rfl), (Nat.le_of_ble_eq_true rfl), (Nat.le_of_ble_eq_true rfl), (Nat.le_of_ble_eq_true rfl)⟩ rfl (cM_isBarred C.2.2.2.2.2.1 (by omega) (by omega) hc (fun h => absurd h (by decide)) (fun _ b38 => ?_) (fun _ b38 _ => ?_))
              · refine r_if_ne C dM_taker_41 (by omega) (fun b41 => ?_) (fun b41 => ?_)
                · exact r_vret C dM_taker_55 rfl (Nat.le_of_ble_eq_true rfl) (Nat.le_of_ble_eq_true rfl) (by first | exact h1 (by omega) | exact h2 (by omega) (by omega) | exact hn (by omega) (by omega))
                · omega
              · refine r_if_ne C dM_taker_41 (by omega) (fun b41 => ?_) (fun b41 => ?_)
                · omega
                · refine r_ald C dM_taker_44 rfl ?_
                  refine r_getR C dM_taker_45 rfl rfl ?_
                  refine r_ik C dM_taker_48 ?_
                  refine r_ild C dM_taker_49 rfl ?_
                  refine r_imul C dM_taker_50 ?_
                  refine r_ild C dM_taker_51 rfl ?_
                  refine r_iadd C dM_taker_52 ?_
                  refine r_ild C dM_taker_53 rfl ?_
                  refine r_iast C dM_taker_54 rfl rfl ⟨by omega, by omega⟩ (by decide) ?_
                  exact r_vret C dM_taker_55 rfl (Nat.le_of_ble_eq_true rfl) (Nat.le_of_ble_eq_true rfl) (by first | exact h1 (by omega) | exact h2 (by omega) (by omega) | exact hn (by omega) (by omega))
          · refine r_if_eq C dM_taker_29 (by omega) (fun b29 => ?_) (fun b29 => ?_)
            · refine r_ik C dM_taker_36 ?_
              refine r_ik C dM_taker_37 ?_
              refine r_callV C lzM_isBarred dM_taker_38 _ [_, _] [] rfl rfl rfl rfl rfl (Nat.le_of_ble_eq_true rfl) ⟨(Nat.le_of_ble_eq_true rfl), (Nat.le_of_ble_eq_true rfl), (Nat.le_of_ble_eq_true rfl), (Nat.le_of_ble_eq_true rfl)⟩ rfl (cM_isBarred C.2.2.2.2.2.1 (by omega) (by omega) hc (fun _ => ?_) (fun h => absurd rfl h) (fun h => absurd rfl h))
              refine r_if_ne C dM_taker_41 (by omega) (fun b41 => ?_) (fun b41 => ?_)
              · exact r_vret C dM_taker_55 rfl (Nat.le_of_ble_eq_true rfl) (Nat.le_of_ble_eq_true rfl) (by first | exact h1 (by omega) | exact h2 (by omega) (by omega) | exact hn (by omega) (by omega))
              · omega
            · omega
      · refine r_if_eq C dM_taker_17 (by omega) (fun b17 => ?_) (fun b17 => ?_)
        · refine r_ik C dM_taker_36 ?_
          refine r_ik C dM_taker_37 ?_
          refine r_callV C lzM_isBarred dM_taker_38 _ [_, _] [] rfl rfl rfl rfl rfl (Nat.le_of_ble_eq_true rfl) ⟨(Nat.le_of_ble_eq_true rfl), (Nat.le_of_ble_eq_true rfl), (Nat.le_of_ble_eq_true rfl), (Nat.le_of_ble_eq_true rfl)⟩ rfl (cM_isBarred C.2.2.2.2.2.1 (by omega) (by omega) hc (fun _ => ?_) (fun h => absurd rfl h) (fun h => absurd rfl h))
          refine r_if_ne C dM_taker_41 (by omega) (fun b41 => ?_) (fun b41 => ?_)
          · exact r_vret C dM_taker_55 rfl (Nat.le_of_ble_eq_true rfl) (Nat.le_of_ble_eq_true rfl) (by first | exact h1 (by omega) | exact h2 (by omega) (by omega) | exact hn (by omega) (by omega))
          · omega
        · omega
  · refine r_if_eq C dM_taker_5 (by omega) (fun b5 => ?_) (fun b5 => ?_)
    · refine r_ik C dM_taker_36 ?_
      refine r_ik C dM_taker_37 ?_
      refine r_callV C lzM_isBarred dM_taker_38 _ [_, _] [] rfl rfl rfl rfl rfl (Nat.le_of_ble_eq_true rfl) ⟨(Nat.le_of_ble_eq_true rfl), (Nat.le_of_ble_eq_true rfl), (Nat.le_of_ble_eq_true rfl), (Nat.le_of_ble_eq_true rfl)⟩ rfl (cM_isBarred C.2.2.2.2.2.1 (by omega) (by omega) hc (fun _ => ?_) (fun h => absurd rfl h) (fun h => absurd rfl h))
      refine r_if_ne C dM_taker_41 (by omega) (fun b41 => ?_) (fun b41 => ?_)
      · exact r_vret C dM_taker_55 rfl (Nat.le_of_ble_eq_true rfl) (Nat.le_of_ble_eq_true rfl) (by first | exact h1 (by omega) | exact h2 (by omega) (by omega) | exact hn (by omega) (by omega))
      · omega
    · omega
set_option maxRecDepth 100000 in
set_option maxHeartbeats 4000000 in
theorem cM_charge {g : ed_g} {l : Launch} (hl : l.stackTraces = false) {I : ed_I} {L : ed_L} {c f : Int} (rc : -2147483648 ≤ c ∧ c ≤ 2147483647) (hf : f = 0 ∨ f = 1) (hc : I 79 2 = 0 ∨ I 79 2 = 1) (hr2 : ∀ j, 0 ≤ j → j ≤ 40 → -1 ≤ I 85 j ∧ I 85 j ≤ 100000) {post : ed_post} (h1 : ¬ ((1 ≤ c ∧ c ≤ 40) ∧ I 85 c = 1) → post (.inl (none)) Yw (upI I 79 0 1) L) (h2 : ((1 ≤ c ∧ c ≤ 40) ∧ I 85 c = 1) → ¬ (I 79 2 = 0) → post (.inl (none)) Yw (upI I 79 0 2) L) (hn : ((1 ≤ c ∧ c ≤ 40) ∧ I 85 c = 1) → (I 79 2 = 0) → post (.inl (none)) Yw (upI (upI (upI I 79 0 0) 79 4 0) 89 c f) L) : ed_Ct g l mM_charge 3 0 0 [.ref 79, .int (iZ c), .int (iZ f)] Yw I L post := by
  refine ed_Ct.of hl rfl (Nat.le_of_ble_eq_true rfl) (fun x _ C => ?_)
  show Gd g x post _ _ _ _ _ _ _ _ 0 [(0, _), (1, _), (2, _)] []
  have hr3 := fun (h : 0 ≤ c ∧ c ≤ 40) => hr2 c h.1 h.2
  refine r_ald C dM_charge_0 rfl ?_
  refine r_ild C dM_charge_1 rfl ?_
  refine r_callS C lzM_isId dM_charge_2 [_] [_] rfl rfl (Nat.le_of_ble_eq_true rfl) ⟨(Nat.le_of_ble_eq_true rfl), (Nat.le_of_ble_eq_true rfl), (Nat.le_of_ble_eq_true rfl), (Nat.le_of_ble_eq_true rfl)⟩ rfl (cM_isId C.2.2.2.2.2.1 (by omega) (fun b2 => ?_) (fun b2 => ?_))
  · refine r_if_eq C dM_charge_5 (by omega) (fun b5 => ?_) (fun b5 => ?_)
    · omega
    · refine r_ald C dM_charge_8 rfl ?_
      refine r_getR C dM_charge_9 rfl rfl ?_
      refine r_ild C dM_charge_12 rfl ?_
      refine r_iald C dM_charge_13 rfl ⟨by omega, by omega⟩ (by decide) ?_
      refine r_ik C dM_charge_14 ?_
      refine r_icmp_ne C dM_charge_15 (by omega) (fun b15 => ?_) (fun b15 => ?_)
      · refine r_ik C dM_charge_22 ?_
        refine r_ik C dM_charge_23 ?_
        refine r_callV C lzM_isBarred dM_charge_24 _ [_, _] [] rfl rfl rfl rfl rfl (Nat.le_of_ble_eq_true rfl) ⟨(Nat.le_of_ble_eq_true rfl), (Nat.le_of_ble_eq_true rfl), (Nat.le_of_ble_eq_true rfl), (Nat.le_of_ble_eq_true rfl)⟩ rfl (cM_isBarred C.2.2.2.2.2.1 (by omega) (by omega) hc (fun _ => ?_) (fun h => absurd rfl h) (fun h => absurd rfl h))
        refine r_if_ne C dM_charge_27 (by omega) (fun b27 => ?_) (fun b27 => ?_)
        · exact r_vret C dM_charge_37 rfl (Nat.le_of_ble_eq_true rfl) (Nat.le_of_ble_eq_true rfl) (by first | exact h1 (by omega) | exact h2 (by omega) (by omega) | exact hn (by omega) (by omega))
        · omega
      · refine r_ik C dM_charge_18 ?_
        refine r_goto C dM_charge_19 ?_
        refine r_ik C dM_charge_23 ?_
        refine r_callV C lzM_isBarred dM_charge_24 _ [_, _] [] rfl rfl rfl rfl rfl (Nat.le_of_ble_eq_true rfl) ⟨(Nat.le_of_ble_eq_true rfl), (Nat.le_of_ble_eq_true rfl), (Nat.le_of_ble_eq_true rfl), (Nat.le_of_ble_eq_true rfl)⟩ rfl (cM_isBarred C.2.2.2.2.2.1 (by omega) (by omega) hc (fun h => absurd h (by decide)) (fun _ b24 => ?_) (fun _ b24 _ => ?_))
        · refine r_if_ne C dM_charge_27 (by omega) (fun b27 => ?_) (fun b27 => ?_)
          · exact r_vret C dM_charge_37 rfl (Nat.le_of_ble_eq_true rfl) (Nat.le_of_ble_eq_true rfl) (by first | exact h1 (by omega) | exact h2 (by omega) (by omega) | exact hn (by omega) (by omega))
          · omega
        · refine r_if_ne C dM_charge_27 (by omega) (fun b27 => ?_) (fun b27 => ?_)
          · omega
          · refine r_ald C dM_charge_30 rfl ?_
            refine r_getR C dM_charge_31 rfl rfl ?_
            refine r_ild C dM_charge_34 rfl ?_
            refine r_ild C dM_charge_35 rfl ?_
            refine r_zast C dM_charge_36 rfl rfl ⟨by omega, by omega⟩ (by decide) (by omega) ?_
            exact r_vret C dM_charge_37 rfl (Nat.le_of_ble_eq_true rfl) (Nat.le_of_ble_eq_true rfl) (by first | exact h1 (by omega) | exact h2 (by omega) (by omega) | exact hn (by omega) (by omega))
  · refine r_if_eq C dM_charge_5 (by omega) (fun b5 => ?_) (fun b5 => ?_)
    · refine r_ik C dM_charge_22 ?_
      refine r_ik C dM_charge_23 ?_
      refine r_callV C lzM_isBarred dM_charge_24 _ [_, _] [] rfl rfl rfl rfl rfl (Nat.le_of_ble_eq_true rfl) ⟨(Nat.le_of_ble_eq_true rfl), (Nat.le_of_ble_eq_true rfl), (Nat.le_of_ble_eq_true rfl), (Nat.le_of_ble_eq_true rfl)⟩ rfl (cM_isBarred C.2.2.2.2.2.1 (by omega) (by omega) hc (fun _ => ?_) (fun h => absurd rfl h) (fun h => absurd rfl h))
      refine r_if_ne C dM_charge_27 (by omega) (fun b27 => ?_) (fun b27 => ?_)
      · exact r_vret C dM_charge_37 rfl (Nat.le_of_ble_eq_true rfl) (Nat.le_of_ble_eq_true rfl) (by first | exact h1 (by omega) | exact h2 (by omega) (by omega) | exact hn (by omega) (by omega))
      · omega
    · omega
set_option maxRecDepth 100000 in
set_option maxHeartbeats 4000000 in
theorem cM_debt {g : ed_g} {l : Launch} (hl : l.stackTraces = false) {I : ed_I} {L : ed_L} {c v a : Int} (rc : -2147483648 ≤ c ∧ c ≤ 2147483647) (ra : -2147483648 ≤ a ∧ a ≤ 2147483647) (rv : -9223372036854775808 ≤ v ∧ v ≤ 9223372036854775807) (hc : I 79 2 = 0 ∨ I 79 2 = 1) (hk : ∀ j, 0 ≤ j → j ≤ 40 → I 81 j = 0 ∨ I 81 j = 1) {post : ed_post} (h1 : ¬ ((1 ≤ c ∧ c ≤ 40) ∧ (0 ≤ v ∧ v ≤ 1000000000000) ∧ (a = 0 ∨ ((1 ≤ a ∧ a ≤ 40) ∧ I 81 a ≠ 0))) → post (.inl (none)) Yw (upI I 79 0 1) L) (h2 : ((1 ≤ c ∧ c ≤ 40) ∧ (0 ≤ v ∧ v ≤ 1000000000000) ∧ (a = 0 ∨ ((1 ≤ a ∧ a ≤ 40) ∧ I 81 a ≠ 0))) → ¬ (I 79 2 = 0) → post (.inl (none)) Yw (upI I 79 0 2) L) (hn : ((1 ≤ c ∧ c ≤ 40) ∧ (0 ≤ v ∧ v ≤ 1000000000000) ∧ (a = 0 ∨ ((1 ≤ a ∧ a ≤ 40) ∧ I 81 a ≠ 0))) → (I 79 2 = 0) → post (.inl (none)) Yw (upI (upI (upI (upI I 79 0 0) 79 4 0) 91 c 1) 93 c a) (upI L 92 c v)) : ed_Ct g l mM_debt 3 0 0 [.ref 79, .int (iZ c), .long (lZ v), .int (iZ a)] Yw I L post := by
  refine ed_Ct.of hl rfl (Nat.le_of_ble_eq_true rfl) (fun x _ C => ?_)
  show Gd g x post _ _ _ _ _ _ _ _ 0 [(0, _), (1, _), (2, _), (4, _)] []
  refine r_ald C dM_debt_0 rfl ?_
  refine r_ild C dM_debt_1 rfl ?_
  refine r_callS C lzM_isId dM_debt_2 [_] [_] rfl rfl (Nat.le_of_ble_eq_true rfl) ⟨(Nat.le_of_ble_eq_true rfl), (Nat.le_of_ble_eq_true rfl), (Nat.le_of_ble_eq_true rfl), (Nat.le_of_ble_eq_true rfl)⟩ rfl (cM_isId C.2.2.2.2.2.1 (by omega) (fun b2 => ?_) (fun b2 => ?_))
  · refine r_if_eq C dM_debt_5 (by omega) (fun b5 => ?_) (fun b5 => ?_)
    · omega
    · refine r_lld C dM_debt_8 rfl ?_
      refine r_callS C lzM_isCents dM_debt_9 [_] [_] rfl rfl (Nat.le_of_ble_eq_true rfl) ⟨(Nat.le_of_ble_eq_true rfl), (Nat.le_of_ble_eq_true rfl), (Nat.le_of_ble_eq_true rfl), (Nat.le_of_ble_eq_true rfl)⟩ rfl (cM_isCents C.2.2.2.2.2.1 (by omega) (fun b9 => ?_) (fun b9 => ?_))
      · refine r_if_eq C dM_debt_12 (by omega) (fun b12 => ?_) (fun b12 => ?_)
        · omega
        · refine r_ild C dM_debt_15 rfl ?_
          refine r_if_eq C dM_debt_17 (by omega) (fun b17 => ?_) (fun b17 => ?_)
          · refine r_ik C dM_debt_29 ?_
            refine r_goto C dM_debt_30 ?_
            refine r_ik C dM_debt_34 ?_
            refine r_callV C lzM_isBarred dM_debt_35 _ [_, _] [] rfl rfl rfl rfl rfl (Nat.le_of_ble_eq_true rfl) ⟨(Nat.le_of_ble_eq_true rfl), (Nat.le_of_ble_eq_true rfl), (Nat.le_of_ble_eq_true rfl), (Nat.le_of_ble_eq_true rfl)⟩ rfl (cM_isBarred C.2.2.2.2.2.1 (by omega) (by omega) hc (fun h => absurd h (by decide)) (fun _ b35 => ?_) (fun _ b35 _ => ?_))
            · refine r_if_ne C dM_debt_38 (by omega) (fun b38 => ?_) (fun b38 => ?_)
              · exact r_vret C dM_debt_63 rfl (Nat.le_of_ble_eq_true rfl) (Nat.le_of_ble_eq_true rfl) (by first | exact h1 (by omega) | exact h2 (by omega) (by omega) | exact hn (by omega) (by omega))
              · omega
            · refine r_if_ne C dM_debt_38 (by omega) (fun b38 => ?_) (fun b38 => ?_)
              · omega
              · refine r_ald C dM_debt_41 rfl ?_
                refine r_getR C dM_debt_42 rfl rfl ?_
                refine r_ild C dM_debt_45 rfl ?_
                refine r_ik C dM_debt_46 ?_
                refine r_zast C dM_debt_47 rfl rfl ⟨by omega, by omega⟩ (by decide) (by omega) ?_
                refine r_ald C dM_debt_48 rfl ?_
                refine r_getR C dM_debt_49 rfl rfl ?_
                refine r_ild C dM_debt_52 rfl ?_
                refine r_lld C dM_debt_53 rfl ?_
                refine r_last C dM_debt_54 rfl rfl ⟨by omega, by omega⟩ (by decide) ?_
                refine r_ald C dM_debt_55 rfl ?_
                refine r_getR C dM_debt_56 rfl rfl ?_
                refine r_ild C dM_debt_59 rfl ?_
                refine r_ild C dM_debt_60 rfl ?_
                refine r_iast C dM_debt_62 rfl rfl ⟨by omega, by omega⟩ (by decide) ?_
                exact r_vret C dM_debt_63 rfl (Nat.le_of_ble_eq_true rfl) (Nat.le_of_ble_eq_true rfl) (by first | exact h1 (by omega) | exact h2 (by omega) (by omega) | exact hn (by omega) (by omega))
          · refine r_ald C dM_debt_20 rfl ?_
            refine r_ild C dM_debt_21 rfl ?_
            refine r_callV C lzM_hasAsset dM_debt_23 _ [_] [_] rfl rfl rfl rfl rfl (Nat.le_of_ble_eq_true rfl) ⟨(Nat.le_of_ble_eq_true rfl), (Nat.le_of_ble_eq_true rfl), (Nat.le_of_ble_eq_true rfl), (Nat.le_of_ble_eq_true rfl)⟩ rfl (cM_hasAsset C.2.2.2.2.2.1 (by omega) hk (fun b23 => ?_) (fun b23 => ?_))
            · refine r_if_eq C dM_debt_26 (by omega) (fun b26 => ?_) (fun b26 => ?_)
              · omega
              · refine r_ik C dM_debt_29 ?_
                refine r_goto C dM_debt_30 ?_
                refine r_ik C dM_debt_34 ?_
                refine r_callV C lzM_isBarred dM_debt_35 _ [_, _] [] rfl rfl rfl rfl rfl (Nat.le_of_ble_eq_true rfl) ⟨(Nat.le_of_ble_eq_true rfl), (Nat.le_of_ble_eq_true rfl), (Nat.le_of_ble_eq_true rfl), (Nat.le_of_ble_eq_true rfl)⟩ rfl (cM_isBarred C.2.2.2.2.2.1 (by omega) (by omega) hc (fun h => absurd h (by decide)) (fun _ b35 => ?_) (fun _ b35 _ => ?_))
                · refine r_if_ne C dM_debt_38 (by omega) (fun b38 => ?_) (fun b38 => ?_)
                  · exact r_vret C dM_debt_63 rfl (Nat.le_of_ble_eq_true rfl) (Nat.le_of_ble_eq_true rfl) (by first | exact h1 (by omega) | exact h2 (by omega) (by omega) | exact hn (by omega) (by omega))
                  · omega
                · refine r_if_ne C dM_debt_38 (by omega) (fun b38 => ?_) (fun b38 => ?_)
                  · omega
                  · refine r_ald C dM_debt_41 rfl ?_
                    refine r_getR C dM_debt_42 rfl rfl ?_
                    refine r_ild C dM_debt_45 rfl ?_
                    refine r_ik C dM_debt_46 ?_
                    refine r_zast C dM_debt_47 rfl rfl ⟨by omega, by omega⟩ (by decide) (by omega) ?_
                    refine r_ald C dM_debt_48 rfl ?_
                    refine r_getR C dM_debt_49 rfl rfl ?_
                    refine r_ild C dM_debt_52 rfl ?_
                    refine r_lld C dM_debt_53 rfl ?_
                    refine r_last C dM_debt_54 rfl rfl ⟨by omega, by omega⟩ (by decide) ?_
                    refine r_ald C dM_debt_55 rfl ?_
                    refine r_getR C dM_debt_56 rfl rfl ?_
                    refine r_ild C dM_debt_59 rfl ?_
                    refine r_ild C dM_debt_60 rfl ?_
                    refine r_iast C dM_debt_62 rfl rfl ⟨by omega, by omega⟩ (by decide) ?_
                    exact r_vret C dM_debt_63 rfl (Nat.le_of_ble_eq_true rfl) (Nat.le_of_ble_eq_true rfl) (by first | exact h1 (by omega) | exact h2 (by omega) (by omega) | exact hn (by omega) (by omega))
            · refine r_if_eq C dM_debt_26 (by omega) (fun b26 => ?_) (fun b26 => ?_)
              · refine r_ik C dM_debt_33 ?_
                refine r_ik C dM_debt_34 ?_
                refine r_callV C lzM_isBarred dM_debt_35 _ [_, _] [] rfl rfl rfl rfl rfl (Nat.le_of_ble_eq_true rfl) ⟨(Nat.le_of_ble_eq_true rfl), (Nat.le_of_ble_eq_true rfl), (Nat.le_of_ble_eq_true rfl), (Nat.le_of_ble_eq_true rfl)⟩ rfl (cM_isBarred C.2.2.2.2.2.1 (by omega) (by omega) hc (fun _ => ?_) (fun h => absurd rfl h) (fun h => absurd rfl h))
                refine r_if_ne C dM_debt_38 (by omega) (fun b38 => ?_) (fun b38 => ?_)
                · exact r_vret C dM_debt_63 rfl (Nat.le_of_ble_eq_true rfl) (Nat.le_of_ble_eq_true rfl) (by first | exact h1 (by omega) | exact h2 (by omega) (by omega) | exact hn (by omega) (by omega))
                · omega
              · omega
      · refine r_if_eq C dM_debt_12 (by omega) (fun b12 => ?_) (fun b12 => ?_)
        · refine r_ik C dM_debt_33 ?_
          refine r_ik C dM_debt_34 ?_
          refine r_callV C lzM_isBarred dM_debt_35 _ [_, _] [] rfl rfl rfl rfl rfl (Nat.le_of_ble_eq_true rfl) ⟨(Nat.le_of_ble_eq_true rfl), (Nat.le_of_ble_eq_true rfl), (Nat.le_of_ble_eq_true rfl), (Nat.le_of_ble_eq_true rfl)⟩ rfl (cM_isBarred C.2.2.2.2.2.1 (by omega) (by omega) hc (fun _ => ?_) (fun h => absurd rfl h) (fun h => absurd rfl h))
          refine r_if_ne C dM_debt_38 (by omega) (fun b38 => ?_) (fun b38 => ?_)
          · exact r_vret C dM_debt_63 rfl (Nat.le_of_ble_eq_true rfl) (Nat.le_of_ble_eq_true rfl) (by first | exact h1 (by omega) | exact h2 (by omega) (by omega) | exact hn (by omega) (by omega))
          · omega
        · omega
  · refine r_if_eq C dM_debt_5 (by omega) (fun b5 => ?_) (fun b5 => ?_)
    · refine r_ik C dM_debt_33 ?_
      refine r_ik C dM_debt_34 ?_
      refine r_callV C lzM_isBarred dM_debt_35 _ [_, _] [] rfl rfl rfl rfl rfl (Nat.le_of_ble_eq_true rfl) ⟨(Nat.le_of_ble_eq_true rfl), (Nat.le_of_ble_eq_true rfl), (Nat.le_of_ble_eq_true rfl), (Nat.le_of_ble_eq_true rfl)⟩ rfl (cM_isBarred C.2.2.2.2.2.1 (by omega) (by omega) hc (fun _ => ?_) (fun h => absurd rfl h) (fun h => absurd rfl h))
      refine r_if_ne C dM_debt_38 (by omega) (fun b38 => ?_) (fun b38 => ?_)
      · exact r_vret C dM_debt_63 rfl (Nat.le_of_ble_eq_true rfl) (Nat.le_of_ble_eq_true rfl) (by first | exact h1 (by omega) | exact h2 (by omega) (by omega) | exact hn (by omega) (by omega))
      · omega
    · omega
set_option maxRecDepth 100000 in
set_option maxHeartbeats 4000000 in
theorem cM_assetTo {g : ed_g} {l : Launch} (hl : l.stackTraces = false) {I : ed_I} {L : ed_L} {a : Int} (ra : -2147483648 ≤ a ∧ a ≤ 2147483647) (hs : I 79 3 = 0 ∨ I 79 3 = 1) {post : ed_post} (h1 : ¬ (1 ≤ a ∧ a ≤ 40) → post (.inl (some (.int (iZ 0)))) Yw (upI I 79 0 1) L) (h2 : (1 ≤ a ∧ a ≤ 40) → ¬ (I 79 3 ≠ 0) → post (.inl (some (.int (iZ 0)))) Yw (upI I 79 0 2) L) (hn : (1 ≤ a ∧ a ≤ 40) → (I 79 3 ≠ 0) → post (.inl (some (.int (iZ (I 107 a))))) Yw (upI I 79 0 0) L) : ed_Ct g l mM_assetTo 3 0 0 [.ref 79, .int (iZ a)] Yw I L post := by
  refine ed_Ct.of hl rfl (Nat.le_of_ble_eq_true rfl) (fun x _ C => ?_)
  show Gd g x post _ _ _ _ _ _ _ _ 0 [(0, _), (1, _)] []
  refine r_ald C dM_assetTo_0 rfl ?_
  refine r_ild C dM_assetTo_1 rfl ?_
  refine r_callS C lzM_isId dM_assetTo_2 [_] [_] rfl rfl (Nat.le_of_ble_eq_true rfl) ⟨(Nat.le_of_ble_eq_true rfl), (Nat.le_of_ble_eq_true rfl), (Nat.le_of_ble_eq_true rfl), (Nat.le_of_ble_eq_true rfl)⟩ rfl (cM_isId C.2.2.2.2.2.1 (by omega) (fun b2 => ?_) (fun b2 => ?_))
  · refine r_callV C lzM_isWrong dM_assetTo_5 _ [_] [] rfl rfl rfl rfl rfl (Nat.le_of_ble_eq_true rfl) ⟨(Nat.le_of_ble_eq_true rfl), (Nat.le_of_ble_eq_true rfl), (Nat.le_of_ble_eq_true rfl), (Nat.le_of_ble_eq_true rfl)⟩ rfl (cM_isWrong C.2.2.2.2.2.1 (by omega) hs (fun h => absurd h (by decide)) (fun _ b5 => ?_) (fun _ b5 => ?_))
    · refine r_if_eq C dM_assetTo_8 (by omega) (fun b8 => ?_) (fun b8 => ?_)
      · omega
      · refine r_ik C dM_assetTo_11 ?_
        refine r_goto C dM_assetTo_12 ?_
        exact r_iret C dM_assetTo_21 rfl (Nat.le_of_ble_eq_true rfl) (Nat.le_of_ble_eq_true rfl) (by first | exact h1 (by omega) | exact h2 (by omega) (by omega) | exact hn (by omega) (by omega))
    · refine r_if_eq C dM_assetTo_8 (by omega) (fun b8 => ?_) (fun b8 => ?_)
      · refine r_ald C dM_assetTo_15 rfl ?_
        refine r_getR C dM_assetTo_16 rfl rfl ?_
        refine r_ild C dM_assetTo_19 rfl ?_
        refine r_iald C dM_assetTo_20 rfl ⟨by omega, by omega⟩ (by decide) ?_
        exact r_iret C dM_assetTo_21 rfl (Nat.le_of_ble_eq_true rfl) (Nat.le_of_ble_eq_true rfl) (by first | exact h1 (by omega) | exact h2 (by omega) (by omega) | exact hn (by omega) (by omega))
      · omega
  · refine r_callV C lzM_isWrong dM_assetTo_5 _ [_] [] rfl rfl rfl rfl rfl (Nat.le_of_ble_eq_true rfl) ⟨(Nat.le_of_ble_eq_true rfl), (Nat.le_of_ble_eq_true rfl), (Nat.le_of_ble_eq_true rfl), (Nat.le_of_ble_eq_true rfl)⟩ rfl (cM_isWrong C.2.2.2.2.2.1 (by omega) hs (fun _ => ?_) (fun h => absurd rfl h) (fun h => absurd rfl h))
    refine r_if_eq C dM_assetTo_8 (by omega) (fun b8 => ?_) (fun b8 => ?_)
    · omega
    · refine r_ik C dM_assetTo_11 ?_
      refine r_goto C dM_assetTo_12 ?_
      exact r_iret C dM_assetTo_21 rfl (Nat.le_of_ble_eq_true rfl) (Nat.le_of_ble_eq_true rfl) (by first | exact h1 (by omega) | exact h2 (by omega) (by omega) | exact hn (by omega) (by omega))
set_option maxRecDepth 100000 in
set_option maxHeartbeats 4000000 in
theorem cM_clauseState {g : ed_g} {l : Launch} (hl : l.stackTraces = false) {I : ed_I} {L : ed_L} {a : Int} (ra : -2147483648 ≤ a ∧ a ≤ 2147483647) (hs : I 79 3 = 0 ∨ I 79 3 = 1) {post : ed_post} (h1 : ¬ (1 ≤ a ∧ a ≤ 40) → post (.inl (some (.int (iZ 0)))) Yw (upI I 79 0 1) L) (h2 : (1 ≤ a ∧ a ≤ 40) → ¬ (I 79 3 ≠ 0) → post (.inl (some (.int (iZ 0)))) Yw (upI I 79 0 2) L) (hn : (1 ≤ a ∧ a ≤ 40) → (I 79 3 ≠ 0) → post (.inl (some (.int (iZ (I 94 a))))) Yw (upI I 79 0 0) L) : ed_Ct g l mM_clauseState 3 0 0 [.ref 79, .int (iZ a)] Yw I L post := by
  refine ed_Ct.of hl rfl (Nat.le_of_ble_eq_true rfl) (fun x _ C => ?_)
  show Gd g x post _ _ _ _ _ _ _ _ 0 [(0, _), (1, _)] []
  refine r_ald C dM_clauseState_0 rfl ?_
  refine r_ild C dM_clauseState_1 rfl ?_
  refine r_callS C lzM_isId dM_clauseState_2 [_] [_] rfl rfl (Nat.le_of_ble_eq_true rfl) ⟨(Nat.le_of_ble_eq_true rfl), (Nat.le_of_ble_eq_true rfl), (Nat.le_of_ble_eq_true rfl), (Nat.le_of_ble_eq_true rfl)⟩ rfl (cM_isId C.2.2.2.2.2.1 (by omega) (fun b2 => ?_) (fun b2 => ?_))
  · refine r_callV C lzM_isWrong dM_clauseState_5 _ [_] [] rfl rfl rfl rfl rfl (Nat.le_of_ble_eq_true rfl) ⟨(Nat.le_of_ble_eq_true rfl), (Nat.le_of_ble_eq_true rfl), (Nat.le_of_ble_eq_true rfl), (Nat.le_of_ble_eq_true rfl)⟩ rfl (cM_isWrong C.2.2.2.2.2.1 (by omega) hs (fun h => absurd h (by decide)) (fun _ b5 => ?_) (fun _ b5 => ?_))
    · refine r_if_eq C dM_clauseState_8 (by omega) (fun b8 => ?_) (fun b8 => ?_)
      · omega
      · refine r_ik C dM_clauseState_11 ?_
        refine r_goto C dM_clauseState_12 ?_
        exact r_iret C dM_clauseState_21 rfl (Nat.le_of_ble_eq_true rfl) (Nat.le_of_ble_eq_true rfl) (by first | exact h1 (by omega) | exact h2 (by omega) (by omega) | exact hn (by omega) (by omega))
    · refine r_if_eq C dM_clauseState_8 (by omega) (fun b8 => ?_) (fun b8 => ?_)
      · refine r_ald C dM_clauseState_15 rfl ?_
        refine r_getR C dM_clauseState_16 rfl rfl ?_
        refine r_ild C dM_clauseState_19 rfl ?_
        refine r_iald C dM_clauseState_20 rfl ⟨by omega, by omega⟩ (by decide) ?_
        exact r_iret C dM_clauseState_21 rfl (Nat.le_of_ble_eq_true rfl) (Nat.le_of_ble_eq_true rfl) (by first | exact h1 (by omega) | exact h2 (by omega) (by omega) | exact hn (by omega) (by omega))
      · omega
  · refine r_callV C lzM_isWrong dM_clauseState_5 _ [_] [] rfl rfl rfl rfl rfl (Nat.le_of_ble_eq_true rfl) ⟨(Nat.le_of_ble_eq_true rfl), (Nat.le_of_ble_eq_true rfl), (Nat.le_of_ble_eq_true rfl), (Nat.le_of_ble_eq_true rfl)⟩ rfl (cM_isWrong C.2.2.2.2.2.1 (by omega) hs (fun _ => ?_) (fun h => absurd rfl h) (fun h => absurd rfl h))
    refine r_if_eq C dM_clauseState_8 (by omega) (fun b8 => ?_) (fun b8 => ?_)
    · omega
    · refine r_ik C dM_clauseState_11 ?_
      refine r_goto C dM_clauseState_12 ?_
      exact r_iret C dM_clauseState_21 rfl (Nat.le_of_ble_eq_true rfl) (Nat.le_of_ble_eq_true rfl) (by first | exact h1 (by omega) | exact h2 (by omega) (by omega) | exact hn (by omega) (by omega))
set_option maxRecDepth 100000 in
set_option maxHeartbeats 4000000 in
theorem cM_paid {g : ed_g} {l : Launch} (hl : l.stackTraces = false) {I : ed_I} {L : ed_L} {a : Int} (ra : -2147483648 ≤ a ∧ a ≤ 2147483647) (hs : I 79 3 = 0 ∨ I 79 3 = 1) {post : ed_post} (h1 : ¬ (1 ≤ a ∧ a ≤ 40) → post (.inl (some (.long (lZ 0)))) Yw (upI I 79 0 1) L) (h2 : (1 ≤ a ∧ a ≤ 40) → ¬ (I 79 3 ≠ 0) → post (.inl (some (.long (lZ 0)))) Yw (upI I 79 0 2) L) (hn : (1 ≤ a ∧ a ≤ 40) → (I 79 3 ≠ 0) → post (.inl (some (.long (lZ (L 103 a))))) Yw (upI I 79 0 0) L) : ed_Ct g l mM_paid 3 0 0 [.ref 79, .int (iZ a)] Yw I L post := by
  refine ed_Ct.of hl rfl (Nat.le_of_ble_eq_true rfl) (fun x _ C => ?_)
  show Gd g x post _ _ _ _ _ _ _ _ 0 [(0, _), (1, _)] []
  refine r_ald C dM_paid_0 rfl ?_
  refine r_ild C dM_paid_1 rfl ?_
  refine r_callS C lzM_isId dM_paid_2 [_] [_] rfl rfl (Nat.le_of_ble_eq_true rfl) ⟨(Nat.le_of_ble_eq_true rfl), (Nat.le_of_ble_eq_true rfl), (Nat.le_of_ble_eq_true rfl), (Nat.le_of_ble_eq_true rfl)⟩ rfl (cM_isId C.2.2.2.2.2.1 (by omega) (fun b2 => ?_) (fun b2 => ?_))
  · refine r_callV C lzM_isWrong dM_paid_5 _ [_] [] rfl rfl rfl rfl rfl (Nat.le_of_ble_eq_true rfl) ⟨(Nat.le_of_ble_eq_true rfl), (Nat.le_of_ble_eq_true rfl), (Nat.le_of_ble_eq_true rfl), (Nat.le_of_ble_eq_true rfl)⟩ rfl (cM_isWrong C.2.2.2.2.2.1 (by omega) hs (fun h => absurd h (by decide)) (fun _ b5 => ?_) (fun _ b5 => ?_))
    · refine r_if_eq C dM_paid_8 (by omega) (fun b8 => ?_) (fun b8 => ?_)
      · omega
      · refine r_lk C dM_paid_11 ?_
        refine r_goto C dM_paid_12 ?_
        exact r_lret C dM_paid_21 rfl (Nat.le_of_ble_eq_true rfl) (Nat.le_of_ble_eq_true rfl) (by first | exact h1 (by omega) | exact h2 (by omega) (by omega) | exact hn (by omega) (by omega))
    · refine r_if_eq C dM_paid_8 (by omega) (fun b8 => ?_) (fun b8 => ?_)
      · refine r_ald C dM_paid_15 rfl ?_
        refine r_getR C dM_paid_16 rfl rfl ?_
        refine r_ild C dM_paid_19 rfl ?_
        refine r_lald C dM_paid_20 rfl ⟨by omega, by omega⟩ (by decide) ?_
        exact r_lret C dM_paid_21 rfl (Nat.le_of_ble_eq_true rfl) (Nat.le_of_ble_eq_true rfl) (by first | exact h1 (by omega) | exact h2 (by omega) (by omega) | exact hn (by omega) (by omega))
      · omega
  · refine r_callV C lzM_isWrong dM_paid_5 _ [_] [] rfl rfl rfl rfl rfl (Nat.le_of_ble_eq_true rfl) ⟨(Nat.le_of_ble_eq_true rfl), (Nat.le_of_ble_eq_true rfl), (Nat.le_of_ble_eq_true rfl), (Nat.le_of_ble_eq_true rfl)⟩ rfl (cM_isWrong C.2.2.2.2.2.1 (by omega) hs (fun _ => ?_) (fun h => absurd rfl h) (fun h => absurd rfl h))
    refine r_if_eq C dM_paid_8 (by omega) (fun b8 => ?_) (fun b8 => ?_)
    · omega
    · refine r_lk C dM_paid_11 ?_
      refine r_goto C dM_paid_12 ?_
      exact r_lret C dM_paid_21 rfl (Nat.le_of_ble_eq_true rfl) (Nat.le_of_ble_eq_true rfl) (by first | exact h1 (by omega) | exact h2 (by omega) (by omega) | exact hn (by omega) (by omega))
set_option maxRecDepth 100000 in
set_option maxHeartbeats 4000000 in
theorem cM_sum {g : ed_g} {l : Launch} (hl : l.stackTraces = false) {I : ed_I} {L : ed_L} {a : Int} (ra : -2147483648 ≤ a ∧ a ≤ 2147483647) (hs : I 79 3 = 0 ∨ I 79 3 = 1) {post : ed_post} (h1 : ¬ (0 ≤ a ∧ a ≤ 7) → post (.inl (some (.long (lZ 0)))) Yw (upI I 79 0 1) L) (h2 : (0 ≤ a ∧ a ≤ 7) → ¬ (I 79 3 ≠ 0) → post (.inl (some (.long (lZ 0)))) Yw (upI I 79 0 2) L) (hn : (0 ≤ a ∧ a ≤ 7) → (I 79 3 ≠ 0) → post (.inl (some (.long (lZ (L 108 a))))) Yw (upI I 79 0 0) L) : ed_Ct g l mM_sum 3 0 0 [.ref 79, .int (iZ a)] Yw I L post := by
  refine ed_Ct.of hl rfl (Nat.le_of_ble_eq_true rfl) (fun x _ C => ?_)
  show Gd g x post _ _ _ _ _ _ _ _ 0 [(0, _), (1, _)] []
  refine r_ald C dM_sum_0 rfl ?_
  refine r_ild C dM_sum_1 rfl ?_
  refine r_i2l C dM_sum_2 (by omega) ?_
  refine r_lk C dM_sum_3 ?_
  refine r_lk C dM_sum_4 ?_
  refine r_callS C lzM_isIn dM_sum_7 [_, _, _] [_] rfl rfl (Nat.le_of_ble_eq_true rfl) ⟨(Nat.le_of_ble_eq_true rfl), (Nat.le_of_ble_eq_true rfl), (Nat.le_of_ble_eq_true rfl), (Nat.le_of_ble_eq_true rfl)⟩ rfl (cM_isIn C.2.2.2.2.2.1 (by omega) (fun b7 => ?_) (fun b7 => ?_))
  · refine r_callV C lzM_isWrong dM_sum_10 _ [_] [] rfl rfl rfl rfl rfl (Nat.le_of_ble_eq_true rfl) ⟨(Nat.le_of_ble_eq_true rfl), (Nat.le_of_ble_eq_true rfl), (Nat.le_of_ble_eq_true rfl), (Nat.le_of_ble_eq_true rfl)⟩ rfl (cM_isWrong C.2.2.2.2.2.1 (by omega) hs (fun h => absurd h (by decide)) (fun _ b10 => ?_) (fun _ b10 => ?_))
    · refine r_if_eq C dM_sum_13 (by omega) (fun b13 => ?_) (fun b13 => ?_)
      · omega
      · refine r_lk C dM_sum_16 ?_
        refine r_goto C dM_sum_17 ?_
        exact r_lret C dM_sum_26 rfl (Nat.le_of_ble_eq_true rfl) (Nat.le_of_ble_eq_true rfl) (by first | exact h1 (by omega) | exact h2 (by omega) (by omega) | exact hn (by omega) (by omega))
    · refine r_if_eq C dM_sum_13 (by omega) (fun b13 => ?_) (fun b13 => ?_)
      · refine r_ald C dM_sum_20 rfl ?_
        refine r_getR C dM_sum_21 rfl rfl ?_
        refine r_ild C dM_sum_24 rfl ?_
        refine r_lald C dM_sum_25 rfl ⟨by omega, by omega⟩ (by decide) ?_
        exact r_lret C dM_sum_26 rfl (Nat.le_of_ble_eq_true rfl) (Nat.le_of_ble_eq_true rfl) (by first | exact h1 (by omega) | exact h2 (by omega) (by omega) | exact hn (by omega) (by omega))
      · omega
  · refine r_callV C lzM_isWrong dM_sum_10 _ [_] [] rfl rfl rfl rfl rfl (Nat.le_of_ble_eq_true rfl) ⟨(Nat.le_of_ble_eq_true rfl), (Nat.le_of_ble_eq_true rfl), (Nat.le_of_ble_eq_true rfl), (Nat.le_of_ble_eq_true rfl)⟩ rfl (cM_isWrong C.2.2.2.2.2.1 (by omega) hs (fun _ => ?_) (fun h => absurd rfl h) (fun h => absurd rfl h))
    refine r_if_eq C dM_sum_13 (by omega) (fun b13 => ?_) (fun b13 => ?_)
    · omega
    · refine r_lk C dM_sum_16 ?_
      refine r_goto C dM_sum_17 ?_
      exact r_lret C dM_sum_26 rfl (Nat.le_of_ble_eq_true rfl) (Nat.le_of_ble_eq_true rfl) (by first | exact h1 (by omega) | exact h2 (by omega) (by omega) | exact hn (by omega) (by omega))
set_option maxRecDepth 100000 in
set_option maxHeartbeats 4000000 in
theorem cM_gets {g : ed_g} {l : Launch} (hl : l.stackTraces = false) {I : ed_I} {L : ed_L} {p w : Int} (rp : -2147483648 ≤ p ∧ p ≤ 2147483647) (rw : -2147483648 ≤ w ∧ w ≤ 2147483647) (hs : I 79 3 = 0 ∨ I 79 3 = 1) {post : ed_post} (h1 : ¬ ((0 ≤ p ∧ p ≤ 40) ∧ 0 ≤ w ∧ w ≤ 2) → post (.inl (some (.long (lZ 0)))) Yw (upI I 79 0 1) L) (h2 : ((0 ≤ p ∧ p ≤ 40) ∧ 0 ≤ w ∧ w ≤ 2) → ¬ (I 79 3 ≠ 0) → post (.inl (some (.long (lZ 0)))) Yw (upI I 79 0 2) L) (hn : ((0 ≤ p ∧ p ≤ 40) ∧ 0 ≤ w ∧ w ≤ 2) → (I 79 3 ≠ 0) → post (.inl (some (.long (lZ (if w = 0 then L 104 p else if w = 1 then L 105 p else L 106 p))))) Yw (upI I 79 0 0) L) : ed_Ct g l mM_gets 3 0 0 [.ref 79, .int (iZ p), .int (iZ w)] Yw I L post := by
  refine ed_Ct.of hl rfl (Nat.le_of_ble_eq_true rfl) (fun x _ C => ?_)
  show Gd g x post _ _ _ _ _ _ _ _ 0 [(0, _), (1, _), (2, _)] []
  refine r_ald C dM_gets_0 rfl ?_
  refine r_ild C dM_gets_1 rfl ?_
  refine r_i2l C dM_gets_2 (by omega) ?_
  refine r_lk C dM_gets_3 ?_
  refine r_lk C dM_gets_4 ?_
  refine r_callS C lzM_isIn dM_gets_7 [_, _, _] [_] rfl rfl (Nat.le_of_ble_eq_true rfl) ⟨(Nat.le_of_ble_eq_true rfl), (Nat.le_of_ble_eq_true rfl), (Nat.le_of_ble_eq_true rfl), (Nat.le_of_ble_eq_true rfl)⟩ rfl (cM_isIn C.2.2.2.2.2.1 (by omega) (fun b7 => ?_) (fun b7 => ?_))
  · refine r_if_eq C dM_gets_10 (by omega) (fun b10 => ?_) (fun b10 => ?_)
    · omega
    · refine r_ild C dM_gets_13 rfl ?_
      refine r_i2l C dM_gets_14 (by omega) ?_
      refine r_lk C dM_gets_15 ?_
      refine r_lk C dM_gets_16 ?_
      refine r_callS C lzM_isIn dM_gets_19 [_, _, _] [_] rfl rfl (Nat.le_of_ble_eq_true rfl) ⟨(Nat.le_of_ble_eq_true rfl), (Nat.le_of_ble_eq_true rfl), (Nat.le_of_ble_eq_true rfl), (Nat.le_of_ble_eq_true rfl)⟩ rfl (cM_isIn C.2.2.2.2.2.1 (by omega) (fun b19 => ?_) (fun b19 => ?_))
      · refine r_if_eq C dM_gets_22 (by omega) (fun b22 => ?_) (fun b22 => ?_)
        · omega
        · refine r_ik C dM_gets_25 ?_
          refine r_goto C dM_gets_26 ?_
          refine r_callV C lzM_isWrong dM_gets_30 _ [_] [] rfl rfl rfl rfl rfl (Nat.le_of_ble_eq_true rfl) ⟨(Nat.le_of_ble_eq_true rfl), (Nat.le_of_ble_eq_true rfl), (Nat.le_of_ble_eq_true rfl), (Nat.le_of_ble_eq_true rfl)⟩ rfl (cM_isWrong C.2.2.2.2.2.1 (by omega) hs (fun h => absurd h (by decide)) (fun _ b30 => ?_) (fun _ b30 => ?_))
          · refine r_if_eq C dM_gets_33 (by omega) (fun b33 => ?_) (fun b33 => ?_)
            · omega
            · refine r_lk C dM_gets_36 ?_
              exact r_lret C dM_gets_37 rfl (Nat.le_of_ble_eq_true rfl) (Nat.le_of_ble_eq_true rfl) (by first | exact h1 (by omega) | exact h2 (by omega) (by omega) | (have h9 := hn (by omega) (by omega); first | (rw [if_pos (by omega)] at h9; exact h9) | (rw [if_neg (by omega), if_pos (by omega)] at h9; exact h9) | (rw [if_neg (by omega), if_neg (by omega)] at h9; exact h9)))
          · refine r_if_eq C dM_gets_33 (by omega) (fun b33 => ?_) (fun b33 => ?_)
            · refine r_ild C dM_gets_38 rfl ?_
              refine r_if_ne C dM_gets_39 (by omega) (fun b39 => ?_) (fun b39 => ?_)
              · refine r_ild C dM_gets_51 rfl ?_
                refine r_ik C dM_gets_52 ?_
                refine r_icmp_ne C dM_gets_53 (by omega) (fun b53 => ?_) (fun b53 => ?_)
                · refine r_ald C dM_gets_65 rfl ?_
                  refine r_getR C dM_gets_66 rfl rfl ?_
                  refine r_ild C dM_gets_69 rfl ?_
                  refine r_lald C dM_gets_70 rfl ⟨by omega, by omega⟩ (by decide) ?_
                  exact r_lret C dM_gets_71 rfl (Nat.le_of_ble_eq_true rfl) (Nat.le_of_ble_eq_true rfl) (by first | exact h1 (by omega) | exact h2 (by omega) (by omega) | (have h9 := hn (by omega) (by omega); first | (rw [if_pos (by omega)] at h9; exact h9) | (rw [if_neg (by omega), if_pos (by omega)] at h9; exact h9) | (rw [if_neg (by omega), if_neg (by omega)] at h9; exact h9)))
                · refine r_ald C dM_gets_56 rfl ?_
                  refine r_getR C dM_gets_57 rfl rfl ?_
                  refine r_ild C dM_gets_60 rfl ?_
                  refine r_lald C dM_gets_61 rfl ⟨by omega, by omega⟩ (by decide) ?_
                  refine r_goto C dM_gets_62 ?_
                  exact r_lret C dM_gets_71 rfl (Nat.le_of_ble_eq_true rfl) (Nat.le_of_ble_eq_true rfl) (by first | exact h1 (by omega) | exact h2 (by omega) (by omega) | (have h9 := hn (by omega) (by omega); first | (rw [if_pos (by omega)] at h9; exact h9) | (rw [if_neg (by omega), if_pos (by omega)] at h9; exact h9) | (rw [if_neg (by omega), if_neg (by omega)] at h9; exact h9)))
              · refine r_ald C dM_gets_42 rfl ?_
                refine r_getR C dM_gets_43 rfl rfl ?_
                refine r_ild C dM_gets_46 rfl ?_
                refine r_lald C dM_gets_47 rfl ⟨by omega, by omega⟩ (by decide) ?_
                refine r_goto C dM_gets_48 ?_
                exact r_lret C dM_gets_71 rfl (Nat.le_of_ble_eq_true rfl) (Nat.le_of_ble_eq_true rfl) (by first | exact h1 (by omega) | exact h2 (by omega) (by omega) | (have h9 := hn (by omega) (by omega); first | (rw [if_pos (by omega)] at h9; exact h9) | (rw [if_neg (by omega), if_pos (by omega)] at h9; exact h9) | (rw [if_neg (by omega), if_neg (by omega)] at h9; exact h9)))
            · omega
      · refine r_if_eq C dM_gets_22 (by omega) (fun b22 => ?_) (fun b22 => ?_)
        · refine r_ik C dM_gets_29 ?_
          refine r_callV C lzM_isWrong dM_gets_30 _ [_] [] rfl rfl rfl rfl rfl (Nat.le_of_ble_eq_true rfl) ⟨(Nat.le_of_ble_eq_true rfl), (Nat.le_of_ble_eq_true rfl), (Nat.le_of_ble_eq_true rfl), (Nat.le_of_ble_eq_true rfl)⟩ rfl (cM_isWrong C.2.2.2.2.2.1 (by omega) hs (fun _ => ?_) (fun h => absurd rfl h) (fun h => absurd rfl h))
          refine r_if_eq C dM_gets_33 (by omega) (fun b33 => ?_) (fun b33 => ?_)
          · omega
          · refine r_lk C dM_gets_36 ?_
            exact r_lret C dM_gets_37 rfl (Nat.le_of_ble_eq_true rfl) (Nat.le_of_ble_eq_true rfl) (by first | exact h1 (by omega) | exact h2 (by omega) (by omega) | (have h9 := hn (by omega) (by omega); first | (rw [if_pos (by omega)] at h9; exact h9) | (rw [if_neg (by omega), if_pos (by omega)] at h9; exact h9) | (rw [if_neg (by omega), if_neg (by omega)] at h9; exact h9)))
        · omega
  · refine r_if_eq C dM_gets_10 (by omega) (fun b10 => ?_) (fun b10 => ?_)
    · refine r_ik C dM_gets_29 ?_
      refine r_callV C lzM_isWrong dM_gets_30 _ [_] [] rfl rfl rfl rfl rfl (Nat.le_of_ble_eq_true rfl) ⟨(Nat.le_of_ble_eq_true rfl), (Nat.le_of_ble_eq_true rfl), (Nat.le_of_ble_eq_true rfl), (Nat.le_of_ble_eq_true rfl)⟩ rfl (cM_isWrong C.2.2.2.2.2.1 (by omega) hs (fun _ => ?_) (fun h => absurd rfl h) (fun h => absurd rfl h))
      refine r_if_eq C dM_gets_33 (by omega) (fun b33 => ?_) (fun b33 => ?_)
      · omega
      · refine r_lk C dM_gets_36 ?_
        exact r_lret C dM_gets_37 rfl (Nat.le_of_ble_eq_true rfl) (Nat.le_of_ble_eq_true rfl) (by first | exact h1 (by omega) | exact h2 (by omega) (by omega) | (have h9 := hn (by omega) (by omega); first | (rw [if_pos (by omega)] at h9; exact h9) | (rw [if_neg (by omega), if_pos (by omega)] at h9; exact h9) | (rw [if_neg (by omega), if_neg (by omega)] at h9; exact h9)))
    · omega
