set_option maxRecDepth 100000 in
set_option maxHeartbeats 4000000 in
theorem cM_told {g : ed_g} {l : Launch} (hl : l.stackTraces = false) {I : ed_I} {L : ed_L} {c w : Int} (rc : -2147483648 ≤ c ∧ c ≤ 2147483647) (rw : -2147483648 ≤ w ∧ w ≤ 2147483647) (hs : I 79 3 = 0 ∨ I 79 3 = 1) (hg : ∀ j, 1 ≤ j → j ≤ 40 → -1 ≤ I 95 j ∧ I 95 j ≤ 100000) (hst : ∀ j, 1 ≤ j → j ≤ 40 → -1 ≤ I 94 j ∧ I 94 j ≤ 3) {post : ed_post} (h1 : ¬ ((1 ≤ c ∧ c ≤ 40) ∧ 0 ≤ w ∧ w ≤ 4) → post (.inl (some (.long (lZ 0)))) Yw (upI I 79 0 1) L) (h2 : ((1 ≤ c ∧ c ≤ 40) ∧ 0 ≤ w ∧ w ≤ 4) → ¬ (I 79 3 ≠ 0) → post (.inl (some (.long (lZ 0)))) Yw (upI I 79 0 2) L) (hn : ((1 ≤ c ∧ c ≤ 40) ∧ 0 ≤ w ∧ w ≤ 4) → (I 79 3 ≠ 0) → post (.inl (some (.long (lZ (if I 94 c ≠ 0 ∧ I 94 c ≠ 3 then 0 else if w = 0 then L 98 c else if w = 1 then L 99 c else if w = 2 then L 97 c else if w = 3 then L 100 c else I 95 c))))) Yw (upI I 79 0 0) L) : ed_Ct g l mM_told 3 0 0 [.ref 79, .int (iZ c), .int (iZ w)] Yw I L post := by
  refine ed_Ct.of hl rfl (Nat.le_of_ble_eq_true rfl) (fun x _ C => ?_)
  show Gd g x post _ _ _ _ _ _ _ _ 0 [(0, _), (1, _), (2, _)] []
  have hg2 := fun (h : 1 ≤ c ∧ c ≤ 40) => hg c h.1 h.2
  have hst2 := fun (h : 1 ≤ c ∧ c ≤ 40) => hst c h.1 h.2
  have e1 : upI I 79 0 0 94 c = I 94 c := rfl
  have e2 : upI I 79 0 0 95 c = I 95 c := rfl
  refine r_ald C dM_told_0 rfl ?_
  refine r_ild C dM_told_1 rfl ?_
  refine r_callS C lzM_isId dM_told_2 [_] [_] rfl rfl (Nat.le_of_ble_eq_true rfl) ⟨(Nat.le_of_ble_eq_true rfl), (Nat.le_of_ble_eq_true rfl), (Nat.le_of_ble_eq_true rfl), (Nat.le_of_ble_eq_true rfl)⟩ rfl (cM_isId C.2.2.2.2.2.1 (by omega) (fun b2 => ?_) (fun b2 => ?_))
  · refine r_if_eq C dM_told_5 (by omega) (fun b5 => ?_) (fun b5 => ?_)
    · omega
    · refine r_ild C dM_told_8 rfl ?_
      refine r_i2l C dM_told_9 (by omega) ?_
      refine r_lk C dM_told_10 ?_
      refine r_lk C dM_told_11 ?_
      refine r_callS C lzM_isIn dM_told_14 [_, _, _] [_] rfl rfl (Nat.le_of_ble_eq_true rfl) ⟨(Nat.le_of_ble_eq_true rfl), (Nat.le_of_ble_eq_true rfl), (Nat.le_of_ble_eq_true rfl), (Nat.le_of_ble_eq_true rfl)⟩ rfl (cM_isIn C.2.2.2.2.2.1 (by omega) (fun b14 => ?_) (fun b14 => ?_))
      · refine r_if_eq C dM_told_17 (by omega) (fun b17 => ?_) (fun b17 => ?_)
        · omega
        · refine r_ik C dM_told_20 ?_
          refine r_goto C dM_told_21 ?_
          refine r_callV C lzM_isWrong dM_told_25 _ [_] [] rfl rfl rfl rfl rfl (Nat.le_of_ble_eq_true rfl) ⟨(Nat.le_of_ble_eq_true rfl), (Nat.le_of_ble_eq_true rfl), (Nat.le_of_ble_eq_true rfl), (Nat.le_of_ble_eq_true rfl)⟩ rfl (cM_isWrong C.2.2.2.2.2.1 (by omega) hs (fun h => absurd h (by decide)) (fun _ b25 => ?_) (fun _ b25 => ?_))
          · refine r_if_eq C dM_told_28 (by omega) (fun b28 => ?_) (fun b28 => ?_)
            · omega
            · refine r_lk C dM_told_31 ?_
              exact r_lret C dM_told_32 rfl (Nat.le_of_ble_eq_true rfl) (Nat.le_of_ble_eq_true rfl) (by first | exact h1 (by omega) | exact h2 (by omega) (by omega) | (have h9 := hn (by omega) (by omega); first | (rw [if_pos (by omega)] at h9; exact h9) | (rw [if_neg (by omega)] at h9; exact h9)))
          · refine r_if_eq C dM_told_28 (by omega) (fun b28 => ?_) (fun b28 => ?_)
            · refine r_ald C dM_told_33 rfl ?_
              refine r_getR C dM_told_34 rfl rfl ?_
              refine r_ild C dM_told_37 rfl ?_
              refine r_iald C dM_told_38 rfl ⟨by omega, by omega⟩ (by decide) ?_
              refine r_if_eq C dM_told_39 (by omega) (fun b39 => ?_) (fun b39 => ?_)
              · refine r_ild C dM_told_54 rfl ?_
                rcases (show w = 0 ∨ w = 1 ∨ w = 2 ∨ w = 3 ∨ w = 4 by omega) with rfl | rfl | rfl | rfl | rfl
                · refine r_sw C (by omega) dM_told_55 (off := 29) (t := 84) (by decide) (by decide) rfl rfl ?_
                  refine r_ald C dM_told_84 rfl ?_
                  refine r_getR C dM_told_85 rfl rfl ?_
                  refine r_ild C dM_told_88 rfl ?_
                  refine r_lald C dM_told_89 rfl ⟨by omega, by omega⟩ (by decide) ?_
                  exact r_lret C dM_told_90 rfl (Nat.le_of_ble_eq_true rfl) (Nat.le_of_ble_eq_true rfl) (by first | exact h1 (by omega) | exact h2 (by omega) (by omega) | (have h9 := hn (by omega) (by omega); first | (rw [if_pos (by omega)] at h9; exact h9) | (rw [if_neg (by omega)] at h9; exact h9)))
                · refine r_sw C (by omega) dM_told_55 (off := 36) (t := 91) (by decide) (by decide) rfl rfl ?_
                  refine r_ald C dM_told_91 rfl ?_
                  refine r_getR C dM_told_92 rfl rfl ?_
                  refine r_ild C dM_told_95 rfl ?_
                  refine r_lald C dM_told_96 rfl ⟨by omega, by omega⟩ (by decide) ?_
                  exact r_lret C dM_told_97 rfl (Nat.le_of_ble_eq_true rfl) (Nat.le_of_ble_eq_true rfl) (by first | exact h1 (by omega) | exact h2 (by omega) (by omega) | (have h9 := hn (by omega) (by omega); first | (rw [if_pos (by omega)] at h9; exact h9) | (rw [if_neg (by omega)] at h9; exact h9)))
                · refine r_sw C (by omega) dM_told_55 (off := 43) (t := 98) (by decide) (by decide) rfl rfl ?_
                  refine r_ald C dM_told_98 rfl ?_
                  refine r_getR C dM_told_99 rfl rfl ?_
                  refine r_ild C dM_told_102 rfl ?_
                  refine r_lald C dM_told_103 rfl ⟨by omega, by omega⟩ (by decide) ?_
                  exact r_lret C dM_told_104 rfl (Nat.le_of_ble_eq_true rfl) (Nat.le_of_ble_eq_true rfl) (by first | exact h1 (by omega) | exact h2 (by omega) (by omega) | (have h9 := hn (by omega) (by omega); first | (rw [if_pos (by omega)] at h9; exact h9) | (rw [if_neg (by omega)] at h9; exact h9)))
                · refine r_sw C (by omega) dM_told_55 (off := 50) (t := 105) (by decide) (by decide) rfl rfl ?_
                  refine r_ald C dM_told_105 rfl ?_
                  refine r_getR C dM_told_106 rfl rfl ?_
                  refine r_ild C dM_told_109 rfl ?_
                  refine r_lald C dM_told_110 rfl ⟨by omega, by omega⟩ (by decide) ?_
                  exact r_lret C dM_told_111 rfl (Nat.le_of_ble_eq_true rfl) (Nat.le_of_ble_eq_true rfl) (by first | exact h1 (by omega) | exact h2 (by omega) (by omega) | (have h9 := hn (by omega) (by omega); first | (rw [if_pos (by omega)] at h9; exact h9) | (rw [if_neg (by omega)] at h9; exact h9)))
                · refine r_swD C (by omega) dM_told_55 (t := 112) (by decide) rfl ?_
                  refine r_ald C dM_told_112 rfl ?_
                  refine r_getR C dM_told_113 rfl rfl ?_
                  refine r_ild C dM_told_116 rfl ?_
                  refine r_iald C dM_told_117 rfl ⟨by omega, by omega⟩ (by decide) ?_
                  refine r_i2l C dM_told_118 (by omega) ?_
                  exact r_lret C dM_told_119 rfl (Nat.le_of_ble_eq_true rfl) (Nat.le_of_ble_eq_true rfl) (by first | exact h1 (by omega) | exact h2 (by omega) (by omega) | (have h9 := hn (by omega) (by omega); first | (rw [if_pos (by omega)] at h9; exact h9) | (rw [if_neg (by omega)] at h9; exact h9)))
              · refine r_ald C dM_told_42 rfl ?_
                refine r_getR C dM_told_43 rfl rfl ?_
                refine r_ild C dM_told_46 rfl ?_
                refine r_iald C dM_told_47 rfl ⟨by omega, by omega⟩ (by decide) ?_
                refine r_ik C dM_told_48 ?_
                refine r_icmp_eq C dM_told_49 (by omega) (fun b49 => ?_) (fun b49 => ?_)
                · refine r_ild C dM_told_54 rfl ?_
                  rcases (show w = 0 ∨ w = 1 ∨ w = 2 ∨ w = 3 ∨ w = 4 by omega) with rfl | rfl | rfl | rfl | rfl
                  · refine r_sw C (by omega) dM_told_55 (off := 29) (t := 84) (by decide) (by decide) rfl rfl ?_
                    refine r_ald C dM_told_84 rfl ?_
                    refine r_getR C dM_told_85 rfl rfl ?_
                    refine r_ild C dM_told_88 rfl ?_
                    refine r_lald C dM_told_89 rfl ⟨by omega, by omega⟩ (by decide) ?_
                    exact r_lret C dM_told_90 rfl (Nat.le_of_ble_eq_true rfl) (Nat.le_of_ble_eq_true rfl) (by first | exact h1 (by omega) | exact h2 (by omega) (by omega) | (have h9 := hn (by omega) (by omega); first | (rw [if_pos (by omega)] at h9; exact h9) | (rw [if_neg (by omega)] at h9; exact h9)))
                  · refine r_sw C (by omega) dM_told_55 (off := 36) (t := 91) (by decide) (by decide) rfl rfl ?_
                    refine r_ald C dM_told_91 rfl ?_
                    refine r_getR C dM_told_92 rfl rfl ?_
                    refine r_ild C dM_told_95 rfl ?_
                    refine r_lald C dM_told_96 rfl ⟨by omega, by omega⟩ (by decide) ?_
                    exact r_lret C dM_told_97 rfl (Nat.le_of_ble_eq_true rfl) (Nat.le_of_ble_eq_true rfl) (by first | exact h1 (by omega) | exact h2 (by omega) (by omega) | (have h9 := hn (by omega) (by omega); first | (rw [if_pos (by omega)] at h9; exact h9) | (rw [if_neg (by omega)] at h9; exact h9)))
                  · refine r_sw C (by omega) dM_told_55 (off := 43) (t := 98) (by decide) (by decide) rfl rfl ?_
                    refine r_ald C dM_told_98 rfl ?_
                    refine r_getR C dM_told_99 rfl rfl ?_
                    refine r_ild C dM_told_102 rfl ?_
                    refine r_lald C dM_told_103 rfl ⟨by omega, by omega⟩ (by decide) ?_
                    exact r_lret C dM_told_104 rfl (Nat.le_of_ble_eq_true rfl) (Nat.le_of_ble_eq_true rfl) (by first | exact h1 (by omega) | exact h2 (by omega) (by omega) | (have h9 := hn (by omega) (by omega); first | (rw [if_pos (by omega)] at h9; exact h9) | (rw [if_neg (by omega)] at h9; exact h9)))
                  · refine r_sw C (by omega) dM_told_55 (off := 50) (t := 105) (by decide) (by decide) rfl rfl ?_
                    refine r_ald C dM_told_105 rfl ?_
                    refine r_getR C dM_told_106 rfl rfl ?_
                    refine r_ild C dM_told_109 rfl ?_
                    refine r_lald C dM_told_110 rfl ⟨by omega, by omega⟩ (by decide) ?_
                    exact r_lret C dM_told_111 rfl (Nat.le_of_ble_eq_true rfl) (Nat.le_of_ble_eq_true rfl) (by first | exact h1 (by omega) | exact h2 (by omega) (by omega) | (have h9 := hn (by omega) (by omega); first | (rw [if_pos (by omega)] at h9; exact h9) | (rw [if_neg (by omega)] at h9; exact h9)))
                  · refine r_swD C (by omega) dM_told_55 (t := 112) (by decide) rfl ?_
                    refine r_ald C dM_told_112 rfl ?_
                    refine r_getR C dM_told_113 rfl rfl ?_
                    refine r_ild C dM_told_116 rfl ?_
                    refine r_iald C dM_told_117 rfl ⟨by omega, by omega⟩ (by decide) ?_
                    refine r_i2l C dM_told_118 (by omega) ?_
                    exact r_lret C dM_told_119 rfl (Nat.le_of_ble_eq_true rfl) (Nat.le_of_ble_eq_true rfl) (by first | exact h1 (by omega) | exact h2 (by omega) (by omega) | (have h9 := hn (by omega) (by omega); first | (rw [if_pos (by omega)] at h9; exact h9) | (rw [if_neg (by omega)] at h9; exact h9)))
                · refine r_lk C dM_told_52 ?_
                  exact r_lret C dM_told_53 rfl (Nat.le_of_ble_eq_true rfl) (Nat.le_of_ble_eq_true rfl) (by first | exact h1 (by omega) | exact h2 (by omega) (by omega) | (have h9 := hn (by omega) (by omega); first | (rw [if_pos (by omega)] at h9; exact h9) | (rw [if_neg (by omega)] at h9; exact h9)))
            · omega
      · refine r_if_eq C dM_told_17 (by omega) (fun b17 => ?_) (fun b17 => ?_)
        · refine r_ik C dM_told_24 ?_
          refine r_callV C lzM_isWrong dM_told_25 _ [_] [] rfl rfl rfl rfl rfl (Nat.le_of_ble_eq_true rfl) ⟨(Nat.le_of_ble_eq_true rfl), (Nat.le_of_ble_eq_true rfl), (Nat.le_of_ble_eq_true rfl), (Nat.le_of_ble_eq_true rfl)⟩ rfl (cM_isWrong C.2.2.2.2.2.1 (by omega) hs (fun _ => ?_) (fun h => absurd rfl h) (fun h => absurd rfl h))
          refine r_if_eq C dM_told_28 (by omega) (fun b28 => ?_) (fun b28 => ?_)
          · omega
          · refine r_lk C dM_told_31 ?_
            exact r_lret C dM_told_32 rfl (Nat.le_of_ble_eq_true rfl) (Nat.le_of_ble_eq_true rfl) (by first | exact h1 (by omega) | exact h2 (by omega) (by omega) | (have h9 := hn (by omega) (by omega); first | (rw [if_pos (by omega)] at h9; exact h9) | (rw [if_neg (by omega)] at h9; exact h9)))
        · omega
  · refine r_if_eq C dM_told_5 (by omega) (fun b5 => ?_) (fun b5 => ?_)
    · refine r_ik C dM_told_24 ?_
      refine r_callV C lzM_isWrong dM_told_25 _ [_] [] rfl rfl rfl rfl rfl (Nat.le_of_ble_eq_true rfl) ⟨(Nat.le_of_ble_eq_true rfl), (Nat.le_of_ble_eq_true rfl), (Nat.le_of_ble_eq_true rfl), (Nat.le_of_ble_eq_true rfl)⟩ rfl (cM_isWrong C.2.2.2.2.2.1 (by omega) hs (fun _ => ?_) (fun h => absurd rfl h) (fun h => absurd rfl h))
      refine r_if_eq C dM_told_28 (by omega) (fun b28 => ?_) (fun b28 => ?_)
      · omega
      · refine r_lk C dM_told_31 ?_
        exact r_lret C dM_told_32 rfl (Nat.le_of_ble_eq_true rfl) (Nat.le_of_ble_eq_true rfl) (by first | exact h1 (by omega) | exact h2 (by omega) (by omega) | (have h9 := hn (by omega) (by omega); first | (rw [if_pos (by omega)] at h9; exact h9) | (rw [if_neg (by omega)] at h9; exact h9)))
    · omega
set_option maxRecDepth 100000 in
set_option maxHeartbeats 4000000 in
theorem cM_close {g : ed_g} {l : Launch} (hl : l.stackTraces = false) {I : ed_I} {L : ed_L} (hc : I 79 2 = 0 ∨ I 79 2 = 1) (hf : I 79 4 = 0 ∨ I 79 4 = 1) {post : ed_post} (h1 : (I 79 2 ≠ 0 ∨ I 79 4 = 0) → post (.inl none) Yw (upI I 79 0 1) L) (hn : I 79 2 = 0 ∧ I 79 4 ≠ 0 → post (.inl none) Yw (upI (upI I 79 0 0) 79 2 1) L) : ed_Ct g l mM_close 1 0 0 [.ref 79] Yw I L post := by
  refine ed_Ct.of hl rfl (Nat.le_of_ble_eq_true rfl) (fun x _ C => ?_)
  show Gd g x post _ _ _ _ _ _ _ _ 0 [(0, _)] []
  refine r_ald C dM_close_0 rfl ?_
  refine r_ald C dM_close_1 rfl ?_
  refine r_getI (z := 2) C dM_close_2 rfl rfl rfl ?_
  refine r_if_ne C dM_close_5 (by omega) (fun b5 => ?_) (fun b5 => ?_)
  · refine r_ik C dM_close_15 ?_
    refine r_goto C dM_close_16 ?_
    refine r_callV C lzM_refused dM_close_20 _ [_] [] rfl rfl rfl rfl rfl (Nat.le_of_ble_eq_true rfl) ⟨(Nat.le_of_ble_eq_true rfl), (Nat.le_of_ble_eq_true rfl), (Nat.le_of_ble_eq_true rfl), (Nat.le_of_ble_eq_true rfl)⟩ rfl (cM_refused C.2.2.2.2.2.1 (by omega) (fun _ => ?_) (fun h => absurd h (by decide)))
    refine r_if_ne C dM_close_23 (by omega) (fun b23 => ?_) (fun b23 => ?_)
    · exact r_vret C dM_close_31 rfl (Nat.le_of_ble_eq_true rfl) (Nat.le_of_ble_eq_true rfl) (by first | exact h1 (by omega) | exact hn (by omega))
    · omega
  · refine r_ald C dM_close_8 rfl ?_
    refine r_getI (z := 4) C dM_close_9 rfl rfl rfl ?_
    refine r_if_ne C dM_close_12 (by omega) (fun b12 => ?_) (fun b12 => ?_)
    · refine r_ik C dM_close_19 ?_
      refine r_callV C lzM_refused dM_close_20 _ [_] [] rfl rfl rfl rfl rfl (Nat.le_of_ble_eq_true rfl) ⟨(Nat.le_of_ble_eq_true rfl), (Nat.le_of_ble_eq_true rfl), (Nat.le_of_ble_eq_true rfl), (Nat.le_of_ble_eq_true rfl)⟩ rfl (cM_refused C.2.2.2.2.2.1 (by omega) (fun h => absurd h (by decide)) (fun _ => ?_))
      refine r_if_ne C dM_close_23 (by omega) (fun b23 => ?_) (fun b23 => ?_)
      · omega
      · refine r_ald C dM_close_26 rfl ?_
        refine r_ik C dM_close_27 ?_
        refine r_putI (z := 2) C dM_close_28 rfl rfl rfl rfl (ed_pz7_2 (by omega)) ?_
        exact r_vret C dM_close_31 rfl (Nat.le_of_ble_eq_true rfl) (Nat.le_of_ble_eq_true rfl) (by first | exact h1 (by omega) | exact hn (by omega))
    · refine r_ik C dM_close_15 ?_
      refine r_goto C dM_close_16 ?_
      refine r_callV C lzM_refused dM_close_20 _ [_] [] rfl rfl rfl rfl rfl (Nat.le_of_ble_eq_true rfl) ⟨(Nat.le_of_ble_eq_true rfl), (Nat.le_of_ble_eq_true rfl), (Nat.le_of_ble_eq_true rfl), (Nat.le_of_ble_eq_true rfl)⟩ rfl (cM_refused C.2.2.2.2.2.1 (by omega) (fun _ => ?_) (fun h => absurd h (by decide)))
      refine r_if_ne C dM_close_23 (by omega) (fun b23 => ?_) (fun b23 => ?_)
      · exact r_vret C dM_close_31 rfl (Nat.le_of_ble_eq_true rfl) (Nat.le_of_ble_eq_true rfl) (by first | exact h1 (by omega) | exact hn (by omega))
      · omega
set_option maxRecDepth 100000 in
set_option maxHeartbeats 4000000 in
theorem cM_worth {g : ed_g} {l : Launch} (hl : l.stackTraces = false) {I : ed_I} {L : ed_L} {y a : Int} (ra : -2147483648 ≤ a ∧ a ≤ 2147483647) (ry : -9223372036854775808 ≤ y ∧ y ≤ 9223372036854775807) {post : ed_post} (h1 : ¬ ((0 ≤ y ∧ y ≤ 1000000000) ∧ 0 ≤ a ∧ a ≤ 99) → post (.inl (some (.long (lZ 0)))) Yw (upI I 79 0 1) L) (hn : (0 ≤ y ∧ y ≤ 1000000000) ∧ 0 ≤ a ∧ a ≤ 99 → post (.inl (some (.long (lZ (anV y a))))) Yw (upI I 79 0 0) L) : ed_Ct g l mM_worth 2 0 0 [.ref 79, .long (lZ y), .int (iZ a)] Yw I L post := by
  refine ed_Ct.of hl rfl (Nat.le_of_ble_eq_true rfl) (fun x _ C => ?_)
  show Gd g x post _ _ _ _ _ _ _ _ 0 [(0, _), (1, _), (3, _)] []
  refine r_lld C dM_worth_0 rfl ?_
  refine r_lk C dM_worth_1 ?_
  refine r_lk C dM_worth_2 ?_
  refine r_callS C lzM_isIn dM_worth_5 [_, _, _] [] rfl rfl (Nat.le_of_ble_eq_true rfl) ⟨(Nat.le_of_ble_eq_true rfl), (Nat.le_of_ble_eq_true rfl), (Nat.le_of_ble_eq_true rfl), (Nat.le_of_ble_eq_true rfl)⟩ rfl (cM_isIn C.2.2.2.2.2.1 (by omega) (fun b5 => ?_) (fun b5 => ?_))
  · refine r_if_eq C dM_worth_8 (by omega) (fun b8 => ?_) (fun b8 => ?_)
    · omega
    · refine r_ild C dM_worth_11 rfl ?_
      refine r_i2l C dM_worth_12 (by omega) ?_
      refine r_lk C dM_worth_13 ?_
      refine r_lk C dM_worth_14 ?_
      refine r_callS C lzM_isIn dM_worth_17 [_, _, _] [] rfl rfl (Nat.le_of_ble_eq_true rfl) ⟨(Nat.le_of_ble_eq_true rfl), (Nat.le_of_ble_eq_true rfl), (Nat.le_of_ble_eq_true rfl), (Nat.le_of_ble_eq_true rfl)⟩ rfl (cM_isIn C.2.2.2.2.2.1 (by omega) (fun b17 => ?_) (fun b17 => ?_))
      · refine r_if_eq C dM_worth_20 (by omega) (fun b20 => ?_) (fun b20 => ?_)
        · omega
        · refine r_ik C dM_worth_23 ?_
          refine r_goto C dM_worth_24 ?_
          refine r_ist C dM_worth_28 (by decide) (ls' := [(0, _), (1, _), (3, _), (4, _)]) rfl ?_
          refine r_ald C dM_worth_30 rfl ?_
          refine r_ild C dM_worth_31 rfl ?_
          refine r_if_eq C dM_worth_33 (by omega) (fun b33 => ?_) (fun b33 => ?_)
          · omega
          · refine r_ik C dM_worth_36 ?_
            refine r_goto C dM_worth_37 ?_
            refine r_callV C lzM_refused dM_worth_41 _ [_] [] rfl rfl rfl rfl rfl (Nat.le_of_ble_eq_true rfl) ⟨(Nat.le_of_ble_eq_true rfl), (Nat.le_of_ble_eq_true rfl), (Nat.le_of_ble_eq_true rfl), (Nat.le_of_ble_eq_true rfl)⟩ rfl (cM_refused C.2.2.2.2.2.1 (by omega) (fun h => absurd h (by decide)) (fun _ => ?_))
            refine r_if_eq C dM_worth_44 (by omega) (fun b44 => ?_) (fun b44 => ?_)
            · refine r_lld C dM_worth_51 rfl ?_
              refine r_ild C dM_worth_52 rfl ?_
              refine r_callS C lzM_table dM_worth_53 [_, _] [] rfl rfl (Nat.le_of_ble_eq_true rfl) ⟨(Nat.le_of_ble_eq_true rfl), (Nat.le_of_ble_eq_true rfl), (Nat.le_of_ble_eq_true rfl), (Nat.le_of_ble_eq_true rfl)⟩ rfl (cM_table C.2.2.2.2.2.1 (by omega) (by omega) ?_)
              exact r_lret C dM_worth_56 rfl (Nat.le_of_ble_eq_true rfl) (Nat.le_of_ble_eq_true rfl) (by first | exact h1 (by omega) | exact hn (by omega))
            · omega
      · refine r_if_eq C dM_worth_20 (by omega) (fun b20 => ?_) (fun b20 => ?_)
        · refine r_ik C dM_worth_27 ?_
          refine r_ist C dM_worth_28 (by decide) (ls' := [(0, _), (1, _), (3, _), (4, _)]) rfl ?_
          refine r_ald C dM_worth_30 rfl ?_
          refine r_ild C dM_worth_31 rfl ?_
          refine r_if_eq C dM_worth_33 (by omega) (fun b33 => ?_) (fun b33 => ?_)
          · refine r_ik C dM_worth_40 ?_
            refine r_callV C lzM_refused dM_worth_41 _ [_] [] rfl rfl rfl rfl rfl (Nat.le_of_ble_eq_true rfl) ⟨(Nat.le_of_ble_eq_true rfl), (Nat.le_of_ble_eq_true rfl), (Nat.le_of_ble_eq_true rfl), (Nat.le_of_ble_eq_true rfl)⟩ rfl (cM_refused C.2.2.2.2.2.1 (by omega) (fun _ => ?_) (fun h => absurd h (by decide)))
            refine r_if_eq C dM_worth_44 (by omega) (fun b44 => ?_) (fun b44 => ?_)
            · omega
            · refine r_lk C dM_worth_47 ?_
              refine r_goto C dM_worth_48 ?_
              exact r_lret C dM_worth_56 rfl (Nat.le_of_ble_eq_true rfl) (Nat.le_of_ble_eq_true rfl) (by first | exact h1 (by omega) | exact hn (by omega))
          · omega
        · omega
  · refine r_if_eq C dM_worth_8 (by omega) (fun b8 => ?_) (fun b8 => ?_)
    · refine r_ik C dM_worth_27 ?_
      refine r_ist C dM_worth_28 (by decide) (ls' := [(0, _), (1, _), (3, _), (4, _)]) rfl ?_
      refine r_ald C dM_worth_30 rfl ?_
      refine r_ild C dM_worth_31 rfl ?_
      refine r_if_eq C dM_worth_33 (by omega) (fun b33 => ?_) (fun b33 => ?_)
      · refine r_ik C dM_worth_40 ?_
        refine r_callV C lzM_refused dM_worth_41 _ [_] [] rfl rfl rfl rfl rfl (Nat.le_of_ble_eq_true rfl) ⟨(Nat.le_of_ble_eq_true rfl), (Nat.le_of_ble_eq_true rfl), (Nat.le_of_ble_eq_true rfl), (Nat.le_of_ble_eq_true rfl)⟩ rfl (cM_refused C.2.2.2.2.2.1 (by omega) (fun _ => ?_) (fun h => absurd h (by decide)))
        refine r_if_eq C dM_worth_44 (by omega) (fun b44 => ?_) (fun b44 => ?_)
        · omega
        · refine r_lk C dM_worth_47 ?_
          refine r_goto C dM_worth_48 ?_
          exact r_lret C dM_worth_56 rfl (Nat.le_of_ble_eq_true rfl) (Nat.le_of_ble_eq_true rfl) (by first | exact h1 (by omega) | exact hn (by omega))
      · omega
    · omega
set_option maxRecDepth 100000 in
set_option maxHeartbeats 4000000 in
theorem cM_settle0 {g : ed_g} {l : Launch} (hl : l.stackTraces = false) {I : ed_I} {L : ed_L} (hd : I 79 1 = 0) {post : ed_post} (h1 : post (.inl (some (.long (lZ 0)))) Yw (upI I 79 0 1) L) : ed_Ct g l mM_settle 4 0 0 [.ref 79] Yw I L post := by
  refine ed_Ct.of hl rfl (Nat.le_of_ble_eq_true rfl) (fun x _ C => ?_)
  show Gd g x post _ _ _ _ _ _ _ _ 0 [(0, _)] []
  refine r_ald C dM_settle_0 rfl ?_
  refine r_ald C dM_settle_1 rfl ?_
  refine r_getI (z := 1) C dM_settle_2 rfl rfl rfl ?_
  refine r_if_ne C dM_settle_5 (by omega) (fun b5 => ?_) (fun b5 => ?_)
  · omega
  · refine r_ik C dM_settle_8 ?_
    refine r_goto C dM_settle_9 ?_
    refine r_callV C lzM_refused dM_settle_13 _ [_] [] rfl rfl rfl rfl rfl (Nat.le_of_ble_eq_true rfl) ⟨(Nat.le_of_ble_eq_true rfl), (Nat.le_of_ble_eq_true rfl), (Nat.le_of_ble_eq_true rfl), (Nat.le_of_ble_eq_true rfl)⟩ rfl (cM_refused C.2.2.2.2.2.1 (by omega) (fun _ => ?_) (fun h => absurd h (by decide)))
    refine r_if_eq C dM_settle_16 (by omega) (fun b16 => ?_) (fun b16 => ?_)
    · omega
    · refine r_lk C dM_settle_19 ?_
      exact r_lret C dM_settle_20 rfl (Nat.le_of_ble_eq_true rfl) (Nat.le_of_ble_eq_true rfl) (h1)
set_option maxRecDepth 100000 in
set_option maxHeartbeats 4000000 in
theorem cD_settle0 {g : ed_g} {l : Launch} (hl : l.stackTraces = false) {I : ed_I} {L : ed_L} (hd : I 1 0 = 0) {post : ed_post} (h1 : post (.inr ISE) Yw I L) : ed_Ct g l mD_settle 6 1 6 [.ref 0] Yw I L post := by
  refine ed_Ct.of hl rfl (Nat.le_of_ble_eq_true rfl) (fun x _ C => ?_)
  show Gd g x post _ _ _ _ _ _ _ _ 0 [(0, _)] []
  refine r_ald C dD_settle_0 rfl ?_
  refine r_getR C dD_settle_1 rfl rfl ?_
  refine r_getI (z := 0) C dD_settle_4 rfl rfl rfl ?_
  refine r_if_le C dD_settle_7 (by omega) (fun b7 => ?_) (fun b7 => ?_)
  · refine r_ik C dD_settle_14 ?_
    refine r_callS C lzD_requireState dD_settle_15 [_] [] rfl rfl (Nat.le_of_ble_eq_true rfl) ⟨(Nat.le_of_ble_eq_true rfl), (Nat.le_of_ble_eq_true rfl), (Nat.le_of_ble_eq_true rfl), (Nat.le_of_ble_eq_true rfl)⟩ rfl (cD_requireState C.2.2.2.2.2.1 rfl (by omega) (fun h => absurd rfl h) (fun _ => ?_))
    exact gx_out C rfl (Nat.le_of_ble_eq_true rfl) (Nat.le_of_ble_eq_true rfl) (h1)
  · omega
