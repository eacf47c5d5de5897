/-! the reference: states, own debts, values, sums -/
set_option maxRecDepth 100000 in
set_option maxHeartbeats 4000000 in
theorem cM_findStates {g : ed_g} {l : Launch} (hl : l.stackTraces = false) {I0 : ed_I} {L0 : ed_L} {I : ed_I} {L : ed_L} (hm : Mt I0 L0 I L) {post : ed_post} (hn : ∀ f p a b e h u : Int → Int, (∀ j, 1 ≤ j → j ≤ 40 → f j = st0 I0 j ∧ p j = sTk I0 j) → (∀ j, 1 ≤ j → j ≤ 40 → a j = 0 ∧ b j = 0 ∧ e j = 0 ∧ h j = 0 ∧ u j = 0) → post (.inl none) Yw (setR (setR I 95 p) 94 f) (setR (setR (setR (setR (setR L 96 a) 97 b) 98 e) 99 h) 100 u)) : ed_Ct g l mM_findStates 2 0 0 [.ref 79] Yw I L post := by
  refine ed_Ct.of hl rfl (Nat.le_of_ble_eq_true rfl) (fun x _ C => ?_)
  show Gd g x post _ _ _ _ _ _ _ _ 0 [(0, _)] []
  have loop : ∀ (q : Nat) (i : Int) (f p a b e h u : Int → Int), (41 - i).toNat < q → 1 ≤ i ∧ i ≤ 41 → (∀ j, 1 ≤ j → j < i → f j = st0 I0 j ∧ p j = sTk I0 j) → (∀ j, 1 ≤ j → j < i → a j = 0 ∧ b j = 0 ∧ e j = 0 ∧ h j = 0 ∧ u j = 0) → Gd g x post 0 0 mM_findStates.2.2.1 0 0 Yw (setR (setR I 95 p) 94 f) (setR (setR (setR (setR (setR L 96 a) 97 b) 98 e) 99 h) 100 u) 2 [(0, .ref 79), (1, .int (iZ i))] [] := by
    intro q
    induction q with
    | zero => intro i f p a b e h u hq; omega
    | succ q ih =>
      intro i f p a b e h u hq g1 g2 g3
      have hc1 := fun (h : i ≤ 40) => (hm.cla (j := i) (by omega) h).2.1
      have hc2 := fun (h : i ≤ 40) => (hm.cla (j := i) (by omega) h).2.2.1
      have ha1 := fun (h : i ≤ 40) => (hm.ast (j := I 86 i) (hc2 h).1 (hc2 h).2).2.2.2.2
      have ht1 := fun (h : i ≤ 40) => sTk_in hm.1 (j := i) (by omega) h
      refine r_ild C dM_findStates_2 rfl ?_
      refine r_ik C dM_findStates_3 ?_
      refine r_icmp_ge C dM_findStates_5 (by omega) (fun b5 => ?_) (fun b5 => ?_)
      · exact r_vret C dM_findStates_131 rfl (Nat.le_of_ble_eq_true rfl) (Nat.le_of_ble_eq_true rfl) (hn f p a b e h u (fun j j0 j1 => g2 j j0 (by omega)) (fun j j0 j1 => g3 j j0 (by omega)))
      · refine r_ald C dM_findStates_8 rfl ?_
        refine r_getR C dM_findStates_9 rfl rfl ?_
        refine r_ild C dM_findStates_12 rfl ?_
        refine r_ald C dM_findStates_13 rfl ?_
        refine r_ild C dM_findStates_14 rfl ?_
        refine r_callV C lzM_takerOf dM_findStates_15 _ [_] [_, _] rfl rfl rfl rfl rfl (Nat.le_of_ble_eq_true rfl) ⟨(Nat.le_of_ble_eq_true rfl), (Nat.le_of_ble_eq_true rfl), (Nat.le_of_ble_eq_true rfl), (Nat.le_of_ble_eq_true rfl)⟩ rfl (cM_takerOf (I0 := I0) (L0 := L0) C.2.2.2.2.2.1 ⟨by omega, by omega⟩ (by repeat (first | exact hm | refine Mt.sI ?_ (by decide) | refine Mt.sL ?_ (by decide) | refine Mt.uL ?_ (by decide) | refine Mt.uI ?_ (by decide))) ?_)
        refine r_iast C dM_findStates_18 rfl rfl ⟨by omega, by omega⟩ (by decide) ?_
        refine Gd.mgI (if sTk I0 i = 0 then 1 else 0) 33 (fun v33 hv33 => ?_) (fun j33 => ?_)
        · refine r_ist C dM_findStates_33 (by decide) (ls' := [(0, _), (1, _), (2, _)]) rfl ?_
          refine r_ald C dM_findStates_34 rfl ?_
          refine r_getR C dM_findStates_35 rfl rfl ?_
          refine r_ild C dM_findStates_38 rfl ?_
          refine Gd.mgI (st0 I0 i) 89 (fun v89 hv89 => ?_) (fun j89 => ?_)
          · refine r_iast C dM_findStates_89 rfl rfl ⟨by omega, by omega⟩ (by decide) ?_
            refine r_ald C dM_findStates_90 rfl ?_
            refine r_getR C dM_findStates_91 rfl rfl ?_
            refine r_ild C dM_findStates_94 rfl ?_
            refine r_lk C dM_findStates_95 ?_
            refine r_last C dM_findStates_96 rfl rfl ⟨by omega, by omega⟩ (by decide) ?_
            refine r_ald C dM_findStates_97 rfl ?_
            refine r_getR C dM_findStates_98 rfl rfl ?_
            refine r_ild C dM_findStates_101 rfl ?_
            refine r_lk C dM_findStates_102 ?_
            refine r_last C dM_findStates_103 rfl rfl ⟨by omega, by omega⟩ (by decide) ?_
            refine r_ald C dM_findStates_104 rfl ?_
            refine r_getR C dM_findStates_105 rfl rfl ?_
            refine r_ild C dM_findStates_108 rfl ?_
            refine r_lk C dM_findStates_109 ?_
            refine r_last C dM_findStates_110 rfl rfl ⟨by omega, by omega⟩ (by decide) ?_
            refine r_ald C dM_findStates_111 rfl ?_
            refine r_getR C dM_findStates_112 rfl rfl ?_
            refine r_ild C dM_findStates_115 rfl ?_
            refine r_lk C dM_findStates_116 ?_
            refine r_last C dM_findStates_117 rfl rfl ⟨by omega, by omega⟩ (by decide) ?_
            refine r_ald C dM_findStates_118 rfl ?_
            refine r_getR C dM_findStates_119 rfl rfl ?_
            refine r_ild C dM_findStates_122 rfl ?_
            refine r_lk C dM_findStates_123 ?_
            refine r_last C dM_findStates_124 rfl rfl ⟨by omega, by omega⟩ (by decide) ?_
            refine r_iinc C dM_findStates_125 (by decide) rfl (ls' := [(0, _), (1, _), (2, _)]) rfl ?_
            refine r_goto C dM_findStates_128 ?_
            refine Gd.drop (ls := [_, _]) (ls2 := [_]) ?_
            simp only [up_eq, up_ne, rd, rdU, rowS, rowU, rowE, ne_eq, Nat.reduceEqDiff, Int.reduceEq, not_false_eq_true, true_and, false_and, and_true, and_false, ↓reduceIte]
            refine ih (i + 1) _ _ _ _ _ _ _ (dn hq (by omega)) ⟨by omega, by omega⟩ (fun j j0 j1 => ?_) (fun j j0 j1 => ?_)
            · by_cases e9 : j = i
              · subst e9; rw [up1_s, up1_s]; exact ⟨hv89, rfl⟩
              · rw [up1_o _ e9, up1_o _ e9]; exact g2 j j0 (by omega)
            · by_cases e9 : j = i
              · subst e9; rw [up1_s, up1_s, up1_s, up1_s, up1_s]; exact ⟨rfl, rfl, rfl, rfl, rfl⟩
              · rw [up1_o _ e9, up1_o _ e9, up1_o _ e9, up1_o _ e9, up1_o _ e9]; exact g3 j j0 (by omega)
          · refine r_ald C dM_findStates_39 rfl ?_
            refine r_getR C dM_findStates_40 rfl rfl ?_
            refine r_ild C dM_findStates_43 rfl ?_
            refine r_iald C dM_findStates_44 rfl ⟨by omega, by omega⟩ (by decide) ?_
            try simp only [rd, rdU, rowS, rowU, rowE, ne_eq, not_false_eq_true, Nat.reduceEqDiff, Int.reduceEq, true_and, false_and, and_true, and_false, and_self, ↓reduceIte]
            refine r_if_ne C dM_findStates_45 (by omega) (fun b45 => ?_) (fun b45 => ?_)
            · refine r_ild C dM_findStates_52 rfl ?_
              refine r_if_eq C dM_findStates_53 (by omega) (fun b53 => ?_) (fun b53 => ?_)
              · refine r_ald C dM_findStates_60 rfl ?_
                refine r_getR C dM_findStates_61 rfl rfl ?_
                refine r_ild C dM_findStates_64 rfl ?_
                refine r_iald C dM_findStates_65 rfl ⟨by omega, by omega⟩ (by decide) ?_
                try simp only [rd, rdU, rowS, rowU, rowE, ne_eq, not_false_eq_true, Nat.reduceEqDiff, Int.reduceEq, true_and, false_and, and_true, and_false, and_self, ↓reduceIte]
                refine r_ik C dM_findStates_66 ?_
                refine r_icmp_ne C dM_findStates_67 (by omega) (fun b67 => ?_) (fun b67 => ?_)
                · refine r_ik C dM_findStates_88 ?_
                  exact j89 _ (by have hst9 : st0 I0 i = (if I0 15 i = 0 then -1 else if sTk I0 i = 0 then 1 else if I0 15 i = 1 ∧ I0 10 (I0 17 i) ≠ 0 then 2 else 0) := rfl; have hg1 := hm.gn (j := i) (by omega) (by omega); have hc9 := (hm.cla (j := i) (by omega) (by omega)).1; clear ha1 hc2; rw [hst9]; omega)
                · refine r_ald C dM_findStates_70 rfl ?_
                  refine r_getR C dM_findStates_71 rfl rfl ?_
                  refine r_ald C dM_findStates_74 rfl ?_
                  refine r_getR C dM_findStates_75 rfl rfl ?_
                  refine r_ild C dM_findStates_78 rfl ?_
                  refine r_iald C dM_findStates_79 rfl ⟨by omega, by omega⟩ (by decide) ?_
                  try simp only [rd, rdU, rowS, rowU, rowE, ne_eq, not_false_eq_true, Nat.reduceEqDiff, Int.reduceEq, true_and, false_and, and_true, and_false, and_self, ↓reduceIte]
                  refine r_zald C dM_findStates_80 rfl ⟨by omega, by omega⟩ (by decide) ?_
                  try simp only [rd, rdU, rowS, rowU, rowE, ne_eq, not_false_eq_true, Nat.reduceEqDiff, Int.reduceEq, true_and, false_and, and_true, and_false, and_self, ↓reduceIte]
                  refine r_if_eq C dM_findStates_81 (by omega) (fun b81 => ?_) (fun b81 => ?_)
                  · refine r_ik C dM_findStates_88 ?_
                    exact j89 _ (by have hst9 : st0 I0 i = (if I0 15 i = 0 then -1 else if sTk I0 i = 0 then 1 else if I0 15 i = 1 ∧ I0 10 (I0 17 i) ≠ 0 then 2 else 0) := rfl; have hg1 := hm.gn (j := i) (by omega) (by omega); have hc9 := (hm.cla (j := i) (by omega) (by omega)).1; clear ha1 hc2; rw [hst9]; omega)
                  · refine r_ik C dM_findStates_84 ?_
                    refine r_goto C dM_findStates_85 ?_
                    exact j89 _ (by have hst9 : st0 I0 i = (if I0 15 i = 0 then -1 else if sTk I0 i = 0 then 1 else if I0 15 i = 1 ∧ I0 10 (I0 17 i) ≠ 0 then 2 else 0) := rfl; have hg1 := hm.gn (j := i) (by omega) (by omega); have hc9 := (hm.cla (j := i) (by omega) (by omega)).1; clear ha1 hc2; rw [hst9]; omega)
              · refine r_ik C dM_findStates_56 ?_
                refine r_goto C dM_findStates_57 ?_
                exact j89 _ (by have hst9 : st0 I0 i = (if I0 15 i = 0 then -1 else if sTk I0 i = 0 then 1 else if I0 15 i = 1 ∧ I0 10 (I0 17 i) ≠ 0 then 2 else 0) := rfl; have hg1 := hm.gn (j := i) (by omega) (by omega); have hc9 := (hm.cla (j := i) (by omega) (by omega)).1; clear ha1 hc2; rw [hst9]; omega)
            · refine r_ik C dM_findStates_48 ?_
              refine r_goto C dM_findStates_49 ?_
              exact j89 _ (by have hst9 : st0 I0 i = (if I0 15 i = 0 then -1 else if sTk I0 i = 0 then 1 else if I0 15 i = 1 ∧ I0 10 (I0 17 i) ≠ 0 then 2 else 0) := rfl; have hg1 := hm.gn (j := i) (by omega) (by omega); have hc9 := (hm.cla (j := i) (by omega) (by omega)).1; clear ha1 hc2; rw [hst9]; omega)
        · refine r_ald C dM_findStates_19 rfl ?_
          refine r_getR C dM_findStates_20 rfl rfl ?_
          refine r_ild C dM_findStates_23 rfl ?_
          refine r_iald C dM_findStates_24 rfl ⟨by omega, by omega⟩ (by decide) ?_
          try simp only [rd, rdU, rowS, rowU, rowE, ne_eq, not_false_eq_true, Nat.reduceEqDiff, Int.reduceEq, true_and, false_and, and_true, and_false, and_self, ↓reduceIte]
          refine r_if_ne C dM_findStates_25 (by omega) (fun b25 => ?_) (fun b25 => ?_)
          · refine r_ik C dM_findStates_32 ?_
            exact j33 _ (by omega)
          · refine r_ik C dM_findStates_28 ?_
            refine r_goto C dM_findStates_29 ?_
            exact j33 _ (by omega)
  refine r_ik C dM_findStates_0 ?_
  refine r_ist C dM_findStates_1 (by decide) (ls' := [(0, _), (1, _)]) rfl ?_
  have h := loop 50 1 (I 94) (I 95) (L 96) (L 97) (L 98) (L 99) (L 100) (by omega) (by omega) (fun j j0 j1 => by omega) (fun j j0 j1 => by omega)
  rw [setR_id, setR_id, setR_id, setR_id, setR_id, setR_id, setR_id] at h
  exact h
set_option maxRecDepth 100000 in
set_option maxHeartbeats 4000000 in
theorem cM_findOwn {g : ed_g} {l : Launch} (hl : l.stackTraces = false) {I0 : ed_I} {L0 : ed_L} {I : ed_I} {L : ed_L} (hm : Mt I0 L0 I L) (hs : ∀ j, 1 ≤ j → j ≤ 40 → I 94 j = st0 I0 j) {post : ed_post} (hn : ∀ f p : Int → Int, (∀ j, 1 ≤ j → j ≤ 40 → f j = sOwn I0 L0 j ∧ p j = sOrd I0 L0 j) → post (.inl none) Yw I (setR (setR L 101 f) 102 p)) : ed_Ct g l mM_findOwn 2 0 0 [.ref 79] Yw I L post := by
  refine ed_Ct.of hl rfl (Nat.le_of_ble_eq_true rfl) (fun x _ C => ?_)
  show Gd g x post _ _ _ _ _ _ _ _ 0 [(0, _)] []
  have loop : ∀ (q : Nat) (i : Int) (f p : Int → Int), (41 - i).toNat < q → 1 ≤ i ∧ i ≤ 41 → (∀ j, 1 ≤ j → j < i → f j = sOwn I0 L0 j ∧ p j = sOrd I0 L0 j) → Gd g x post 0 0 mM_findOwn.2.2.1 0 0 Yw I (setR (setR L 101 f) 102 p) 2 [(0, .ref 79), (1, .int (iZ i))] [] := by
    intro q
    induction q with
    | zero => intro i f p hq; omega
    | succ q ih =>
      intro i f p hq g1 g2
      have hd1 := fun (h : i ≤ 40) => hm.d91 (j := i) (by omega) h
      refine r_ild C dM_findOwn_2 rfl ?_
      refine r_ik C dM_findOwn_3 ?_
      refine r_icmp_ge C dM_findOwn_5 (by omega) (fun b5 => ?_) (fun b5 => ?_)
      · exact r_vret C dM_findOwn_199 rfl (Nat.le_of_ble_eq_true rfl) (Nat.le_of_ble_eq_true rfl) (hn f p (fun j j0 j1 => g2 j j0 (by omega)))
      · refine Gd.mgI (if I 91 i = 0 then 0 else sGv I0 (I 93 i)) 31 (fun v31 hv31 => ?_) (fun j31 => ?_)
        · obtain ⟨-, -, d3, d4, -, -⟩ := hm.dbt (j := i) (by omega) (by omega)
          replace hd1 := hd1 (by omega)
          have oc := own_c hm (i := i) (by omega) hv31
          clear hv31
          refine r_ist C dM_findOwn_31 (by decide) (ls' := [(0, _), (1, _), (2, _)]) rfl ?_
          refine r_lk C dM_findOwn_32 ?_
          refine r_lst C dM_findOwn_33 (by decide) (ls' := [(0, _), (1, _), (2, _), (3, _)]) rfl ?_
          refine r_ik C dM_findOwn_34 ?_
          refine r_ist C dM_findOwn_35 (by decide) (ls' := [(0, _), (1, _), (2, _), (3, _), (5, _)]) rfl ?_
          have inner : ∀ (q2 : Nat) (k t : Int), (i - k).toNat < q2 → 1 ≤ k ∧ k ≤ i → t = sm (fun j => if I0 71 j = I0 71 i then L0 70 j else 0) (k - 1).toNat → Gd g x post 0 0 mM_findOwn.2.2.1 0 0 Yw I (setR (setR L 101 f) 102 p) 37 [(0, .ref 79), (1, .int (iZ i)), (2, .int (iZ v31)), (3, .long (lZ t)), (5, .int (iZ k))] [] := by
            intro q2
            induction q2 with
            | zero => intro k t hq2; omega
            | succ q2 ih2 =>
              intro k t hq2 k1 k2
              have e5 := hm.d91 (j := k) (by omega) (by omega)
              have e4 := (hm.dbt (j := k) (by omega) (by omega)).2.2.2.1
              have ht9 := sm_le (f := (fun j => if I0 71 j = I0 71 i then L0 70 j else 0)) (B := 1000000000000) (fun j j0 j1 => by have q := hm.dbt (j := j) (by omega) j1; show 0 ≤ (if I0 71 j = I0 71 i then L0 70 j else 0) ∧ (if I0 71 j = I0 71 i then L0 70 j else 0) ≤ 1000000000000; split <;> omega) (k - 1).toNat (by omega)
              rw [← k2] at ht9
              refine r_ild C dM_findOwn_37 rfl ?_
              refine r_ild C dM_findOwn_39 rfl ?_
              refine r_icmp_ge C dM_findOwn_40 (by omega) (fun b40 => ?_) (fun b40 => ?_)
              · have ek : k = i := by omega
                obtain ⟨oc1, oc2, oc⟩ := oc
                clear e4 e5
                have h8 := ((hb_of hm.1).1 (I0 71 i) (by omega) (by omega)).2.2.2.2.2.2.1
                obtain ⟨R, hR⟩ : ∃ R : Int, R = if sGv I0 (I0 71 i) ≠ 0 ∧ I0 18 (sGv I0 (I0 71 i)) ≠ 0 then L0 8 (I0 71 i) - t else 0 := ⟨_, rfl⟩
                have ho9 := own_eq hm.1 (d := i) (by omega)
                rw [show (i - 1).toNat = (k - 1).toNat by rw [ek], ← k2, ← hR] at ho9
                have hRb : -100000000000000 ≤ R ∧ R ≤ 100000000000000 := by rw [hR]; split <;> omega
                refine Gd.mgL (if I 91 i = 0 then 0 else R) 119 (fun v119 hv119 => ?_) (fun j119 => ?_)
                · clear oc oc2
                  obtain ⟨d1, d2, -, -, -, d6⟩ := hm.dbt (j := i) (by omega) (by omega)
                  clear hR ht9
                  refine r_lst C dM_findOwn_119 (by decide) (ls' := [(0, _), (1, _), (2, _), (3, _), (5, _)]) rfl ?_
                  refine Gd.mgL (max 0 v119) 134 (fun v134 hv134 => ?_) (fun j134 => ?_)
                  · refine r_lst C dM_findOwn_134 (by decide) (ls' := [(0, _), (1, _), (2, _), (3, _), (5, _)]) rfl ?_
                    refine Gd.mgL (L 92 i) 155 (fun v155 hv155 => ?_) (fun j155 => ?_)
                    · refine r_lst C dM_findOwn_155 (by decide) (ls' := [(0, _), (1, _), (2, _), (3, _), (5, _), (7, _)]) rfl ?_
                      refine r_ald C dM_findOwn_157 rfl ?_
                      refine r_getR C dM_findOwn_158 rfl rfl ?_
                      refine r_ild C dM_findOwn_161 rfl ?_
                      refine Gd.mgL (min v155 v134) 177 (fun v177 hv177 => ?_) (fun j177 => ?_)
                      · refine r_last C dM_findOwn_177 rfl rfl ⟨by omega, by omega⟩ (by decide) ?_
                        refine r_ald C dM_findOwn_178 rfl ?_
                        refine r_getR C dM_findOwn_179 rfl rfl ?_
                        refine r_ild C dM_findOwn_182 rfl ?_
                        refine r_lld C dM_findOwn_183 rfl ?_
                        refine r_ald C dM_findOwn_185 rfl ?_
                        refine r_getR C dM_findOwn_186 rfl rfl ?_
                        refine r_ild C dM_findOwn_189 rfl ?_
                        refine r_lald C dM_findOwn_190 rfl ⟨by omega, by omega⟩ (by decide) ?_
                        try simp only [rd, rdU, rowS, rowU, rowE, ne_eq, not_false_eq_true, Nat.reduceEqDiff, Int.reduceEq, true_and, false_and, and_true, and_false, and_self, ↓reduceIte]
                        refine r_lsub C dM_findOwn_191 ?_
                        refine r_last C dM_findOwn_192 rfl rfl ⟨by omega, by omega⟩ (by decide) ?_
                        refine r_iinc C dM_findOwn_193 (by decide) rfl (ls' := [(0, _), (1, _), (2, _), (3, _), (5, _), (7, _)]) rfl ?_
                        refine r_goto C dM_findOwn_196 ?_
                        refine Gd.drop (ls := [_, _]) (ls2 := [_, _, _, _]) ?_
                        simp only [up_eq, up_ne, rd, rdU, rowS, rowU, rowE, ne_eq, Nat.reduceEqDiff, Int.reduceEq, not_false_eq_true, true_and, false_and, and_true, and_false, ↓reduceIte]
                        refine ih (i + 1) _ _ (dn hq (by omega)) ⟨by omega, by omega⟩ (fun j j0 j1 => ?_)
                        by_cases e9 : j = i
                        · subst e9; rw [up1_s, up1_s]; show v177 = sOwn I0 L0 j ∧ v155 - v177 = L0 70 j - sOwn I0 L0 j; by_cases e8 : I 91 j = 0; (have d7 := (d6 e8).1; have o9 := sOwn_in (hb_of hm.1) (d := j) ⟨by omega, by omega⟩; clear ho9 hv119 d6; omega); (rw [if_neg e8] at hv119; have e7 : v177 = sOwn I0 L0 j := (by rw [hv177, hv155, hv134, hv119, ho9, d1]); exact ⟨e7, by rw [e7, hv155, d1]⟩)
                        · rw [up1_o _ e9, up1_o _ e9]; exact g2 j j0 (by omega)
                      · refine r_lld C dM_findOwn_162 rfl ?_
                        refine r_lld C dM_findOwn_164 rfl ?_
                        refine r_lc_ge C dM_findOwn_166 dM_findOwn_167 (by omega) (fun b167 => ?_) (fun b167 => ?_)
                        · refine r_lld C dM_findOwn_175 rfl ?_
                          exact j177 _ (by omega)
                        · refine r_lld C dM_findOwn_170 rfl ?_
                          refine r_goto C dM_findOwn_172 ?_
                          exact j177 _ (by omega)
                    · refine r_ald C dM_findOwn_136 rfl ?_
                      refine r_getR C dM_findOwn_137 rfl rfl ?_
                      refine r_ild C dM_findOwn_140 rfl ?_
                      refine r_zald C dM_findOwn_141 rfl ⟨by omega, by omega⟩ (by decide) ?_
                      try simp only [rd, rdU, rowS, rowU, rowE, ne_eq, not_false_eq_true, Nat.reduceEqDiff, Int.reduceEq, true_and, false_and, and_true, and_false, and_self, ↓reduceIte]
                      refine r_if_eq C dM_findOwn_142 (by omega) (fun b142 => ?_) (fun b142 => ?_)
                      · refine r_lk C dM_findOwn_154 ?_
                        exact j155 _ (by first | rfl | exact ((d6 (by omega)).1).symm)
                      · refine r_ald C dM_findOwn_145 rfl ?_
                        refine r_getR C dM_findOwn_146 rfl rfl ?_
                        refine r_ild C dM_findOwn_149 rfl ?_
                        refine r_lald C dM_findOwn_150 rfl ⟨by omega, by omega⟩ (by decide) ?_
                        try simp only [rd, rdU, rowS, rowU, rowE, ne_eq, not_false_eq_true, Nat.reduceEqDiff, Int.reduceEq, true_and, false_and, and_true, and_false, and_self, ↓reduceIte]
                        refine r_goto C dM_findOwn_151 ?_
                        exact j155 _ (by first | rfl | exact ((d6 (by omega)).1).symm)
                  · refine r_lld C dM_findOwn_121 rfl ?_
                    refine r_lk C dM_findOwn_123 ?_
                    refine r_lc_ge C dM_findOwn_124 dM_findOwn_125 (by omega) (fun b125 => ?_) (fun b125 => ?_)
                    · refine r_lld C dM_findOwn_132 rfl ?_
                      exact j134 _ (by omega)
                    · refine r_lk C dM_findOwn_128 ?_
                      refine r_goto C dM_findOwn_129 ?_
                      exact j134 _ (by omega)
                · refine r_ild C dM_findOwn_89 rfl ?_
                  refine r_if_le C dM_findOwn_90 (by omega) (fun b90 => ?_) (fun b90 => ?_)
                  · refine r_lk C dM_findOwn_118 ?_
                    exact j119 _ (by rw [hR]; rcases oc with oc | oc <;> (split <;> first | omega | (split <;> omega)))
                  · refine r_ald C dM_findOwn_93 rfl ?_
                    refine r_getR C dM_findOwn_94 rfl rfl ?_
                    refine r_ild C dM_findOwn_97 rfl ?_
                    refine r_zald C dM_findOwn_98 rfl ⟨by omega, by omega⟩ (by decide) ?_
                    try simp only [rd, rdU, rowS, rowU, rowE, ne_eq, not_false_eq_true, Nat.reduceEqDiff, Int.reduceEq, true_and, false_and, and_true, and_false, and_self, ↓reduceIte]
                    refine r_if_eq C dM_findOwn_99 (by omega) (fun b99 => ?_) (fun b99 => ?_)
                    · refine r_lk C dM_findOwn_118 ?_
                      exact j119 _ (by rw [hR]; rcases oc with oc | oc <;> (split <;> first | omega | (split <;> omega)))
                    · refine r_ald C dM_findOwn_102 rfl ?_
                      refine r_getR C dM_findOwn_103 rfl rfl ?_
                      refine r_ald C dM_findOwn_106 rfl ?_
                      refine r_getR C dM_findOwn_107 rfl rfl ?_
                      refine r_ild C dM_findOwn_110 rfl ?_
                      refine r_iald C dM_findOwn_111 rfl ⟨by omega, by omega⟩ (by decide) ?_
                      try simp only [rd, rdU, rowS, rowU, rowE, ne_eq, not_false_eq_true, Nat.reduceEqDiff, Int.reduceEq, true_and, false_and, and_true, and_false, and_self, ↓reduceIte]
                      refine r_lald C dM_findOwn_112 rfl ⟨by omega, by omega⟩ (by decide) ?_
                      try simp only [rd, rdU, rowS, rowU, rowE, ne_eq, not_false_eq_true, Nat.reduceEqDiff, Int.reduceEq, true_and, false_and, and_true, and_false, and_self, ↓reduceIte]
                      refine r_lld C dM_findOwn_113 rfl ?_
                      refine r_lsub C dM_findOwn_114 ?_
                      refine r_goto C dM_findOwn_115 ?_
                      exact j119 _ (by rw [hR]; rcases oc with oc | oc <;> (split <;> first | omega | (split <;> omega)))
              · refine r_ald C dM_findOwn_43 rfl ?_
                refine r_getR C dM_findOwn_44 rfl rfl ?_
                refine r_ild C dM_findOwn_47 rfl ?_
                refine r_zald C dM_findOwn_49 rfl ⟨by omega, by omega⟩ (by decide) ?_
                try simp only [rd, rdU, rowS, rowU, rowE, ne_eq, not_false_eq_true, Nat.reduceEqDiff, Int.reduceEq, true_and, false_and, and_true, and_false, and_self, ↓reduceIte]
                refine r_if_eq C dM_findOwn_50 (by omega) (fun b50 => ?_) (fun b50 => ?_)
                · refine r_lld C dM_findOwn_81 rfl ?_
                  refine r_lst C dM_findOwn_82 (by decide) (ls' := [(0, _), (1, _), (2, _), (3, _), (5, _)]) rfl ?_
                  refine r_iinc C dM_findOwn_83 (by decide) rfl (ls' := [(0, _), (1, _), (2, _), (3, _), (5, _)]) rfl ?_
                  refine r_goto C dM_findOwn_86 ?_
                  refine ih2 (k + 1) _ (dn hq2 (by omega)) ⟨by omega, by omega⟩ ?_
                  rw [sm_to _ k1.1, ← k2]
                  show _ = t + (if I0 71 k = I0 71 i then L0 70 k else 0)
                  rw [own_k hm ⟨by omega, by omega⟩ ⟨by omega, by omega⟩]
                  first | rw [if_pos ⟨by omega, by omega⟩] | (rw [if_neg (by omega)]; omega)
                · refine r_ald C dM_findOwn_53 rfl ?_
                  refine r_getR C dM_findOwn_54 rfl rfl ?_
                  refine r_ild C dM_findOwn_57 rfl ?_
                  refine r_iald C dM_findOwn_59 rfl ⟨by omega, by omega⟩ (by decide) ?_
                  try simp only [rd, rdU, rowS, rowU, rowE, ne_eq, not_false_eq_true, Nat.reduceEqDiff, Int.reduceEq, true_and, false_and, and_true, and_false, and_self, ↓reduceIte]
                  refine r_ald C dM_findOwn_60 rfl ?_
                  refine r_getR C dM_findOwn_61 rfl rfl ?_
                  refine r_ild C dM_findOwn_64 rfl ?_
                  refine r_iald C dM_findOwn_65 rfl ⟨by omega, by omega⟩ (by decide) ?_
                  try simp only [rd, rdU, rowS, rowU, rowE, ne_eq, not_false_eq_true, Nat.reduceEqDiff, Int.reduceEq, true_and, false_and, and_true, and_false, and_self, ↓reduceIte]
                  refine r_icmp_ne C dM_findOwn_66 (by omega) (fun b66 => ?_) (fun b66 => ?_)
                  · refine r_lld C dM_findOwn_81 rfl ?_
                    refine r_lst C dM_findOwn_82 (by decide) (ls' := [(0, _), (1, _), (2, _), (3, _), (5, _)]) rfl ?_
                    refine r_iinc C dM_findOwn_83 (by decide) rfl (ls' := [(0, _), (1, _), (2, _), (3, _), (5, _)]) rfl ?_
                    refine r_goto C dM_findOwn_86 ?_
                    refine ih2 (k + 1) _ (dn hq2 (by omega)) ⟨by omega, by omega⟩ ?_
                    rw [sm_to _ k1.1, ← k2]
                    show _ = t + (if I0 71 k = I0 71 i then L0 70 k else 0)
                    rw [own_k hm ⟨by omega, by omega⟩ ⟨by omega, by omega⟩]
                    first | rw [if_pos ⟨by omega, by omega⟩] | (rw [if_neg (by omega)]; omega)
                  · refine r_lld C dM_findOwn_69 rfl ?_
                    refine r_ald C dM_findOwn_70 rfl ?_
                    refine r_getR C dM_findOwn_71 rfl rfl ?_
                    refine r_ild C dM_findOwn_74 rfl ?_
                    refine r_lald C dM_findOwn_76 rfl ⟨by omega, by omega⟩ (by decide) ?_
                    try simp only [rd, rdU, rowS, rowU, rowE, ne_eq, not_false_eq_true, Nat.reduceEqDiff, Int.reduceEq, true_and, false_and, and_true, and_false, and_self, ↓reduceIte]
                    refine r_ladd C dM_findOwn_77 ?_
                    refine r_goto C dM_findOwn_78 ?_
                    refine r_lst C dM_findOwn_82 (by decide) (ls' := [(0, _), (1, _), (2, _), (3, _), (5, _)]) rfl ?_
                    refine r_iinc C dM_findOwn_83 (by decide) rfl (ls' := [(0, _), (1, _), (2, _), (3, _), (5, _)]) rfl ?_
                    refine r_goto C dM_findOwn_86 ?_
                    refine ih2 (k + 1) _ (dn hq2 (by omega)) ⟨by omega, by omega⟩ ?_
                    rw [sm_to _ k1.1, ← k2]
                    show _ = t + (if I0 71 k = I0 71 i then L0 70 k else 0)
                    rw [own_k hm ⟨by omega, by omega⟩ ⟨by omega, by omega⟩]
                    first | rw [if_pos ⟨by omega, by omega⟩] | (rw [if_neg (by omega)]; omega)
          exact inner 50 1 0 (by omega) (by omega) rfl
        · refine r_ald C dM_findOwn_8 rfl ?_
          refine r_getR C dM_findOwn_9 rfl rfl ?_
          refine r_ild C dM_findOwn_12 rfl ?_
          refine r_zald C dM_findOwn_13 rfl ⟨by omega, by omega⟩ (by decide) ?_
          try simp only [rd, rdU, rowS, rowU, rowE, ne_eq, not_false_eq_true, Nat.reduceEqDiff, Int.reduceEq, true_and, false_and, and_true, and_false, and_self, ↓reduceIte]
          refine r_if_eq C dM_findOwn_14 (by omega) (fun b14 => ?_) (fun b14 => ?_)
          · refine r_ik C dM_findOwn_30 ?_
            exact j31 _ (by omega)
          · refine r_ald C dM_findOwn_17 rfl ?_
            refine r_ald C dM_findOwn_18 rfl ?_
            refine r_getR C dM_findOwn_19 rfl rfl ?_
            refine r_ild C dM_findOwn_22 rfl ?_
            refine r_iald C dM_findOwn_23 rfl ⟨by omega, by omega⟩ (by decide) ?_
            try simp only [rd, rdU, rowS, rowU, rowE, ne_eq, not_false_eq_true, Nat.reduceEqDiff, Int.reduceEq, true_and, false_and, and_true, and_false, and_self, ↓reduceIte]
            refine r_callV C lzM_giftOf dM_findOwn_24 _ [_] [] rfl rfl rfl rfl rfl (Nat.le_of_ble_eq_true rfl) ⟨(Nat.le_of_ble_eq_true rfl), (Nat.le_of_ble_eq_true rfl), (Nat.le_of_ble_eq_true rfl), (Nat.le_of_ble_eq_true rfl)⟩ rfl (cM_giftOf (I0 := I0) (L0 := L0) C.2.2.2.2.2.1 (hm.dbt (j := i) (by omega) (by omega)).2.2.2.1 (by repeat (first | exact hm | refine Mt.sI ?_ (by decide) | refine Mt.sL ?_ (by decide) | refine Mt.uL ?_ (by decide) | refine Mt.uI ?_ (by decide))) hs ?_)
            refine r_goto C dM_findOwn_27 ?_
            exact j31 _ (by omega)
  refine r_ik C dM_findOwn_0 ?_
  refine r_ist C dM_findOwn_1 (by decide) (ls' := [(0, _), (1, _)]) rfl ?_
  have h := loop 50 1 (L 101) (L 102) (by omega) (by omega) (fun j j0 j1 => by omega)
  rw [setR_id, setR_id] at h
  exact h
set_option maxRecDepth 100000 in
set_option maxHeartbeats 4000000 in
theorem cM_findValues {g : ed_g} {l : Launch} (hl : l.stackTraces = false) {I0 : ed_I} {L0 : ed_L} {I : ed_I} {L : ed_L} (hm : Mt I0 L0 I L) (hs : ∀ j, 1 ≤ j → j ≤ 40 → I 94 j = st0 I0 j) (ho : ∀ j, 1 ≤ j → j ≤ 40 → L 101 j = sOwn I0 L0 j) (hz : (∀ j, 1 ≤ j → j ≤ 40 → L 96 j = 0 ∧ L 97 j = 0 ∧ L 98 j = 0)) {post : ed_post} (hn : ∀ a b e : Int → Int, (∀ j, 1 ≤ j → j ≤ 40 → a j = sGe I0 L0 j ∧ b j = sDr I0 L0 j ∧ e j = sGi I0 L0 j + sDr I0 L0 j + sGe I0 L0 j) → post (.inl none) Yw I (setR (setR (setR L 96 a) 97 b) 98 e)) : ed_Ct g l mM_findValues 1 0 0 [.ref 79] Yw I L post := by
  refine ed_Ct.of hl rfl (Nat.le_of_ble_eq_true rfl) (fun x _ C => ?_)
  show Gd g x post _ _ _ _ _ _ _ _ 0 [(0, _)] []
  have loop : ∀ (q : Nat) (i : Int) (a b e : Int → Int), (41 - i).toNat < q → 1 ≤ i ∧ i ≤ 41 → (∀ j, 1 ≤ j → j < i → a j = sGe I0 L0 j ∧ b j = sDr I0 L0 j ∧ e j = sGi I0 L0 j + sDr I0 L0 j + sGe I0 L0 j) → (∀ j, i ≤ j → j ≤ 40 → a j = 0 ∧ b j = 0 ∧ e j = 0) → Gd g x post 0 0 mM_findValues.2.2.1 0 0 Yw I (setR (setR (setR L 96 a) 97 b) 98 e) 2 [(0, .ref 79), (1, .int (iZ i))] [] := by
    intro q
    induction q with
    | zero => intro i a b e hq; omega
    | succ q ih =>
      intro i a b e hq g1 g2 g3
      refine r_ild C dM_findValues_2 rfl ?_
      refine r_ik C dM_findValues_3 ?_
      refine r_icmp_ge C dM_findValues_5 (by omega) (fun b5 => ?_) (fun b5 => ?_)
      · exact r_vret C dM_findValues_281 rfl (Nat.le_of_ble_eq_true rfl) (Nat.le_of_ble_eq_true rfl) (hn a b e (fun j j0 j1 => g2 j j0 (by omega)))
      · refine r_ald C dM_findValues_8 rfl ?_
        refine r_ild C dM_findValues_9 rfl ?_
        refine r_ik C dM_findValues_10 ?_
        refine r_callV C lzM_isGood dM_findValues_11 _ [_, _] [] rfl rfl rfl rfl rfl (Nat.le_of_ble_eq_true rfl) ⟨(Nat.le_of_ble_eq_true rfl), (Nat.le_of_ble_eq_true rfl), (Nat.le_of_ble_eq_true rfl), (Nat.le_of_ble_eq_true rfl)⟩ rfl (cM_isGood C.2.2.2.2.2.1 ⟨by omega, by omega⟩ (by decide) (hm.cla (j := i) (by omega) (by omega)).2.1 (by have := hs i (by omega) (by omega); have := st0_in (I := I0) i; omega) (fun b11 => ?_) (fun b11 => ?_))
        · obtain ⟨c1, c2, c3, c4, c5⟩ := hm.cla (j := i) (by omega) (by omega)
          refine r_if_eq C dM_findValues_14 (by omega) (fun b14 => ?_) (fun b14 => ?_)
          · omega
          · refine r_ald C dM_findValues_17 rfl ?_
            refine r_getR C dM_findValues_18 rfl rfl ?_
            refine r_ild C dM_findValues_21 rfl ?_
            refine r_ald C dM_findValues_22 rfl ?_
            refine r_getR C dM_findValues_23 rfl rfl ?_
            refine r_ald C dM_findValues_26 rfl ?_
            refine r_getR C dM_findValues_27 rfl rfl ?_
            refine r_ild C dM_findValues_30 rfl ?_
            refine r_iald C dM_findValues_31 rfl ⟨by omega, by omega⟩ (by decide) ?_
            try simp only [rd, rdU, rowS, rowU, rowE, ne_eq, not_false_eq_true, Nat.reduceEqDiff, Int.reduceEq, true_and, false_and, and_true, and_false, and_self, ↓reduceIte]
            refine r_lald C dM_findValues_32 rfl ⟨by omega, by omega⟩ (by decide) ?_
            try simp only [rd, rdU, rowS, rowU, rowE, ne_eq, not_false_eq_true, Nat.reduceEqDiff, Int.reduceEq, true_and, false_and, and_true, and_false, and_self, ↓reduceIte]
            refine r_ald C dM_findValues_33 rfl ?_
            refine r_ald C dM_findValues_34 rfl ?_
            refine r_getR C dM_findValues_35 rfl rfl ?_
            refine r_ild C dM_findValues_38 rfl ?_
            refine r_iald C dM_findValues_39 rfl ⟨by omega, by omega⟩ (by decide) ?_
            try simp only [rd, rdU, rowS, rowU, rowE, ne_eq, not_false_eq_true, Nat.reduceEqDiff, Int.reduceEq, true_and, false_and, and_true, and_false, and_self, ↓reduceIte]
            refine r_callV C lzM_ownOf dM_findValues_40 _ [_] [_, _, _] rfl rfl rfl rfl rfl (Nat.le_of_ble_eq_true rfl) ⟨(Nat.le_of_ble_eq_true rfl), (Nat.le_of_ble_eq_true rfl), (Nat.le_of_ble_eq_true rfl), (Nat.le_of_ble_eq_true rfl)⟩ rfl (cM_ownOf (I0 := I0) (L0 := L0) C.2.2.2.2.2.1 ⟨c5 b11.1, c3.2⟩ (by repeat (first | exact hm | refine Mt.sI ?_ (by decide) | refine Mt.sL ?_ (by decide) | refine Mt.uL ?_ (by decide) | refine Mt.uI ?_ (by decide))) (by simp only [rd, rdU, rowS, rowU, rowE, ne_eq, not_false_eq_true, Nat.reduceEqDiff, Int.reduceEq, true_and, false_and, and_true, and_false, and_self, ↓reduceIte]; exact ho) ?_)
            refine r_lsub C dM_findValues_43 ?_
            refine r_last C dM_findValues_44 rfl rfl ⟨by omega, by omega⟩ (by decide) ?_
            refine r_goto C dM_findValues_45 ?_
            refine r_iinc C dM_findValues_275 (by decide) rfl (ls' := [(0, _), (1, _)]) rfl ?_
            refine r_goto C dM_findValues_278 ?_
            simp only [up_eq, up_ne, rd, rdU, rowS, rowU, rowE, ne_eq, Nat.reduceEqDiff, Int.reduceEq, not_false_eq_true, true_and, false_and, and_true, and_false, ↓reduceIte]
            have hs9 := hs i (by omega) (by omega)
            have z9 := g3 i (by omega) (by omega)
            have q1 := val_1 (I := I0) (L := L0) (c := i) (by omega)
            have q2 := gift_eq hm.1 (c := i) (by omega) (by omega) (by omega)
            have q3 := (hm.wo (j := i) (by omega) (by omega)) (Or.inl b11.1)
            have q4 := c4 (Or.inl b11.1)
            rw [q3.1, q4]
            refine ih (i + 1) _ _ _ (dn hq (by omega)) ⟨by omega, by omega⟩ (fun j j0 j1 => ?_) (fun j j0 j1 => ?_)
            · by_cases e9 : j = i
              · subst e9; rw [up1_s]; exact ⟨z9.1.trans q1.2.1.symm, z9.2.1.trans q1.1.symm, by rw [q2, q1.1, q1.2.1]; omega⟩
              · rw [up1_o _ e9]; exact g2 j j0 (by omega)
            · rw [up1_o _ (show j ≠ i by omega)]; exact g3 j (by omega) j1
        · refine r_if_eq C dM_findValues_14 (by omega) (fun b14 => ?_) (fun b14 => ?_)
          · refine r_ald C dM_findValues_48 rfl ?_
            refine r_ild C dM_findValues_49 rfl ?_
            refine r_ik C dM_findValues_50 ?_
            refine r_callV C lzM_isGood dM_findValues_51 _ [_, _] [] rfl rfl rfl rfl rfl (Nat.le_of_ble_eq_true rfl) ⟨(Nat.le_of_ble_eq_true rfl), (Nat.le_of_ble_eq_true rfl), (Nat.le_of_ble_eq_true rfl), (Nat.le_of_ble_eq_true rfl)⟩ rfl (cM_isGood C.2.2.2.2.2.1 ⟨by omega, by omega⟩ (by decide) (hm.cla (j := i) (by omega) (by omega)).2.1 (by have := hs i (by omega) (by omega); have := st0_in (I := I0) i; omega) (fun b51 => ?_) (fun b51 => ?_))
            · obtain ⟨c1, c2, c3, c4, c5⟩ := hm.cla (j := i) (by omega) (by omega)
              have w1 := hm.wo (j := i) (by omega) (by omega) (Or.inr b51.1)
              have c6 := c4 (Or.inr b51.1)
              clear c4 c5
              have a1 := (hm.ast (j := I 86 i) c3.1 c3.2).2.2
              have m1 := (hm.amt (j := i) (by omega) (by omega)).1 b51.1
              refine r_if_eq C dM_findValues_54 (by omega) (fun b54 => ?_) (fun b54 => ?_)
              · omega
              · refine Gd.mgL (if 0 < I0 17 i ∧ I0 10 (I0 17 i) = 0 then L0 8 (I0 17 i) else 0) 95 (fun v95 hv95 => ?_) (fun j95 => ?_)
                · have hv2 : 0 ≤ v95 ∧ v95 ≤ 1000000000000 := by rw [hv95]; split <;> omega
                  have lq9 := leg_eq hm.1 (c := i) (by omega) (by omega)
                  rw [← hv95] at lq9
                  clear a1 hv95 w1
                  refine r_lst C dM_findValues_95 (by decide) (ls' := [(0, _), (1, _), (2, _)]) rfl ?_
                  refine r_ik C dM_findValues_96 ?_
                  refine r_ist C dM_findValues_97 (by decide) (ls' := [(0, _), (1, _), (2, _), (4, _)]) rfl ?_
                  have inner : ∀ (q2 : Nat) (k t : Int), (i - k).toNat < q2 → 1 ≤ k ∧ k ≤ i → t = v95 - sm (fun j => if (I0 15 j = 2 ∧ st0 I0 j = 0) ∧ I0 17 j = I0 17 i ∧ 0 < I0 17 i then sDr I0 L0 j else 0) (k - 1).toNat → Gd g x post 0 0 mM_findValues.2.2.1 0 0 Yw I (setR (setR (setR L 96 a) 97 b) 98 e) 99 [(0, .ref 79), (1, .int (iZ i)), (2, .long (lZ t)), (4, .int (iZ k))] [] := by
                    intro q2
                    induction q2 with
                    | zero => intro k t hq2; omega
                    | succ q2 ih2 =>
                      intro k t hq2 k1 k2
                      obtain ⟨f1, f2, f3, f4, f5⟩ := hm.cla (j := k) (by omega) (by omega)
                      have ht9 := sm_le (f := (fun j => if (I0 15 j = 2 ∧ st0 I0 j = 0) ∧ I0 17 j = I0 17 i ∧ 0 < I0 17 i then sDr I0 L0 j else 0)) (B := 1000000000000) (fun j j0 j1 => by have q := (sRow_in (hb_of hm.1) ⟨j0, j1⟩).2.1; show 0 ≤ (if (I0 15 j = 2 ∧ st0 I0 j = 0) ∧ I0 17 j = I0 17 i ∧ 0 < I0 17 i then sDr I0 L0 j else 0) ∧ (if (I0 15 j = 2 ∧ st0 I0 j = 0) ∧ I0 17 j = I0 17 i ∧ 0 < I0 17 i then sDr I0 L0 j else 0) ≤ 1000000000000; split <;> omega) (k - 1).toNat (by omega)
                      refine r_ild C dM_findValues_99 rfl ?_
                      refine r_ild C dM_findValues_101 rfl ?_
                      refine r_icmp_ge C dM_findValues_102 (by omega) (fun b102 => ?_) (fun b102 => ?_)
                      · clear f1 f2 f3 f4 f5
                        refine Gd.mgL (max 0 t) 171 (fun v171 hv171 => ?_) (fun j171 => ?_)
                        · refine r_lst C dM_findValues_171 (by decide) (ls' := [(0, _), (1, _), (2, _), (4, _)]) rfl ?_
                          refine r_ald C dM_findValues_172 rfl ?_
                          refine r_getR C dM_findValues_173 rfl rfl ?_
                          refine r_ild C dM_findValues_176 rfl ?_
                          refine Gd.mgL (min (L 87 i) v171) 198 (fun v198 hv198 => ?_) (fun j198 => ?_)
                          · refine r_last C dM_findValues_198 rfl rfl ⟨by omega, by omega⟩ (by decide) ?_
                            refine r_ald C dM_findValues_199 rfl ?_
                            refine r_getR C dM_findValues_200 rfl rfl ?_
                            refine r_ild C dM_findValues_203 rfl ?_
                            refine r_ald C dM_findValues_204 rfl ?_
                            refine r_getR C dM_findValues_205 rfl rfl ?_
                            refine r_ild C dM_findValues_208 rfl ?_
                            refine r_lald C dM_findValues_209 rfl ⟨by omega, by omega⟩ (by decide) ?_
                            try simp only [rd, rdU, rowS, rowU, rowE, ne_eq, not_false_eq_true, Nat.reduceEqDiff, Int.reduceEq, true_and, false_and, and_true, and_false, and_self, ↓reduceIte]
                            refine r_ald C dM_findValues_210 rfl ?_
                            refine r_getR C dM_findValues_211 rfl rfl ?_
                            refine r_ild C dM_findValues_214 rfl ?_
                            refine r_lald C dM_findValues_215 rfl ⟨by omega, by omega⟩ (by decide) ?_
                            try simp only [rd, rdU, rowS, rowU, rowE, ne_eq, not_false_eq_true, Nat.reduceEqDiff, Int.reduceEq, true_and, false_and, and_true, and_false, and_self, ↓reduceIte]
                            refine r_lsub C dM_findValues_216 ?_
                            refine r_last C dM_findValues_217 rfl rfl ⟨by omega, by omega⟩ (by decide) ?_
                            refine r_ald C dM_findValues_218 rfl ?_
                            refine r_getR C dM_findValues_219 rfl rfl ?_
                            refine r_ild C dM_findValues_222 rfl ?_
                            refine r_ald C dM_findValues_223 rfl ?_
                            refine r_getR C dM_findValues_224 rfl rfl ?_
                            refine r_ild C dM_findValues_227 rfl ?_
                            refine r_lald C dM_findValues_228 rfl ⟨by omega, by omega⟩ (by decide) ?_
                            try simp only [rd, rdU, rowS, rowU, rowE, ne_eq, not_false_eq_true, Nat.reduceEqDiff, Int.reduceEq, true_and, false_and, and_true, and_false, and_self, ↓reduceIte]
                            refine r_last C dM_findValues_229 rfl rfl ⟨by omega, by omega⟩ (by decide) ?_
                            refine r_goto C dM_findValues_230 ?_
                            refine r_iinc C dM_findValues_275 (by decide) rfl (ls' := [(0, _), (1, _), (2, _), (4, _)]) rfl ?_
                            refine r_goto C dM_findValues_278 ?_
                            refine Gd.drop (ls := [_, _]) (ls2 := [_, _]) ?_
                            simp only [up_eq, up_ne, rd, rdU, rowS, rowU, rowE, ne_eq, Nat.reduceEqDiff, Int.reduceEq, not_false_eq_true, true_and, false_and, and_true, and_false, ↓reduceIte]
                            have hs9 := hs i (by omega) (by omega)
                            have ek : k = i := by omega
                            rw [ek] at k2
                            have q1 := val_23 (I := I0) (L := L0) (c := i) (by omega) (by omega)
                            have q3 := sL2_in (hb_of hm.1) (b := I0 17 i) ⟨by omega, by omega⟩ (n := (i - 1).toNat) (by omega)
                            rw [← k2] at lq9
                            clear hv2 ht9 c2 b51
                            refine ih (i + 1) _ _ _ (dn hq (by omega)) ⟨by omega, by omega⟩ (fun j j0 j1 => ?_) (fun j j0 j1 => ?_)
                            · by_cases e9 : j = i
                              · subst e9; rw [up1_s, up1_s, up1_s]; omega
                              · rw [up1_o _ e9, up1_o _ e9, up1_o _ e9]; exact g2 j j0 (by omega)
                            · rw [up1_o _ (show j ≠ i by omega), up1_o _ (show j ≠ i by omega), up1_o _ (show j ≠ i by omega)]; exact g3 j (by omega) j1
                          · refine r_ald C dM_findValues_177 rfl ?_
                            refine r_getR C dM_findValues_178 rfl rfl ?_
                            refine r_ild C dM_findValues_181 rfl ?_
                            refine r_lald C dM_findValues_182 rfl ⟨by omega, by omega⟩ (by decide) ?_
                            try simp only [rd, rdU, rowS, rowU, rowE, ne_eq, not_false_eq_true, Nat.reduceEqDiff, Int.reduceEq, true_and, false_and, and_true, and_false, and_self, ↓reduceIte]
                            refine r_lld C dM_findValues_183 rfl ?_
                            refine r_lc_ge C dM_findValues_184 dM_findValues_185 (by omega) (fun b185 => ?_) (fun b185 => ?_)
                            · refine r_lld C dM_findValues_197 rfl ?_
                              exact j198 _ (by omega)
                            · refine r_ald C dM_findValues_188 rfl ?_
                              refine r_getR C dM_findValues_189 rfl rfl ?_
                              refine r_ild C dM_findValues_192 rfl ?_
                              refine r_lald C dM_findValues_193 rfl ⟨by omega, by omega⟩ (by decide) ?_
                              try simp only [rd, rdU, rowS, rowU, rowE, ne_eq, not_false_eq_true, Nat.reduceEqDiff, Int.reduceEq, true_and, false_and, and_true, and_false, and_self, ↓reduceIte]
                              refine r_goto C dM_findValues_194 ?_
                              exact j198 _ (by omega)
                        · refine r_lld C dM_findValues_160 rfl ?_
                          refine r_lk C dM_findValues_161 ?_
                          refine r_lc_ge C dM_findValues_162 dM_findValues_163 (by omega) (fun b163 => ?_) (fun b163 => ?_)
                          · refine r_lld C dM_findValues_170 rfl ?_
                            exact j171 _ (by omega)
                          · refine r_lk C dM_findValues_166 ?_
                            refine r_goto C dM_findValues_167 ?_
                            exact j171 _ (by omega)
                      · refine r_ald C dM_findValues_105 rfl ?_
                        refine r_ild C dM_findValues_106 rfl ?_
                        refine r_ik C dM_findValues_108 ?_
                        refine r_callV C lzM_isGood dM_findValues_109 _ [_, _] [] rfl rfl rfl rfl rfl (Nat.le_of_ble_eq_true rfl) ⟨(Nat.le_of_ble_eq_true rfl), (Nat.le_of_ble_eq_true rfl), (Nat.le_of_ble_eq_true rfl), (Nat.le_of_ble_eq_true rfl)⟩ rfl (cM_isGood C.2.2.2.2.2.1 ⟨by omega, by omega⟩ (by decide) (hm.cla (j := k) (by omega) (by omega)).2.1 (by have := hs k (by omega) (by omega); have := st0_in (I := I0) k; omega) (fun b109 => ?_) (fun b109 => ?_))
                        · refine r_if_eq C dM_findValues_112 (by omega) (fun b112 => ?_) (fun b112 => ?_)
                          · omega
                          · refine r_ald C dM_findValues_115 rfl ?_
                            refine r_getR C dM_findValues_116 rfl rfl ?_
                            refine r_ild C dM_findValues_119 rfl ?_
                            refine r_iald C dM_findValues_121 rfl ⟨by omega, by omega⟩ (by decide) ?_
                            try simp only [rd, rdU, rowS, rowU, rowE, ne_eq, not_false_eq_true, Nat.reduceEqDiff, Int.reduceEq, true_and, false_and, and_true, and_false, and_self, ↓reduceIte]
                            refine r_ald C dM_findValues_122 rfl ?_
                            refine r_getR C dM_findValues_123 rfl rfl ?_
                            refine r_ild C dM_findValues_126 rfl ?_
                            refine r_iald C dM_findValues_127 rfl ⟨by omega, by omega⟩ (by decide) ?_
                            try simp only [rd, rdU, rowS, rowU, rowE, ne_eq, not_false_eq_true, Nat.reduceEqDiff, Int.reduceEq, true_and, false_and, and_true, and_false, and_self, ↓reduceIte]
                            refine r_icmp_ne C dM_findValues_128 (by omega) (fun b128 => ?_) (fun b128 => ?_)
                            · refine r_lld C dM_findValues_152 rfl ?_
                              refine r_lst C dM_findValues_153 (by decide) (ls' := [(0, _), (1, _), (2, _), (4, _)]) rfl ?_
                              refine r_iinc C dM_findValues_154 (by decide) rfl (ls' := [(0, _), (1, _), (2, _), (4, _)]) rfl ?_
                              refine r_goto C dM_findValues_157 ?_
                              refine ih2 (k + 1) _ (dn hq2 (by omega)) ⟨by omega, by omega⟩ ?_
                              rw [sm_to _ k1.1]
                              show _ = v95 - (_ + (if (I0 15 k = 2 ∧ st0 I0 k = 0) ∧ I0 17 k = I0 17 i ∧ 0 < I0 17 i then sDr I0 L0 k else 0))
                              have hs8 := hs k (by omega) (by omega)
                              have hg8 := (g2 k (by omega) (by omega)).2.1
                              split <;> omega
                            · refine r_ald C dM_findValues_131 rfl ?_
                              refine r_getR C dM_findValues_132 rfl rfl ?_
                              refine r_ild C dM_findValues_135 rfl ?_
                              refine r_iald C dM_findValues_136 rfl ⟨by omega, by omega⟩ (by decide) ?_
                              try simp only [rd, rdU, rowS, rowU, rowE, ne_eq, not_false_eq_true, Nat.reduceEqDiff, Int.reduceEq, true_and, false_and, and_true, and_false, and_self, ↓reduceIte]
                              refine r_if_le C dM_findValues_137 (by omega) (fun b137 => ?_) (fun b137 => ?_)
                              · refine r_lld C dM_findValues_152 rfl ?_
                                refine r_lst C dM_findValues_153 (by decide) (ls' := [(0, _), (1, _), (2, _), (4, _)]) rfl ?_
                                refine r_iinc C dM_findValues_154 (by decide) rfl (ls' := [(0, _), (1, _), (2, _), (4, _)]) rfl ?_
                                refine r_goto C dM_findValues_157 ?_
                                refine ih2 (k + 1) _ (dn hq2 (by omega)) ⟨by omega, by omega⟩ ?_
                                rw [sm_to _ k1.1]
                                show _ = v95 - (_ + (if (I0 15 k = 2 ∧ st0 I0 k = 0) ∧ I0 17 k = I0 17 i ∧ 0 < I0 17 i then sDr I0 L0 k else 0))
                                have hs8 := hs k (by omega) (by omega)
                                have hg8 := (g2 k (by omega) (by omega)).2.1
                                split <;> omega
                              · refine r_lld C dM_findValues_140 rfl ?_
                                refine r_ald C dM_findValues_141 rfl ?_
                                refine r_getR C dM_findValues_142 rfl rfl ?_
                                refine r_ild C dM_findValues_145 rfl ?_
                                refine r_lald C dM_findValues_147 rfl ⟨by omega, by omega⟩ (by decide) ?_
                                try simp only [rd, rdU, rowS, rowU, rowE, ne_eq, not_false_eq_true, Nat.reduceEqDiff, Int.reduceEq, true_and, false_and, and_true, and_false, and_self, ↓reduceIte]
                                refine r_lsub C dM_findValues_148 ?_
                                refine r_goto C dM_findValues_149 ?_
                                refine r_lst C dM_findValues_153 (by decide) (ls' := [(0, _), (1, _), (2, _), (4, _)]) rfl ?_
                                refine r_iinc C dM_findValues_154 (by decide) rfl (ls' := [(0, _), (1, _), (2, _), (4, _)]) rfl ?_
                                refine r_goto C dM_findValues_157 ?_
                                refine ih2 (k + 1) _ (dn hq2 (by omega)) ⟨by omega, by omega⟩ ?_
                                rw [sm_to _ k1.1]
                                show _ = v95 - (_ + (if (I0 15 k = 2 ∧ st0 I0 k = 0) ∧ I0 17 k = I0 17 i ∧ 0 < I0 17 i then sDr I0 L0 k else 0))
                                have hs8 := hs k (by omega) (by omega)
                                have hg8 := (g2 k (by omega) (by omega)).2.1
                                split <;> omega
                        · refine r_if_eq C dM_findValues_112 (by omega) (fun b112 => ?_) (fun b112 => ?_)
                          · refine r_lld C dM_findValues_152 rfl ?_
                            refine r_lst C dM_findValues_153 (by decide) (ls' := [(0, _), (1, _), (2, _), (4, _)]) rfl ?_
                            refine r_iinc C dM_findValues_154 (by decide) rfl (ls' := [(0, _), (1, _), (2, _), (4, _)]) rfl ?_
                            refine r_goto C dM_findValues_157 ?_
                            refine ih2 (k + 1) _ (dn hq2 (by omega)) ⟨by omega, by omega⟩ ?_
                            rw [sm_to _ k1.1]
                            show _ = v95 - (_ + (if (I0 15 k = 2 ∧ st0 I0 k = 0) ∧ I0 17 k = I0 17 i ∧ 0 < I0 17 i then sDr I0 L0 k else 0))
                            have hs8 := hs k (by omega) (by omega)
                            have hg8 := (g2 k (by omega) (by omega)).2.1
                            split <;> omega
                          · omega
                  exact inner 50 1 v95 (by omega) (by omega) (by show v95 = v95 - 0; omega)
                · refine r_ald C dM_findValues_57 rfl ?_
                  refine r_getR C dM_findValues_58 rfl rfl ?_
                  refine r_ild C dM_findValues_61 rfl ?_
                  refine r_iald C dM_findValues_62 rfl ⟨by omega, by omega⟩ (by decide) ?_
                  try simp only [rd, rdU, rowS, rowU, rowE, ne_eq, not_false_eq_true, Nat.reduceEqDiff, Int.reduceEq, true_and, false_and, and_true, and_false, and_self, ↓reduceIte]
                  refine r_if_le C dM_findValues_63 (by omega) (fun b63 => ?_) (fun b63 => ?_)
                  · refine r_lk C dM_findValues_94 ?_
                    exact j95 _ (by omega)
                  · refine r_ald C dM_findValues_66 rfl ?_
                    refine r_getR C dM_findValues_67 rfl rfl ?_
                    refine r_ald C dM_findValues_70 rfl ?_
                    refine r_getR C dM_findValues_71 rfl rfl ?_
                    refine r_ild C dM_findValues_74 rfl ?_
                    refine r_iald C dM_findValues_75 rfl ⟨by omega, by omega⟩ (by decide) ?_
                    try simp only [rd, rdU, rowS, rowU, rowE, ne_eq, not_false_eq_true, Nat.reduceEqDiff, Int.reduceEq, true_and, false_and, and_true, and_false, and_self, ↓reduceIte]
                    refine r_zald C dM_findValues_76 rfl ⟨by omega, by omega⟩ (by decide) ?_
                    try simp only [rd, rdU, rowS, rowU, rowE, ne_eq, not_false_eq_true, Nat.reduceEqDiff, Int.reduceEq, true_and, false_and, and_true, and_false, and_self, ↓reduceIte]
                    refine r_if_ne C dM_findValues_77 (by omega) (fun b77 => ?_) (fun b77 => ?_)
                    · refine r_lk C dM_findValues_94 ?_
                      exact j95 _ (by omega)
                    · refine r_ald C dM_findValues_80 rfl ?_
                      refine r_getR C dM_findValues_81 rfl rfl ?_
                      refine r_ald C dM_findValues_84 rfl ?_
                      refine r_getR C dM_findValues_85 rfl rfl ?_
                      refine r_ild C dM_findValues_88 rfl ?_
                      refine r_iald C dM_findValues_89 rfl ⟨by omega, by omega⟩ (by decide) ?_
                      try simp only [rd, rdU, rowS, rowU, rowE, ne_eq, not_false_eq_true, Nat.reduceEqDiff, Int.reduceEq, true_and, false_and, and_true, and_false, and_self, ↓reduceIte]
                      refine r_lald C dM_findValues_90 rfl ⟨by omega, by omega⟩ (by decide) ?_
                      try simp only [rd, rdU, rowS, rowU, rowE, ne_eq, not_false_eq_true, Nat.reduceEqDiff, Int.reduceEq, true_and, false_and, and_true, and_false, and_self, ↓reduceIte]
                      refine r_goto C dM_findValues_91 ?_
                      exact j95 _ (by omega)
            · refine r_if_eq C dM_findValues_54 (by omega) (fun b54 => ?_) (fun b54 => ?_)
              · refine r_ald C dM_findValues_233 rfl ?_
                refine r_ild C dM_findValues_234 rfl ?_
                refine r_ik C dM_findValues_235 ?_
                refine r_callV C lzM_isGood dM_findValues_236 _ [_, _] [] rfl rfl rfl rfl rfl (Nat.le_of_ble_eq_true rfl) ⟨(Nat.le_of_ble_eq_true rfl), (Nat.le_of_ble_eq_true rfl), (Nat.le_of_ble_eq_true rfl), (Nat.le_of_ble_eq_true rfl)⟩ rfl (cM_isGood C.2.2.2.2.2.1 ⟨by omega, by omega⟩ (by decide) (hm.cla (j := i) (by omega) (by omega)).2.1 (by have := hs i (by omega) (by omega); have := st0_in (I := I0) i; omega) (fun b236 => ?_) (fun b236 => ?_))
                · obtain ⟨c1, c2, c3, c4, c5⟩ := hm.cla (j := i) (by omega) (by omega)
                  clear c4 c5
                  have m1 := (hm.amt (j := i) (by omega) (by omega)).2.1 b236.1
                  refine r_if_eq C dM_findValues_239 (by omega) (fun b239 => ?_) (fun b239 => ?_)
                  · omega
                  · refine r_ald C dM_findValues_242 rfl ?_
                    refine r_getR C dM_findValues_243 rfl rfl ?_
                    refine r_ild C dM_findValues_246 rfl ?_
                    refine r_ald C dM_findValues_247 rfl ?_
                    refine r_getR C dM_findValues_248 rfl rfl ?_
                    refine r_ild C dM_findValues_251 rfl ?_
                    refine r_lald C dM_findValues_252 rfl ⟨by omega, by omega⟩ (by decide) ?_
                    try simp only [rd, rdU, rowS, rowU, rowE, ne_eq, not_false_eq_true, Nat.reduceEqDiff, Int.reduceEq, true_and, false_and, and_true, and_false, and_self, ↓reduceIte]
                    refine r_ald C dM_findValues_253 rfl ?_
                    refine r_getR C dM_findValues_254 rfl rfl ?_
                    refine r_ild C dM_findValues_257 rfl ?_
                    refine r_iald C dM_findValues_258 rfl ⟨by omega, by omega⟩ (by decide) ?_
                    try simp only [rd, rdU, rowS, rowU, rowE, ne_eq, not_false_eq_true, Nat.reduceEqDiff, Int.reduceEq, true_and, false_and, and_true, and_false, and_self, ↓reduceIte]
                    refine r_callS C lzM_table dM_findValues_259 [_, _] [_, _] rfl rfl (Nat.le_of_ble_eq_true rfl) ⟨(Nat.le_of_ble_eq_true rfl), (Nat.le_of_ble_eq_true rfl), (Nat.le_of_ble_eq_true rfl), (Nat.le_of_ble_eq_true rfl)⟩ rfl (cM_table C.2.2.2.2.2.1 m1.2.1 m1.2.2 ?_)
                    refine r_last C dM_findValues_262 rfl rfl ⟨by omega, by omega⟩ (by decide) ?_
                    refine r_ald C dM_findValues_263 rfl ?_
                    refine r_getR C dM_findValues_264 rfl rfl ?_
                    refine r_ild C dM_findValues_267 rfl ?_
                    refine r_ald C dM_findValues_268 rfl ?_
                    refine r_getR C dM_findValues_269 rfl rfl ?_
                    refine r_ild C dM_findValues_272 rfl ?_
                    refine r_lald C dM_findValues_273 rfl ⟨by omega, by omega⟩ (by decide) ?_
                    try simp only [rd, rdU, rowS, rowU, rowE, ne_eq, not_false_eq_true, Nat.reduceEqDiff, Int.reduceEq, true_and, false_and, and_true, and_false, and_self, ↓reduceIte]
                    refine r_last C dM_findValues_274 rfl rfl ⟨by omega, by omega⟩ (by decide) ?_
                    refine r_iinc C dM_findValues_275 (by decide) rfl (ls' := [(0, _), (1, _)]) rfl ?_
                    refine r_goto C dM_findValues_278 ?_
                    simp only [up_eq, up_ne, rd, rdU, rowS, rowU, rowE, ne_eq, Nat.reduceEqDiff, Int.reduceEq, not_false_eq_true, true_and, false_and, and_true, and_false, ↓reduceIte]
                    have hs9 := hs i (by omega) (by omega)
                    have z9 := g3 i (by omega) (by omega)
                    have q1 := val_23 (I := I0) (L := L0) (c := i) (by omega) (by omega)
                    have q2 := ann_eq hm.1 (c := i) (by omega) (by omega)
                    refine ih (i + 1) _ _ _ (dn hq (by omega)) ⟨by omega, by omega⟩ (fun j j0 j1 => ?_) (fun j j0 j1 => ?_)
                    · by_cases e9 : j = i
                      · subst e9; rw [up1_s, up1_s]; omega
                      · rw [up1_o _ e9, up1_o _ e9]; exact g2 j j0 (by omega)
                    · rw [up1_o _ (show j ≠ i by omega), up1_o _ (show j ≠ i by omega)]; exact g3 j (by omega) j1
                · obtain ⟨c1, c2, c3, c4, c5⟩ := hm.cla (j := i) (by omega) (by omega)
                  clear c4 c5
                  refine r_if_eq C dM_findValues_239 (by omega) (fun b239 => ?_) (fun b239 => ?_)
                  · refine r_iinc C dM_findValues_275 (by decide) rfl (ls' := [(0, _), (1, _)]) rfl ?_
                    refine r_goto C dM_findValues_278 ?_
                    have hs9 := hs i (by omega) (by omega)
                    have z9 := g3 i (by omega) (by omega)
                    have q1 : sGi I0 L0 i = 0 ∧ sDr I0 L0 i = 0 ∧ sGe I0 L0 i = 0 := by
                      by_cases e8 : st0 I0 i = 0
                      · have := (st0_good e8).1; exact val_4 (by omega)
                      · have := val_bad (L := L0) e8; omega
                    refine ih (i + 1) _ _ _ (dn hq (by omega)) ⟨by omega, by omega⟩ (fun j j0 j1 => ?_) (fun j j0 j1 => ?_)
                    · by_cases e9 : j = i
                      · subst e9; exact ⟨z9.1.trans q1.2.2.symm, z9.2.1.trans q1.2.1.symm, by rw [z9.2.2, q1.1, q1.2.1, q1.2.2]; rfl⟩
                      · exact g2 j j0 (by omega)
                    · exact g3 j (by omega) j1
                  · omega
              · omega
          · omega
  refine r_ik C dM_findValues_0 ?_
  refine r_ist C dM_findValues_1 (by decide) (ls' := [(0, _), (1, _)]) rfl ?_
  have h := loop 50 1 (L 96) (L 97) (L 98) (by omega) (by omega) (fun j j0 j1 => by omega) (fun j j0 j1 => hz j j0 j1)
  rw [setR_id, setR_id, setR_id] at h
  exact h
set_option maxRecDepth 100000 in
set_option maxHeartbeats 4000000 in
theorem cM_addUp {g : ed_g} {l : Launch} (hl : l.stackTraces = false) {I0 : ed_I} {L0 : ed_L} {I : ed_I} {L : ed_L} (hm : Mt I0 L0 I L) (hs : ∀ j, 1 ≤ j → j ≤ 40 → I 94 j = st0 I0 j) (hv : ∀ j, 1 ≤ j → j ≤ 40 → L 96 j = sGe I0 L0 j ∧ L 97 j = sDr I0 L0 j ∧ L 98 j = sGi I0 L0 j + sDr I0 L0 j + sGe I0 L0 j) (hd : (∀ j, 1 ≤ j → j ≤ 40 → L 102 j = sOrd I0 L0 j)) {post : ed_post} (hn : ∀ s : Int → Int, s 0 = sm (aT I0 L0) 40 → s 1 = 0 → s 2 = sT I0 L0 → s 3 = sD I0 L0 → s 4 = sG I0 L0 → s 5 = sN I0 L0 → s 6 = sS I0 L0 → s 7 = 0 → post (.inl none) Yw I (setR L 108 s)) : ed_Ct g l mM_addUp 2 0 0 [.ref 79] Yw I L post := by
  refine ed_Ct.of hl rfl (Nat.le_of_ble_eq_true rfl) (fun x _ C => ?_)
  show Gd g x post _ _ _ _ _ _ _ _ 0 [(0, _)] []
  have loop3 : ∀ (q : Nat) (i : Int) (s : Int → Int), (41 - i).toNat < q → 1 ≤ i ∧ i ≤ 41 → s 0 = sm (aT I0 L0) 40 ∧ s 1 = 0 ∧ s 2 = sT I0 L0 → s 3 = sm (sOrd I0 L0) (i - 1).toNat → s 4 = sG I0 L0 ∧ s 5 = sN I0 L0 ∧ s 6 = sS I0 L0 ∧ s 7 = 0 → Gd g x post 0 0 mM_addUp.2.2.1 0 0 Yw I (setR L 108 s) 244 [(0, .ref 79), (1, .int (iZ i))] [] := by
    intro q
    induction q with
    | zero => intro i s hq; omega
    | succ q ih =>
      intro i s hq g1 g2 g3 g4
      refine r_ild C dM_addUp_244 rfl ?_
      refine r_ik C dM_addUp_245 ?_
      refine r_icmp_ge C dM_addUp_247 (by omega) (fun b247 => ?_) (fun b247 => ?_)
      · exact r_vret C dM_addUp_275 rfl (Nat.le_of_ble_eq_true rfl) (Nat.le_of_ble_eq_true rfl) (hn s g2.1 g2.2.1 g2.2.2 (by rw [g3, show (i - 1).toNat = 40 by omega]; rfl) g4.1 g4.2.1 g4.2.2.1 g4.2.2.2)
      · refine r_ald C dM_addUp_250 rfl ?_
        refine r_getR C dM_addUp_251 rfl rfl ?_
        refine r_ik C dM_addUp_254 ?_
        refine r_ald C dM_addUp_255 rfl ?_
        refine r_getR C dM_addUp_256 rfl rfl ?_
        refine r_ik C dM_addUp_259 ?_
        refine r_lald C dM_addUp_260 rfl ⟨by omega, by omega⟩ (by decide) ?_
        try simp only [rd, rdU, rowS, rowU, rowE, ne_eq, not_false_eq_true, Nat.reduceEqDiff, Int.reduceEq, true_and, false_and, and_true, and_false, and_self, ↓reduceIte]
        refine r_ald C dM_addUp_261 rfl ?_
        refine r_getR C dM_addUp_262 rfl rfl ?_
        refine r_ild C dM_addUp_265 rfl ?_
        refine r_lald C dM_addUp_266 rfl ⟨by omega, by omega⟩ (by decide) ?_
        try simp only [rd, rdU, rowS, rowU, rowE, ne_eq, not_false_eq_true, Nat.reduceEqDiff, Int.reduceEq, true_and, false_and, and_true, and_false, and_self, ↓reduceIte]
        refine r_ladd C dM_addUp_267 ?_
        refine r_last C dM_addUp_268 rfl rfl ⟨by omega, by omega⟩ (by decide) ?_
        refine r_iinc C dM_addUp_269 (by decide) rfl (ls' := [(0, _), (1, _)]) rfl ?_
        refine r_goto C dM_addUp_272 ?_
        simp only [up_eq, up_ne, rd, rdU, rowS, rowU, rowE, ne_eq, Nat.reduceEqDiff, Int.reduceEq, not_false_eq_true, true_and, false_and, and_true, and_false, ↓reduceIte]
        have hd9 := hd i (by omega) (by omega)
        refine ih (i + 1) _ (dn hq (by omega)) ⟨by omega, by omega⟩ ?_ ?_ ?_
        · simp only [up1, Int.reduceEq, ↓reduceIte]; exact g2
        · simp only [up1, Int.reduceEq, ↓reduceIte]; rw [sm_to _ g1.1, ← g3, hd9]
        · simp only [up1, Int.reduceEq, ↓reduceIte]; exact g4
  have loop2 : ∀ (q : Nat) (i : Int) (s : Int → Int), (41 - i).toNat < q → 1 ≤ i ∧ i ≤ 41 → s 0 = sm (aT I0 L0) 40 → s 2 = sm (mF I0 L0) 40 → s 1 = 0 ∧ s 3 = 0 ∧ s 7 = 0 → s 4 = sm (sGe I0 L0) (i - 1).toNat → s 5 = sm (sDr I0 L0) (i - 1).toNat → s 6 = sm (sGi I0 L0) (i - 1).toNat → Gd g x post 0 0 mM_addUp.2.2.1 0 0 Yw I (setR L 108 s) 133 [(0, .ref 79), (1, .int (iZ i))] [] := by
    intro q
    induction q with
    | zero => intro i s hq; omega
    | succ q ih =>
      intro i s hq g1 g2 g3 g4 g5 g6 g7
      have hc1 := fun (h : i ≤ 40) => hm.cla (j := i) (by omega) h
      have hs1 := fun (h : i ≤ 40) => hs i (by omega) h
      have hv1 := fun (h : i ≤ 40) => hv i (by omega) h
      refine r_ild C dM_addUp_133 rfl ?_
      refine r_ik C dM_addUp_134 ?_
      refine r_icmp_ge C dM_addUp_136 (by omega) (fun b136 => ?_) (fun b136 => ?_)
      · refine r_ald C dM_addUp_223 rfl ?_
        refine r_getR C dM_addUp_224 rfl rfl ?_
        refine r_ik C dM_addUp_227 ?_
        refine r_ald C dM_addUp_228 rfl ?_
        refine r_getR C dM_addUp_229 rfl rfl ?_
        refine r_ik C dM_addUp_232 ?_
        refine r_lald C dM_addUp_233 rfl ⟨by omega, by omega⟩ (by decide) ?_
        try simp only [rd, rdU, rowS, rowU, rowE, ne_eq, not_false_eq_true, Nat.reduceEqDiff, Int.reduceEq, true_and, false_and, and_true, and_false, and_self, ↓reduceIte]
        refine r_ald C dM_addUp_234 rfl ?_
        refine r_getR C dM_addUp_235 rfl rfl ?_
        refine r_ik C dM_addUp_238 ?_
        refine r_lald C dM_addUp_239 rfl ⟨by omega, by omega⟩ (by decide) ?_
        try simp only [rd, rdU, rowS, rowU, rowE, ne_eq, not_false_eq_true, Nat.reduceEqDiff, Int.reduceEq, true_and, false_and, and_true, and_false, and_self, ↓reduceIte]
        refine r_lsub C dM_addUp_240 ?_
        refine r_last C dM_addUp_241 rfl rfl ⟨by omega, by omega⟩ (by decide) ?_
        refine r_ik C dM_addUp_242 ?_
        refine r_ist C dM_addUp_243 (by decide) (ls' := [(0, _), (1, _)]) rfl ?_
        have e40 : (i - 1).toNat = 40 := by omega
        rw [e40] at g5 g6 g7
        simp only [up_eq, up_ne, rd, rdU, rowS, rowU, rowE, ne_eq, Nat.reduceEqDiff, Int.reduceEq, not_false_eq_true, true_and, false_and, and_true, and_false, ↓reduceIte]
        refine loop3 50 1 _ (by omega) (by omega) ⟨?_, ?_, ?_⟩ ?_ ⟨?_, ?_, ?_, ?_⟩
        · simp only [up1, Int.reduceEq, ↓reduceIte]; exact g2
        · simp only [up1, Int.reduceEq, ↓reduceIte]; exact g4.1
        · simp only [up1, Int.reduceEq, ↓reduceIte]; rw [sT_eq hm.1, g3, g6]; rfl
        · simp only [up1, Int.reduceEq, ↓reduceIte]; exact g4.2.1
        · simp only [up1, Int.reduceEq, ↓reduceIte]; exact g5
        · simp only [up1, Int.reduceEq, ↓reduceIte]; exact g6
        · simp only [up1, Int.reduceEq, ↓reduceIte]; exact g7
        · simp only [up1, Int.reduceEq, ↓reduceIte]; exact g4.2.2
      · refine r_ald C dM_addUp_139 rfl ?_
        refine r_getR C dM_addUp_140 rfl rfl ?_
        refine r_ik C dM_addUp_143 ?_
        refine r_ald C dM_addUp_144 rfl ?_
        refine r_getR C dM_addUp_145 rfl rfl ?_
        refine r_ik C dM_addUp_148 ?_
        refine r_lald C dM_addUp_149 rfl ⟨by omega, by omega⟩ (by decide) ?_
        try simp only [rd, rdU, rowS, rowU, rowE, ne_eq, not_false_eq_true, Nat.reduceEqDiff, Int.reduceEq, true_and, false_and, and_true, and_false, and_self, ↓reduceIte]
        refine r_ald C dM_addUp_150 rfl ?_
        refine r_getR C dM_addUp_151 rfl rfl ?_
        refine r_ild C dM_addUp_154 rfl ?_
        refine r_lald C dM_addUp_155 rfl ⟨by omega, by omega⟩ (by decide) ?_
        try simp only [rd, rdU, rowS, rowU, rowE, ne_eq, not_false_eq_true, Nat.reduceEqDiff, Int.reduceEq, true_and, false_and, and_true, and_false, and_self, ↓reduceIte]
        refine r_ladd C dM_addUp_156 ?_
        refine r_last C dM_addUp_157 rfl rfl ⟨by omega, by omega⟩ (by decide) ?_
        refine r_ald C dM_addUp_158 rfl ?_
        refine r_getR C dM_addUp_159 rfl rfl ?_
        refine r_ik C dM_addUp_162 ?_
        refine r_ald C dM_addUp_163 rfl ?_
        refine r_getR C dM_addUp_164 rfl rfl ?_
        refine r_ik C dM_addUp_167 ?_
        refine r_lald C dM_addUp_168 rfl ⟨by omega, by omega⟩ (by decide) ?_
        try simp only [rd, rdU, rowS, rowU, rowE, ne_eq, not_false_eq_true, Nat.reduceEqDiff, Int.reduceEq, true_and, false_and, and_true, and_false, and_self, ↓reduceIte]
        refine r_ald C dM_addUp_169 rfl ?_
        refine r_getR C dM_addUp_170 rfl rfl ?_
        refine r_ild C dM_addUp_173 rfl ?_
        refine r_lald C dM_addUp_174 rfl ⟨by omega, by omega⟩ (by decide) ?_
        try simp only [rd, rdU, rowS, rowU, rowE, ne_eq, not_false_eq_true, Nat.reduceEqDiff, Int.reduceEq, true_and, false_and, and_true, and_false, and_self, ↓reduceIte]
        refine r_ladd C dM_addUp_175 ?_
        refine r_last C dM_addUp_176 rfl rfl ⟨by omega, by omega⟩ (by decide) ?_
        refine r_ald C dM_addUp_177 rfl ?_
        refine r_getR C dM_addUp_178 rfl rfl ?_
        refine r_ik C dM_addUp_181 ?_
        replace hc1 := hc1 (by omega)
        replace hs1 := hs1 (by omega)
        replace hv1 := hv1 (by omega)
        refine Gd.mgL (s 6 + sGi I0 L0 i) 216 (fun v216 hv216 => ?_) (fun j216 => ?_)
        · refine r_last C dM_addUp_216 rfl rfl ⟨by omega, by omega⟩ (by decide) ?_
          refine r_iinc C dM_addUp_217 (by decide) rfl (ls' := [(0, _), (1, _)]) rfl ?_
          refine r_goto C dM_addUp_220 ?_
          simp only [up_eq, up_ne, rd, rdU, rowS, rowU, rowE, ne_eq, Nat.reduceEqDiff, Int.reduceEq, not_false_eq_true, true_and, false_and, and_true, and_false, ↓reduceIte]
          have hv9 := hv i (by omega) (by omega)
          refine ih (i + 1) _ (dn hq (by omega)) ⟨by omega, by omega⟩ ?_ ?_ ?_ ?_ ?_ ?_
          · simp only [up1, Int.reduceEq, ↓reduceIte]; exact g2
          · simp only [up1, Int.reduceEq, ↓reduceIte]; exact g3
          · simp only [up1, Int.reduceEq, ↓reduceIte]; exact g4
          · simp only [up1, Int.reduceEq, ↓reduceIte]; rw [sm_to _ g1.1, ← g5, hv9.1]
          · simp only [up1, Int.reduceEq, ↓reduceIte]; rw [sm_to _ g1.1, ← g6, hv9.2.1]
          · simp only [up1, Int.reduceEq, ↓reduceIte]; rw [sm_to _ g1.1, ← g7, hv216]
        · refine r_ald C dM_addUp_183 rfl ?_
          refine r_ild C dM_addUp_184 rfl ?_
          refine r_ik C dM_addUp_185 ?_
          refine r_callV C lzM_isGood dM_addUp_186 _ [_, _] [_, _] rfl rfl rfl rfl rfl (Nat.le_of_ble_eq_true rfl) ⟨(Nat.le_of_ble_eq_true rfl), (Nat.le_of_ble_eq_true rfl), (Nat.le_of_ble_eq_true rfl), (Nat.le_of_ble_eq_true rfl)⟩ rfl (cM_isGood C.2.2.2.2.2.1 ⟨by omega, by omega⟩ (by decide) (hm.cla (j := i) (by omega) (by omega)).2.1 (by have := hs i (by omega) (by omega); have := st0_in (I := I0) i; omega) (fun b186 => ?_) (fun b186 => ?_))
          · refine r_if_eq C dM_addUp_189 (by omega) (fun b189 => ?_) (fun b189 => ?_)
            · omega
            · refine r_ald C dM_addUp_192 rfl ?_
              refine r_getR C dM_addUp_193 rfl rfl ?_
              refine r_ik C dM_addUp_196 ?_
              refine r_lald C dM_addUp_198 rfl ⟨by omega, by omega⟩ (by decide) ?_
              try simp only [rd, rdU, rowS, rowU, rowE, ne_eq, not_false_eq_true, Nat.reduceEqDiff, Int.reduceEq, true_and, false_and, and_true, and_false, and_self, ↓reduceIte]
              refine r_ald C dM_addUp_199 rfl ?_
              refine r_getR C dM_addUp_200 rfl rfl ?_
              refine r_ild C dM_addUp_203 rfl ?_
              refine r_lald C dM_addUp_204 rfl ⟨by omega, by omega⟩ (by decide) ?_
              try simp only [rd, rdU, rowS, rowU, rowE, ne_eq, not_false_eq_true, Nat.reduceEqDiff, Int.reduceEq, true_and, false_and, and_true, and_false, and_self, ↓reduceIte]
              refine r_ladd C dM_addUp_205 ?_
              refine r_goto C dM_addUp_206 ?_
              exact j216 _ (by first | (have := val_1 (I := I0) (L := L0) (c := i) (by omega); omega) | (have e9 : sGi I0 L0 i = 0 := if_neg (by omega); omega))
          · refine r_if_eq C dM_addUp_189 (by omega) (fun b189 => ?_) (fun b189 => ?_)
            · refine r_ald C dM_addUp_209 rfl ?_
              refine r_getR C dM_addUp_210 rfl rfl ?_
              refine r_ik C dM_addUp_213 ?_
              refine r_lald C dM_addUp_215 rfl ⟨by omega, by omega⟩ (by decide) ?_
              try simp only [rd, rdU, rowS, rowU, rowE, ne_eq, not_false_eq_true, Nat.reduceEqDiff, Int.reduceEq, true_and, false_and, and_true, and_false, and_self, ↓reduceIte]
              exact j216 _ (by first | (have := val_1 (I := I0) (L := L0) (c := i) (by omega); omega) | (have e9 : sGi I0 L0 i = 0 := if_neg (by omega); omega))
            · omega
  have loop1 : ∀ (q : Nat) (i : Int) (s : Int → Int), (41 - i).toNat < q → 1 ≤ i ∧ i ≤ 41 → s 0 = sm (aT I0 L0) (i - 1).toNat → s 2 = sm (mF I0 L0) (i - 1).toNat → s 1 = 0 ∧ s 3 = 0 ∧ s 4 = 0 ∧ s 5 = 0 ∧ s 6 = 0 ∧ s 7 = 0 → Gd g x post 0 0 mM_addUp.2.2.1 0 0 Yw I (setR L 108 s) 23 [(0, .ref 79), (1, .int (iZ i))] [] := by
    intro q
    induction q with
    | zero => intro i s hq; omega
    | succ q ih =>
      intro i s hq g1 g2 g3 g4
      have ha1 := fun (h : i ≤ 40) => hm.ast (j := i) (by omega) h
      have e1 : aT I0 L0 i = if I0 7 i ≠ 0 ∧ I0 10 i = 0 then L0 8 i else 0 := rfl
      have e2 : mF I0 L0 i = if I0 7 i ≠ 0 ∧ I0 10 i = 0 then (if sGv I0 i = 0 then L0 8 i else 0) else 0 := rfl
      have hg9 := sGv_in (I := I0) i
      refine r_ild C dM_addUp_23 rfl ?_
      refine r_ik C dM_addUp_24 ?_
      refine r_icmp_ge C dM_addUp_26 (by omega) (fun b26 => ?_) (fun b26 => ?_)
      · refine r_ik C dM_addUp_131 ?_
        refine r_ist C dM_addUp_132 (by decide) (ls' := [(0, _), (1, _)]) rfl ?_
        have e40 : (i - 1).toNat = 40 := by omega
        rw [e40] at g2 g3
        exact loop2 50 1 s (by omega) (by omega) g2 g3 ⟨g4.1, g4.2.1, g4.2.2.2.2.2⟩ g4.2.2.1 g4.2.2.2.1 g4.2.2.2.2.1
      · replace ha1 := ha1 (by omega)
        refine Gd.mgI (if I0 7 i ≠ 0 ∧ I0 10 i = 0 then 1 else 0) 52 (fun v52 hv52 => ?_) (fun j52 => ?_)
        · refine r_ist C dM_addUp_52 (by decide) (ls' := [(0, _), (1, _), (2, _)]) rfl ?_
          refine r_ald C dM_addUp_53 rfl ?_
          refine r_getR C dM_addUp_54 rfl rfl ?_
          refine r_ik C dM_addUp_57 ?_
          refine Gd.mgL (s 0 + aT I0 L0 i) 84 (fun v84 hv84 => ?_) (fun j84 => ?_)
          · refine r_last C dM_addUp_84 rfl rfl ⟨by omega, by omega⟩ (by decide) ?_
            refine r_ald C dM_addUp_85 rfl ?_
            refine r_getR C dM_addUp_86 rfl rfl ?_
            refine r_ik C dM_addUp_89 ?_
            refine Gd.mgL (s 2 + mF I0 L0 i) 124 (fun v124 hv124 => ?_) (fun j124 => ?_)
            · refine r_last C dM_addUp_124 rfl rfl ⟨by omega, by omega⟩ (by decide) ?_
              refine r_iinc C dM_addUp_125 (by decide) rfl (ls' := [(0, _), (1, _), (2, _)]) rfl ?_
              refine r_goto C dM_addUp_128 ?_
              refine Gd.drop (ls := [_, _]) (ls2 := [_]) ?_
              simp only [up_eq, up_ne, rd, rdU, rowS, rowU, rowE, ne_eq, Nat.reduceEqDiff, Int.reduceEq, not_false_eq_true, true_and, false_and, and_true, and_false, ↓reduceIte]
              refine ih (i + 1) _ (dn hq (by omega)) ⟨by omega, by omega⟩ ?_ ?_ ?_
              · simp only [up1, Int.reduceEq, ↓reduceIte]; rw [sm_to _ g1.1, ← g2, hv84]
              · simp only [up1, Int.reduceEq, ↓reduceIte]; rw [sm_to _ g1.1, ← g3, hv124]
              · simp only [up1, Int.reduceEq, ↓reduceIte]; exact g4
            · refine r_ild C dM_addUp_90 rfl ?_
              refine r_if_eq C dM_addUp_91 (by omega) (fun b91 => ?_) (fun b91 => ?_)
              · refine r_ald C dM_addUp_118 rfl ?_
                refine r_getR C dM_addUp_119 rfl rfl ?_
                refine r_ik C dM_addUp_122 ?_
                refine r_lald C dM_addUp_123 rfl ⟨by omega, by omega⟩ (by decide) ?_
                try simp only [rd, rdU, rowS, rowU, rowE, ne_eq, not_false_eq_true, Nat.reduceEqDiff, Int.reduceEq, true_and, false_and, and_true, and_false, and_self, ↓reduceIte]
                exact j124 _ (by rw [e2]; clear e1 hv84; omega)
              · refine r_ald C dM_addUp_94 rfl ?_
                refine r_ild C dM_addUp_95 rfl ?_
                refine r_callV C lzM_giftOf dM_addUp_96 _ [_] [_, _] rfl rfl rfl rfl rfl (Nat.le_of_ble_eq_true rfl) ⟨(Nat.le_of_ble_eq_true rfl), (Nat.le_of_ble_eq_true rfl), (Nat.le_of_ble_eq_true rfl), (Nat.le_of_ble_eq_true rfl)⟩ rfl (cM_giftOf (I0 := I0) (L0 := L0) C.2.2.2.2.2.1 ⟨by omega, by omega⟩ (by repeat (first | exact hm | refine Mt.sI ?_ (by decide) | refine Mt.sL ?_ (by decide) | refine Mt.uL ?_ (by decide) | refine Mt.uI ?_ (by decide))) hs ?_)
                refine r_if_ne C dM_addUp_99 (by omega) (fun b99 => ?_) (fun b99 => ?_)
                · refine r_ald C dM_addUp_118 rfl ?_
                  refine r_getR C dM_addUp_119 rfl rfl ?_
                  refine r_ik C dM_addUp_122 ?_
                  refine r_lald C dM_addUp_123 rfl ⟨by omega, by omega⟩ (by decide) ?_
                  try simp only [rd, rdU, rowS, rowU, rowE, ne_eq, not_false_eq_true, Nat.reduceEqDiff, Int.reduceEq, true_and, false_and, and_true, and_false, and_self, ↓reduceIte]
                  exact j124 _ (by rw [e2]; clear e1 hv84; omega)
                · refine r_ald C dM_addUp_102 rfl ?_
                  refine r_getR C dM_addUp_103 rfl rfl ?_
                  refine r_ik C dM_addUp_106 ?_
                  refine r_lald C dM_addUp_107 rfl ⟨by omega, by omega⟩ (by decide) ?_
                  try simp only [rd, rdU, rowS, rowU, rowE, ne_eq, not_false_eq_true, Nat.reduceEqDiff, Int.reduceEq, true_and, false_and, and_true, and_false, and_self, ↓reduceIte]
                  refine r_ald C dM_addUp_108 rfl ?_
                  refine r_getR C dM_addUp_109 rfl rfl ?_
                  refine r_ild C dM_addUp_112 rfl ?_
                  refine r_lald C dM_addUp_113 rfl ⟨by omega, by omega⟩ (by decide) ?_
                  try simp only [rd, rdU, rowS, rowU, rowE, ne_eq, not_false_eq_true, Nat.reduceEqDiff, Int.reduceEq, true_and, false_and, and_true, and_false, and_self, ↓reduceIte]
                  refine r_ladd C dM_addUp_114 ?_
                  refine r_goto C dM_addUp_115 ?_
                  exact j124 _ (by rw [e2]; clear e1 hv84; omega)
          · refine r_ild C dM_addUp_58 rfl ?_
            refine r_if_eq C dM_addUp_59 (by omega) (fun b59 => ?_) (fun b59 => ?_)
            · refine r_ald C dM_addUp_78 rfl ?_
              refine r_getR C dM_addUp_79 rfl rfl ?_
              refine r_ik C dM_addUp_82 ?_
              refine r_lald C dM_addUp_83 rfl ⟨by omega, by omega⟩ (by decide) ?_
              try simp only [rd, rdU, rowS, rowU, rowE, ne_eq, not_false_eq_true, Nat.reduceEqDiff, Int.reduceEq, true_and, false_and, and_true, and_false, and_self, ↓reduceIte]
              exact j84 _ (by rw [e1]; clear e2; omega)
            · refine r_ald C dM_addUp_62 rfl ?_
              refine r_getR C dM_addUp_63 rfl rfl ?_
              refine r_ik C dM_addUp_66 ?_
              refine r_lald C dM_addUp_67 rfl ⟨by omega, by omega⟩ (by decide) ?_
              try simp only [rd, rdU, rowS, rowU, rowE, ne_eq, not_false_eq_true, Nat.reduceEqDiff, Int.reduceEq, true_and, false_and, and_true, and_false, and_self, ↓reduceIte]
              refine r_ald C dM_addUp_68 rfl ?_
              refine r_getR C dM_addUp_69 rfl rfl ?_
              refine r_ild C dM_addUp_72 rfl ?_
              refine r_lald C dM_addUp_73 rfl ⟨by omega, by omega⟩ (by decide) ?_
              try simp only [rd, rdU, rowS, rowU, rowE, ne_eq, not_false_eq_true, Nat.reduceEqDiff, Int.reduceEq, true_and, false_and, and_true, and_false, and_self, ↓reduceIte]
              refine r_ladd C dM_addUp_74 ?_
              refine r_goto C dM_addUp_75 ?_
              exact j84 _ (by rw [e1]; clear e2; omega)
        · refine r_ald C dM_addUp_29 rfl ?_
          refine r_getR C dM_addUp_30 rfl rfl ?_
          refine r_ild C dM_addUp_33 rfl ?_
          refine r_zald C dM_addUp_34 rfl ⟨by omega, by omega⟩ (by decide) ?_
          try simp only [rd, rdU, rowS, rowU, rowE, ne_eq, not_false_eq_true, Nat.reduceEqDiff, Int.reduceEq, true_and, false_and, and_true, and_false, and_self, ↓reduceIte]
          refine r_if_eq C dM_addUp_35 (by omega) (fun b35 => ?_) (fun b35 => ?_)
          · refine r_ik C dM_addUp_51 ?_
            exact j52 _ (by omega)
          · refine r_ald C dM_addUp_38 rfl ?_
            refine r_getR C dM_addUp_39 rfl rfl ?_
            refine r_ild C dM_addUp_42 rfl ?_
            refine r_zald C dM_addUp_43 rfl ⟨by omega, by omega⟩ (by decide) ?_
            try simp only [rd, rdU, rowS, rowU, rowE, ne_eq, not_false_eq_true, Nat.reduceEqDiff, Int.reduceEq, true_and, false_and, and_true, and_false, and_self, ↓reduceIte]
            refine r_if_ne C dM_addUp_44 (by omega) (fun b44 => ?_) (fun b44 => ?_)
            · refine r_ik C dM_addUp_51 ?_
              exact j52 _ (by omega)
            · refine r_ik C dM_addUp_47 ?_
              refine r_goto C dM_addUp_48 ?_
              exact j52 _ (by omega)
  have loop0 : ∀ (q : Nat) (i : Int) (s : Int → Int), (8 - i).toNat < q → 0 ≤ i ∧ i ≤ 8 → (∀ j, 0 ≤ j → j < i → s j = 0) → Gd g x post 0 0 mM_addUp.2.2.1 0 0 Yw I (setR L 108 s) 2 [(0, .ref 79), (1, .int (iZ i))] [] := by
    intro q
    induction q with
    | zero => intro i s hq; omega
    | succ q ih =>
      intro i s hq g1 g2
      refine r_ild C dM_addUp_2 rfl ?_
      refine r_ik C dM_addUp_3 ?_
      refine r_icmp_ge C dM_addUp_5 (by omega) (fun b5 => ?_) (fun b5 => ?_)
      · refine r_ik C dM_addUp_21 ?_
        refine r_ist C dM_addUp_22 (by decide) (ls' := [(0, _), (1, _)]) rfl ?_
        exact loop1 50 1 s (by omega) (by omega) (g2 0 (by omega) (by omega)) (g2 2 (by omega) (by omega)) ⟨g2 1 (by omega) (by omega), g2 3 (by omega) (by omega), g2 4 (by omega) (by omega), g2 5 (by omega) (by omega), g2 6 (by omega) (by omega), g2 7 (by omega) (by omega)⟩
      · refine r_ald C dM_addUp_8 rfl ?_
        refine r_getR C dM_addUp_9 rfl rfl ?_
        refine r_ild C dM_addUp_12 rfl ?_
        refine r_lk C dM_addUp_13 ?_
        refine r_last C dM_addUp_14 rfl rfl ⟨by omega, by omega⟩ (by decide) ?_
        refine r_iinc C dM_addUp_15 (by decide) rfl (ls' := [(0, _), (1, _)]) rfl ?_
        refine r_goto C dM_addUp_18 ?_
        simp only [up_eq, up_ne, rd, rdU, rowS, rowU, rowE, ne_eq, Nat.reduceEqDiff, Int.reduceEq, not_false_eq_true, true_and, false_and, and_true, and_false, ↓reduceIte]
        exact ih (i + 1) _ (dn hq (by omega)) ⟨by omega, by omega⟩ (fun j j0 j1 => by by_cases e : j = i; (subst e; rw [up1_s]); (rw [up1_o _ e]; exact g2 j j0 (by omega)))
  refine r_ik C dM_addUp_0 ?_
  refine r_ist C dM_addUp_1 (by decide) (ls' := [(0, _), (1, _)]) rfl ?_
  have h := loop0 50 0 (L 108) (by omega) (by omega) (fun j j0 j1 => by omega)
  rw [setR_id] at h
  exact h
