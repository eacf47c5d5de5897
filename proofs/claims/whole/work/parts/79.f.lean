/-! the reference: bearing, sharing, handing out, spreading -/
set_option maxRecDepth 100000 in
set_option maxHeartbeats 4000000 in
theorem cM_bear {g : ed_g} {l : Launch} (hl : l.stackTraces = false) {I0 : ed_I} {L0 : ed_L} {I : ed_I} {L : ed_L} {w A : Int} (hw : w = 0 ∨ w = 1 ∨ w = 2) (hA : 0 ≤ A ∧ A ≤ 1000000000000000) (hm : Mt I0 L0 I L) (hs : ∀ j, 1 ≤ j → j ≤ 40 → I 94 j = st0 I0 j) (hv : ∀ j, 1 ≤ j → j ≤ 40 → L 96 j = sGe I0 L0 j ∧ L 97 j = sDr I0 L0 j ∧ L 98 j = sGi I0 L0 j + sDr I0 L0 j + sGe I0 L0 j) {post : ed_post} (hn : ∀ w9 s r h : Int → Int, (∀ j, 1 ≤ j → j ≤ 40 → h j = L 99 j + spl (wt I0 L0 w) A j) → post (.inl none) Yw I (setR (setR (setR (setR L 109 w9) 110 s) 111 r) 99 h)) : ed_Ct g l mM_bear 2 0 0 [.ref 79, .int (iZ w), .long (lZ A)] Yw I L post := by
  refine ed_Ct.of hl rfl (Nat.le_of_ble_eq_true rfl) (fun x _ C => ?_)
  show Gd g x post _ _ _ _ _ _ _ _ 0 [(0, _), (1, _), (2, _)] []
  have loop2 : ∀ (q : Nat) (i : Int) (w9 s r h : Int → Int), (41 - i).toNat < q → 1 ≤ i ∧ i ≤ 41 → (∀ j, 1 ≤ j → j ≤ 40 → s j = spl (wt I0 L0 w) A j) → (∀ j, 1 ≤ j → j < i → h j = L 99 j + spl (wt I0 L0 w) A j) → (∀ j, i ≤ j → j ≤ 40 → h j = L 99 j) → Gd g x post 0 0 mM_bear.2.2.1 0 0 Yw I (setR (setR (setR (setR L 109 w9) 110 s) 111 r) 99 h) 113 [(0, .ref 79), (1, .int (iZ w)), (2, .long (lZ A)), (4, .int (iZ i))] [] := by
    intro q
    induction q with
    | zero => intro i w9 s r h hq; omega
    | succ q ih =>
      intro i w9 s r h hq g1 g2 g3 g4
      refine r_ild C dM_bear_113 rfl ?_
      refine r_ik C dM_bear_115 ?_
      refine r_icmp_ge C dM_bear_117 (by omega) (fun b117 => ?_) (fun b117 => ?_)
      · exact r_vret C dM_bear_148 rfl (Nat.le_of_ble_eq_true rfl) (Nat.le_of_ble_eq_true rfl) (hn w9 s r h (fun j j0 j1 => g3 j j0 (by omega)))
      · refine r_ald C dM_bear_120 rfl ?_
        refine r_getR C dM_bear_121 rfl rfl ?_
        refine r_ild C dM_bear_124 rfl ?_
        refine r_ald C dM_bear_126 rfl ?_
        refine r_getR C dM_bear_127 rfl rfl ?_
        refine r_ild C dM_bear_130 rfl ?_
        refine r_lald C dM_bear_132 rfl ⟨by omega, by omega⟩ (by decide) ?_
        try simp only [rd, rdU, rowS, rowU, rowE, ne_eq, not_false_eq_true, Nat.reduceEqDiff, Int.reduceEq, true_and, false_and, and_true, and_false, and_self, ↓reduceIte]
        refine r_ald C dM_bear_133 rfl ?_
        refine r_getR C dM_bear_134 rfl rfl ?_
        refine r_ild C dM_bear_137 rfl ?_
        refine r_lald C dM_bear_139 rfl ⟨by omega, by omega⟩ (by decide) ?_
        try simp only [rd, rdU, rowS, rowU, rowE, ne_eq, not_false_eq_true, Nat.reduceEqDiff, Int.reduceEq, true_and, false_and, and_true, and_false, and_self, ↓reduceIte]
        refine r_ladd C dM_bear_140 ?_
        refine r_last C dM_bear_141 rfl rfl ⟨by omega, by omega⟩ (by decide) ?_
        refine r_iinc C dM_bear_142 (by decide) rfl (ls' := [(0, _), (1, _), (2, _), (4, _)]) rfl ?_
        refine r_goto C dM_bear_145 ?_
        simp only [up_eq, up_ne, rd, rdU, rowS, rowU, rowE, ne_eq, Nat.reduceEqDiff, Int.reduceEq, not_false_eq_true, true_and, false_and, and_true, and_false, ↓reduceIte]
        exact ih (i + 1) _ _ _ _ (dn hq (by omega)) ⟨by omega, by omega⟩ g2 (fun j j0 j1 => by by_cases e : j = i; (subst e; rw [up1_s, g2 j (by omega) (by omega), g4 j (by omega) (by omega)]); (rw [up1_o _ e]; exact g3 j j0 (by omega))) (fun j j0 j1 => by rw [up1_o _ (by omega)]; exact g4 j (by omega) j1)
  have loop1 : ∀ (q : Nat) (i : Int) (w9 : Int → Int), (41 - i).toNat < q → 0 ≤ i ∧ i ≤ 41 → (∀ j, 1 ≤ j → j < i → w9 j = wt I0 L0 w j) → (0 < i → w9 0 = 0) → Gd g x post 0 0 mM_bear.2.2.1 0 0 Yw I (setR L 109 w9) 3 [(0, .ref 79), (1, .int (iZ w)), (2, .long (lZ A)), (4, .int (iZ i))] [] := by
    intro q
    induction q with
    | zero => intro i w9 hq; omega
    | succ q ih =>
      intro i w9 hq g1 g2 g3
      have hw9 : 1 ≤ i → i ≤ 40 → wt I0 L0 w i = if I 94 i = 0 then (if w = 0 then L 96 i else if w = 1 then L 97 i else if I 85 i = 1 then L 98 i else 0) else 0 := fun h1 h2 => wt_eq hm ⟨h1, h2⟩ (hs i h1 h2) (hv i h1 h2)
      have hc1 := fun (h : i ≤ 40) => (hm.cla (j := i) (by omega) h).2.1
      have h94 : 1 ≤ i → i ≤ 40 → -1 ≤ I 94 i ∧ I 94 i ≤ 2 := fun h1 h2 => by rw [hs i h1 h2]; exact st0_in i
      refine r_ild C dM_bear_3 rfl ?_
      refine r_ik C dM_bear_5 ?_
      refine r_icmp_ge C dM_bear_7 (by omega) (fun b7 => ?_) (fun b7 => ?_)
      · refine r_ald C dM_bear_105 rfl ?_
        refine r_lld C dM_bear_106 rfl ?_
        refine r_callV C lzM_split dM_bear_107 _ [_] [] rfl rfl rfl rfl rfl (Nat.le_of_ble_eq_true rfl) ⟨(Nat.le_of_ble_eq_true rfl), (Nat.le_of_ble_eq_true rfl), (Nat.le_of_ble_eq_true rfl), (Nat.le_of_ble_eq_true rfl)⟩ rfl (cM_split C.2.2.2.2.2.1 hA (by simp only [rd, rdU, rowS, rowU, rowE, ne_eq, not_false_eq_true, Nat.reduceEqDiff, Int.reduceEq, true_and, false_and, and_true, and_false, and_self, ↓reduceIte]; intro j j0 j1; by_cases e9 : j = 0; (rw [e9, g3 (by omega)]; decide); (rw [g2 j (by omega) (by omega)]; exact wt_in hm.1 w ⟨by omega, j1⟩)) (by simp only [rd, rdU, rowS, rowU, rowE, ne_eq, not_false_eq_true, Nat.reduceEqDiff, Int.reduceEq, true_and, false_and, and_true, and_false, and_self, ↓reduceIte]; exact g3 (by omega)) (fun s r hs9 => ?_))
        try simp only [rd, rdU, rowS, rowU, rowE, ne_eq, not_false_eq_true, Nat.reduceEqDiff, Int.reduceEq, true_and, false_and, and_true, and_false, and_self, ↓reduceIte] at hs9
        have hs7 : ∀ j, 1 ≤ j → j ≤ 40 → s j = spl (wt I0 L0 w) A j := fun j j0 j1 => by rw [hs9 j j0 j1]; exact spl_congr (fun j j0 j1 => g2 j j0 (by omega)) ⟨j0, j1⟩
        refine r_ik C dM_bear_110 ?_
        refine r_ist C dM_bear_111 (by decide) (ls' := [(0, _), (1, _), (2, _), (4, _)]) rfl ?_
        have h := loop2 50 1 w9 s r (L 99) (by omega) (by omega) hs7 (fun j j0 j1 => by omega) (fun j j0 j1 => rfl)
        rw [show L 99 = (setR (setR (setR L 109 w9) 110 s) 111 r) 99 by rw [rowS _ _ _ _ (by decide), rowS _ _ _ _ (by decide), rowS _ _ _ _ (by decide)], setR_id] at h
        exact h
      · replace hc1 := hc1 (by omega)
        refine Gd.mgI (if 0 < i ∧ I 94 i = 0 then 1 else 0) 30 (fun v30 hv30 => ?_) (fun j30 => ?_)
        · refine r_ist C dM_bear_30 (by decide) (ls' := [(0, _), (1, _), (2, _), (4, _), (5, _)]) rfl ?_
          refine r_ald C dM_bear_32 rfl ?_
          refine r_getR C dM_bear_33 rfl rfl ?_
          refine r_ild C dM_bear_36 rfl ?_
          refine Gd.mgL (if 0 < i then wt I0 L0 w i else 0) 98 (fun v98 hv98 => ?_) (fun j98 => ?_)
          · refine r_last C dM_bear_98 rfl rfl ⟨by omega, by omega⟩ (by decide) ?_
            refine r_iinc C dM_bear_99 (by decide) rfl (ls' := [(0, _), (1, _), (2, _), (4, _), (5, _)]) rfl ?_
            refine r_goto C dM_bear_102 ?_
            refine Gd.drop (ls := [_, _, _, _]) (ls2 := [_]) ?_
            simp only [up_eq, up_ne, rd, rdU, rowS, rowU, rowE, ne_eq, Nat.reduceEqDiff, Int.reduceEq, not_false_eq_true, true_and, false_and, and_true, and_false, ↓reduceIte]
            refine ih (i + 1) _ (dn hq (by omega)) ⟨by omega, by omega⟩ (fun j j0 j1 => ?_) (fun _ => ?_)
            · by_cases e9 : j = i
              · subst e9; rw [up1_s, hv98, if_pos (by omega)]
              · rw [up1_o _ e9]; exact g2 j j0 (by omega)
            · by_cases e9 : (0 : Int) = i
              · subst e9; rw [up1_s, hv98, if_neg (by omega)]
              · rw [up1_o _ e9]; exact g3 (by omega)
          · refine r_ild C dM_bear_38 rfl ?_
            refine r_if_ne C dM_bear_40 (by omega) (fun b40 => ?_) (fun b40 => ?_)
            · refine r_ild C dM_bear_47 rfl ?_
              refine r_if_ne C dM_bear_48 (by omega) (fun b48 => ?_) (fun b48 => ?_)
              · refine r_ild C dM_bear_61 rfl ?_
                refine r_ik C dM_bear_62 ?_
                refine r_icmp_ne C dM_bear_63 (by omega) (fun b63 => ?_) (fun b63 => ?_)
                · refine r_ald C dM_bear_76 rfl ?_
                  refine r_getR C dM_bear_77 rfl rfl ?_
                  refine r_ild C dM_bear_80 rfl ?_
                  refine r_iald C dM_bear_82 rfl ⟨by omega, by omega⟩ (by decide) ?_
                  try simp only [rd, rdU, rowS, rowU, rowE, ne_eq, not_false_eq_true, Nat.reduceEqDiff, Int.reduceEq, true_and, false_and, and_true, and_false, and_self, ↓reduceIte]
                  refine r_ik C dM_bear_83 ?_
                  refine r_icmp_ne C dM_bear_84 (by omega) (fun b84 => ?_) (fun b84 => ?_)
                  · refine r_lk C dM_bear_97 ?_
                    exact j98 _ (by (by_cases e7 : 0 < i); (rw [if_pos e7, hw9 (by omega) (by omega)]; omega); (rw [if_neg e7]; try omega))
                  · refine r_ald C dM_bear_87 rfl ?_
                    refine r_getR C dM_bear_88 rfl rfl ?_
                    refine r_ild C dM_bear_91 rfl ?_
                    refine r_lald C dM_bear_93 rfl ⟨by omega, by omega⟩ (by decide) ?_
                    try simp only [rd, rdU, rowS, rowU, rowE, ne_eq, not_false_eq_true, Nat.reduceEqDiff, Int.reduceEq, true_and, false_and, and_true, and_false, and_self, ↓reduceIte]
                    refine r_goto C dM_bear_94 ?_
                    exact j98 _ (by (by_cases e7 : 0 < i); (rw [if_pos e7, hw9 (by omega) (by omega)]; omega); (rw [if_neg e7]; try omega))
                · refine r_ald C dM_bear_66 rfl ?_
                  refine r_getR C dM_bear_67 rfl rfl ?_
                  refine r_ild C dM_bear_70 rfl ?_
                  refine r_lald C dM_bear_72 rfl ⟨by omega, by omega⟩ (by decide) ?_
                  try simp only [rd, rdU, rowS, rowU, rowE, ne_eq, not_false_eq_true, Nat.reduceEqDiff, Int.reduceEq, true_and, false_and, and_true, and_false, and_self, ↓reduceIte]
                  refine r_goto C dM_bear_73 ?_
                  exact j98 _ (by (by_cases e7 : 0 < i); (rw [if_pos e7, hw9 (by omega) (by omega)]; omega); (rw [if_neg e7]; try omega))
              · refine r_ald C dM_bear_51 rfl ?_
                refine r_getR C dM_bear_52 rfl rfl ?_
                refine r_ild C dM_bear_55 rfl ?_
                refine r_lald C dM_bear_57 rfl ⟨by omega, by omega⟩ (by decide) ?_
                try simp only [rd, rdU, rowS, rowU, rowE, ne_eq, not_false_eq_true, Nat.reduceEqDiff, Int.reduceEq, true_and, false_and, and_true, and_false, and_self, ↓reduceIte]
                refine r_goto C dM_bear_58 ?_
                exact j98 _ (by (by_cases e7 : 0 < i); (rw [if_pos e7, hw9 (by omega) (by omega)]; omega); (rw [if_neg e7]; try omega))
            · refine r_lk C dM_bear_43 ?_
              refine r_goto C dM_bear_44 ?_
              exact j98 _ (by (by_cases e7 : 0 < i); (rw [if_pos e7, hw9 (by omega) (by omega)]; omega); (rw [if_neg e7]; try omega))
        · refine r_ild C dM_bear_10 rfl ?_
          refine r_if_le C dM_bear_12 (by omega) (fun b12 => ?_) (fun b12 => ?_)
          · refine r_ik C dM_bear_29 ?_
            exact j30 _ (by omega)
          · refine r_ald C dM_bear_15 rfl ?_
            refine r_getR C dM_bear_16 rfl rfl ?_
            refine r_ild C dM_bear_19 rfl ?_
            refine r_iald C dM_bear_21 rfl ⟨by omega, by omega⟩ (by decide) ?_
            try simp only [rd, rdU, rowS, rowU, rowE, ne_eq, not_false_eq_true, Nat.reduceEqDiff, Int.reduceEq, true_and, false_and, and_true, and_false, and_self, ↓reduceIte]
            refine r_if_ne C dM_bear_22 (by omega) (fun b22 => ?_) (fun b22 => ?_)
            · refine r_ik C dM_bear_29 ?_
              exact j30 _ (by omega)
            · refine r_ik C dM_bear_25 ?_
              refine r_goto C dM_bear_26 ?_
              exact j30 _ (by omega)
  refine r_ik C dM_bear_0 ?_
  refine r_ist C dM_bear_1 (by decide) (ls' := [(0, _), (1, _), (2, _), (4, _)]) rfl ?_
  have h := loop1 50 0 (L 109) (by omega) (by omega) (fun j j0 j1 => by omega) (fun h => by omega)
  rw [setR_id] at h
  exact h
def zq (I0 : ed_I) (L0 : ed_L) (i z : Int) : Prop := (z = 0 ∨ z = 1) ∧ z = if 0 < sm (sRp I0 L0) (i - 1).toNat then 1 else 0
set_option maxRecDepth 100000 in
set_option maxHeartbeats 4000000 in
theorem cM_shareResidue {g : ed_g} {l : Launch} (hl : l.stackTraces = false) {I0 : ed_I} {L0 : ed_L} {I : ed_I} {L : ed_L} {A : Int} (hA : 0 ≤ A ∧ A ≤ 1000000000000000) (hm : Mt I0 L0 I L) (hs : ∀ j, 1 ≤ j → j ≤ 40 → I 94 j = st0 I0 j) {post : ed_post} (h0 : ∀ w9 : Int → Int, sm (sRp I0 L0) 40 = 0 → post (.inl none) Yw I (upI (setR L 109 w9) 105 0 (L 105 0 + A))) (h1 : ∀ w9 s r u : Int → Int, sm (sRp I0 L0) 40 ≠ 0 → (∀ j, 1 ≤ j → j ≤ 40 → u j = spl (sRp I0 L0) A j) → post (.inl none) Yw I (setR (setR (setR (setR L 109 w9) 110 s) 111 r) 100 u)) : ed_Ct g l mM_shareResidue 2 0 0 [.ref 79, .long (lZ A)] Yw I L post := by
  refine ed_Ct.of hl rfl (Nat.le_of_ble_eq_true rfl) (fun x _ C => ?_)
  show Gd g x post _ _ _ _ _ _ _ _ 0 [(0, _), (1, _)] []
  have loop2 : ∀ (q : Nat) (i z : Int) (w9 s r u : Int → Int), (41 - i).toNat < q → 1 ≤ i ∧ i ≤ 41 → sm (sRp I0 L0) 40 ≠ 0 → (∀ j, 1 ≤ j → j ≤ 40 → s j = spl (sRp I0 L0) A j) → (∀ j, 1 ≤ j → j < i → u j = spl (sRp I0 L0) A j) → Gd g x post 0 0 mM_shareResidue.2.2.1 0 0 Yw I (setR (setR (setR (setR L 109 w9) 110 s) 111 r) 100 u) 106 [(0, .ref 79), (1, .long (lZ A)), (3, .int (iZ z)), (4, .int (iZ i))] [] := by
    intro q
    induction q with
    | zero => intro i z w9 s r u hq; omega
    | succ q ih =>
      intro i z w9 s r u hq g1 g2 g3 g4
      refine r_ild C dM_shareResidue_106 rfl ?_
      refine r_ik C dM_shareResidue_108 ?_
      refine r_icmp_ge C dM_shareResidue_110 (by omega) (fun b110 => ?_) (fun b110 => ?_)
      · exact r_vret C dM_shareResidue_133 rfl (Nat.le_of_ble_eq_true rfl) (Nat.le_of_ble_eq_true rfl) (h1 w9 s r u g2 (fun j j0 j1 => g4 j j0 (by omega)))
      · refine r_ald C dM_shareResidue_113 rfl ?_
        refine r_getR C dM_shareResidue_114 rfl rfl ?_
        refine r_ild C dM_shareResidue_117 rfl ?_
        refine r_ald C dM_shareResidue_119 rfl ?_
        refine r_getR C dM_shareResidue_120 rfl rfl ?_
        refine r_ild C dM_shareResidue_123 rfl ?_
        refine r_lald C dM_shareResidue_125 rfl ⟨by omega, by omega⟩ (by decide) ?_
        try simp only [rd, rdU, rowS, rowU, rowE, ne_eq, not_false_eq_true, Nat.reduceEqDiff, Int.reduceEq, true_and, false_and, and_true, and_false, and_self, ↓reduceIte]
        refine r_last C dM_shareResidue_126 rfl rfl ⟨by omega, by omega⟩ (by decide) ?_
        refine r_iinc C dM_shareResidue_127 (by decide) rfl (ls' := [(0, _), (1, _), (3, _), (4, _)]) rfl ?_
        refine r_goto C dM_shareResidue_130 ?_
        simp only [up_eq, up_ne, rd, rdU, rowS, rowU, rowE, ne_eq, Nat.reduceEqDiff, Int.reduceEq, not_false_eq_true, true_and, false_and, and_true, and_false, ↓reduceIte]
        exact ih (i + 1) _ _ _ _ _ (dn hq (by omega)) ⟨by omega, by omega⟩ g2 g3 (fun j j0 j1 => by by_cases e : j = i; (subst e; rw [up1_s]; exact g3 j (by omega) (by omega)); (rw [up1_o _ e]; exact g4 j j0 (by omega)))
  have loop1 : ∀ (q : Nat) (i z : Int) (w9 : Int → Int), (41 - i).toNat < q → 0 ≤ i ∧ i ≤ 41 → (∀ j, 1 ≤ j → j < i → w9 j = sRp I0 L0 j) → (0 < i → w9 0 = 0) → zq I0 L0 i z → Gd g x post 0 0 mM_shareResidue.2.2.1 0 0 Yw I (setR L 109 w9) 5 [(0, .ref 79), (1, .long (lZ A)), (3, .int (iZ z)), (4, .int (iZ i))] [] := by
    intro q
    induction q with
    | zero => intro i z w9 hq; omega
    | succ q ih =>
      intro i z w9 hq g1 g2 g3 g4
      have g9 := g4.1
      refine r_ild C dM_shareResidue_5 rfl ?_
      refine r_ik C dM_shareResidue_7 ?_
      refine r_icmp_ge C dM_shareResidue_9 (by omega) (fun b9 => ?_) (fun b9 => ?_)
      · refine r_ild C dM_shareResidue_79 rfl ?_
        refine r_if_ne C dM_shareResidue_80 (by omega) (fun b80 => ?_) (fun b80 => ?_)
        · refine r_ald C dM_shareResidue_98 rfl ?_
          refine r_lld C dM_shareResidue_99 rfl ?_
          refine r_callV C lzM_split dM_shareResidue_100 _ [_] [] rfl rfl rfl rfl rfl (Nat.le_of_ble_eq_true rfl) ⟨(Nat.le_of_ble_eq_true rfl), (Nat.le_of_ble_eq_true rfl), (Nat.le_of_ble_eq_true rfl), (Nat.le_of_ble_eq_true rfl)⟩ rfl (cM_split C.2.2.2.2.2.1 hA (by simp only [rd, rdU, rowS, rowU, rowE, ne_eq, not_false_eq_true, Nat.reduceEqDiff, Int.reduceEq, true_and, false_and, and_true, and_false, and_self, ↓reduceIte]; intro j j0 j1; by_cases e9 : j = 0; (rw [e9, g3 (by omega)]; decide); (rw [g2 j (by omega) (by omega)]; exact (sRow_in (hb_of hm.1) ⟨by omega, j1⟩).2.2.2)) (by simp only [rd, rdU, rowS, rowU, rowE, ne_eq, not_false_eq_true, Nat.reduceEqDiff, Int.reduceEq, true_and, false_and, and_true, and_false, and_self, ↓reduceIte]; exact g3 (by omega)) (fun s r hs9 => ?_))
          try simp only [rd, rdU, rowS, rowU, rowE, ne_eq, not_false_eq_true, Nat.reduceEqDiff, Int.reduceEq, true_and, false_and, and_true, and_false, and_self, ↓reduceIte] at hs9
          have hs7 : ∀ j, 1 ≤ j → j ≤ 40 → s j = spl (sRp I0 L0) A j := fun j j0 j1 => by rw [hs9 j j0 j1]; exact spl_congr (fun j j0 j1 => g2 j j0 (by omega)) ⟨j0, j1⟩
          refine r_ik C dM_shareResidue_103 ?_
          refine r_ist C dM_shareResidue_104 (by decide) (ls' := [(0, _), (1, _), (3, _), (4, _)]) rfl ?_
          have h := loop2 50 1 z w9 s r (L 100) (by omega) (by omega) (by have g8 := g4.2; rw [show (i - 1).toNat = 40 by omega] at g8; intro e; rw [if_neg (by omega)] at g8; omega) hs7 (fun j j0 j1 => by omega)
          rw [show L 100 = (setR (setR (setR L 109 w9) 110 s) 111 r) 100 by rw [rowS _ _ _ _ (by decide), rowS _ _ _ _ (by decide), rowS _ _ _ _ (by decide)], setR_id] at h
          exact h
        · refine r_ald C dM_shareResidue_83 rfl ?_
          refine r_getR C dM_shareResidue_84 rfl rfl ?_
          refine r_ik C dM_shareResidue_87 ?_
          refine r_ald C dM_shareResidue_88 rfl ?_
          refine r_getR C dM_shareResidue_89 rfl rfl ?_
          refine r_ik C dM_shareResidue_92 ?_
          refine r_lald C dM_shareResidue_93 rfl ⟨by omega, by omega⟩ (by decide) ?_
          try simp only [rd, rdU, rowS, rowU, rowE, ne_eq, not_false_eq_true, Nat.reduceEqDiff, Int.reduceEq, true_and, false_and, and_true, and_false, and_self, ↓reduceIte]
          refine r_lld C dM_shareResidue_94 rfl ?_
          refine r_ladd C dM_shareResidue_95 ?_
          refine r_last C dM_shareResidue_96 rfl rfl ⟨by omega, by omega⟩ (by decide) ?_
          exact r_vret C dM_shareResidue_97 rfl (Nat.le_of_ble_eq_true rfl) (Nat.le_of_ble_eq_true rfl) (h0 w9 (by have hsm := sm_le (f := sRp I0 L0) (B := 1000000000000) (fun j j0 j1 => (sRow_in (hb_of hm.1) ⟨j0, j1⟩).2.2.2) 40 (by decide); have g8 := g4.2; rw [show (i - 1).toNat = 40 by omega] at g8; by_cases e : 0 < sm (sRp I0 L0) 40; (rw [if_pos e] at g8; omega); omega))
      · refine Gd.mgI (if 0 < i ∧ I 85 i = 4 ∧ I 94 i = 0 then 1 else 0) 32 (fun v32 hv32 => ?_) (fun j32 => ?_)
        · refine r_ist C dM_shareResidue_32 (by decide) (ls' := [(0, _), (1, _), (3, _), (4, _), (5, _)]) rfl ?_
          refine r_ald C dM_shareResidue_34 rfl ?_
          refine r_getR C dM_shareResidue_35 rfl rfl ?_
          refine r_ild C dM_shareResidue_38 rfl ?_
          have hm2 : v32 ≠ 0 → 1 ≤ I 88 i ∧ I 88 i ≤ 1000 := fun h => ((hm.amt (j := i) (by omega) (by omega)).2.2 (by omega)).2
          refine Gd.mgL (if 0 < i then sRp I0 L0 i else 0) 57 (fun v57 hv57 => ?_) (fun j57 => ?_)
          · refine r_last C dM_shareResidue_57 rfl rfl ⟨by omega, by omega⟩ (by decide) ?_
            refine Gd.mgI (if z ≠ 0 ∨ v32 ≠ 0 then 1 else 0) 72 (fun v72 hv72 => ?_) (fun j72 => ?_)
            · refine r_ist C dM_shareResidue_72 (by decide) (ls' := [(0, _), (1, _), (3, _), (4, _), (5, _)]) rfl ?_
              refine r_iinc C dM_shareResidue_73 (by decide) rfl (ls' := [(0, _), (1, _), (3, _), (4, _), (5, _)]) rfl ?_
              refine r_goto C dM_shareResidue_76 ?_
              refine Gd.drop (ls := [_, _, _, _]) (ls2 := [_]) ?_
              simp only [up_eq, up_ne, rd, rdU, rowS, rowU, rowE, ne_eq, Nat.reduceEqDiff, Int.reduceEq, not_false_eq_true, true_and, false_and, and_true, and_false, ↓reduceIte]
              refine ih (i + 1) _ _ (dn hq (by omega)) ⟨by omega, by omega⟩ (fun j j0 j1 => ?_) (fun _ => ?_) ?_
              · by_cases e9 : j = i
                · subst e9; rw [up1_s, hv57, if_pos (by omega)]
                · rw [up1_o _ e9]; exact g2 j j0 (by omega)
              · by_cases e9 : (0 : Int) = i
                · subst e9; rw [up1_s, hv57, if_neg (by omega)]
                · rw [up1_o _ e9]; exact g3 (by omega)
              · by_cases e9 : i = 0
                · subst e9; have e8 : z = 0 := g4.2; rw [if_neg (by omega)] at hv32; rw [if_neg (by omega)] at hv72; rw [hv72]; exact ⟨Or.inl rfl, rfl⟩
                · have hr9 := sRp_eq hm ⟨by omega, by omega⟩ (hs i (by omega) (by omega)); have hm9 := (hm.amt (j := i) (by omega) (by omega)).2.2; have hsm := sm_le (f := sRp I0 L0) (B := 1000000000000) (fun j j0 j1 => (sRow_in (hb_of hm.1) ⟨j0, j1⟩).2.2.2) (i - 1).toNat (by omega); obtain ⟨g5, g6⟩ := g4; refine ⟨by omega, ?_⟩; rw [sm_to _ (show 1 ≤ i by omega)]; clear g5 hv57 hs g2 g3; by_cases e7 : I 85 i = 4 ∧ I 94 i = 0; (rw [if_pos e7] at hr9; rw [if_pos ⟨by omega, e7⟩] at hv32; rw [hv72, if_pos (by omega), if_pos (by have := hm9 e7.1; omega)]); (rw [if_neg e7] at hr9; rw [if_neg (fun h9 => e7 h9.2)] at hv32; rw [hr9, Int.add_zero, ← g6, hv72, hv32]; clear hr9 hm9 hsm; split <;> omega)
            · refine r_ild C dM_shareResidue_58 rfl ?_
              refine r_if_ne C dM_shareResidue_59 (by omega) (fun b59 => ?_) (fun b59 => ?_)
              · refine r_ik C dM_shareResidue_67 ?_
                refine r_goto C dM_shareResidue_68 ?_
                exact j72 _ (by omega)
              · refine r_ild C dM_shareResidue_62 rfl ?_
                refine r_if_eq C dM_shareResidue_64 (by omega) (fun b64 => ?_) (fun b64 => ?_)
                · refine r_ik C dM_shareResidue_71 ?_
                  exact j72 _ (by omega)
                · refine r_ik C dM_shareResidue_67 ?_
                  refine r_goto C dM_shareResidue_68 ?_
                  exact j72 _ (by omega)
          · refine r_ild C dM_shareResidue_40 rfl ?_
            refine r_if_eq C dM_shareResidue_42 (by omega) (fun b42 => ?_) (fun b42 => ?_)
            · refine r_lk C dM_shareResidue_56 ?_
              exact j57 _ (by (by_cases e7 : 0 < i); (rw [if_pos e7, sRp_eq hm ⟨by omega, by omega⟩ (hs i (by omega) (by omega))]; clear g9; omega); (rw [if_neg e7]; try omega))
            · refine r_ald C dM_shareResidue_45 rfl ?_
              refine r_getR C dM_shareResidue_46 rfl rfl ?_
              refine r_ild C dM_shareResidue_49 rfl ?_
              refine r_iald C dM_shareResidue_51 rfl ⟨by omega, by omega⟩ (by decide) ?_
              try simp only [rd, rdU, rowS, rowU, rowE, ne_eq, not_false_eq_true, Nat.reduceEqDiff, Int.reduceEq, true_and, false_and, and_true, and_false, and_self, ↓reduceIte]
              refine r_i2l C dM_shareResidue_52 (by omega) ?_
              refine r_goto C dM_shareResidue_53 ?_
              exact j57 _ (by (by_cases e7 : 0 < i); (rw [if_pos e7, sRp_eq hm ⟨by omega, by omega⟩ (hs i (by omega) (by omega))]; clear g9; omega); (rw [if_neg e7]; try omega))
        · refine r_ild C dM_shareResidue_12 rfl ?_
          refine r_if_le C dM_shareResidue_14 (by omega) (fun b14 => ?_) (fun b14 => ?_)
          · refine r_ik C dM_shareResidue_31 ?_
            exact j32 _ (by omega)
          · refine r_ald C dM_shareResidue_17 rfl ?_
            refine r_ild C dM_shareResidue_18 rfl ?_
            refine r_ik C dM_shareResidue_20 ?_
            refine r_callV C lzM_isGood dM_shareResidue_21 _ [_, _] [] rfl rfl rfl rfl rfl (Nat.le_of_ble_eq_true rfl) ⟨(Nat.le_of_ble_eq_true rfl), (Nat.le_of_ble_eq_true rfl), (Nat.le_of_ble_eq_true rfl), (Nat.le_of_ble_eq_true rfl)⟩ rfl (cM_isGood C.2.2.2.2.2.1 ⟨by omega, by omega⟩ (by decide) (hm.cla (j := i) (by omega) (by omega)).2.1 (by have := hs i (by omega) (by omega); have := st0_in (I := I0) i; omega) (fun b21 => ?_) (fun b21 => ?_))
            · refine r_if_eq C dM_shareResidue_24 (by omega) (fun b24 => ?_) (fun b24 => ?_)
              · omega
              · refine r_ik C dM_shareResidue_27 ?_
                refine r_goto C dM_shareResidue_28 ?_
                exact j32 _ (by omega)
            · refine r_if_eq C dM_shareResidue_24 (by omega) (fun b24 => ?_) (fun b24 => ?_)
              · refine r_ik C dM_shareResidue_31 ?_
                exact j32 _ (by omega)
              · omega
  refine r_ik C dM_shareResidue_0 ?_
  refine r_ist C dM_shareResidue_1 (by decide) (ls' := [(0, _), (1, _), (3, _)]) rfl ?_
  refine r_ik C dM_shareResidue_2 ?_
  refine r_ist C dM_shareResidue_3 (by decide) (ls' := [(0, _), (1, _), (3, _), (4, _)]) rfl ?_
  have h := loop1 50 0 0 (L 109) (by omega) (by omega) (fun j j0 j1 => by omega) (fun h => by omega) ⟨by decide, rfl⟩
  rw [setR_id] at h
  exact h
set_option maxRecDepth 100000 in
set_option maxHeartbeats 4000000 in
theorem cM_spread {g : ed_g} {l : Launch} (hl : l.stackTraces = false) {I0 : ed_I} {L0 : ed_L} {I : ed_I} {L : ed_L} {A : Int} (hA : 0 ≤ A ∧ A ≤ 1000000000000000) (hm : Mt I0 L0 I L) (hs : ∀ j, 1 ≤ j → j ≤ 40 → I 94 j = st0 I0 j) (hd : (∀ j, 1 ≤ j → j ≤ 40 → L 101 j = sOwn I0 L0 j ∧ L 102 j = sOrd I0 L0 j)) {post : ed_post} (hn : ∀ f w9 s r p h : Int → Int, (∀ j, 1 ≤ j → j ≤ 40 → p j = sOwn I0 L0 j + spl (sOrd I0 L0) A j) → (∀ j, 1 ≤ j → j ≤ 40 → f j = (if st0 I0 j = 0 then 3 else st0 I0 j) ∧ h j = if st0 I0 j = 0 then L 98 j else L 99 j) → post (.inl none) Yw (setR I 94 f) (setR (setR (setR (setR (setR L 109 w9) 110 s) 111 r) 103 p) 99 h)) : ed_Ct g l mM_spread 2 0 0 [.ref 79, .long (lZ A)] Yw I L post := by
  refine ed_Ct.of hl rfl (Nat.le_of_ble_eq_true rfl) (fun x _ C => ?_)
  show Gd g x post _ _ _ _ _ _ _ _ 0 [(0, _), (1, _)] []
  have loop3 : ∀ (q : Nat) (i : Int) (f w9 s r p h : Int → Int), (41 - i).toNat < q → 1 ≤ i ∧ i ≤ 41 → (∀ j, 1 ≤ j → j ≤ 40 → p j = sOwn I0 L0 j + spl (sOrd I0 L0) A j) → (∀ j, 1 ≤ j → j < i → f j = (if st0 I0 j = 0 then 3 else st0 I0 j) ∧ h j = if st0 I0 j = 0 then L 98 j else L 99 j) → (∀ j, i ≤ j → j ≤ 40 → f j = st0 I0 j ∧ h j = L 99 j) → Gd g x post 0 0 mM_spread.2.2.1 0 0 Yw (setR I 94 f) (setR (setR (setR (setR (setR L 109 w9) 110 s) 111 r) 103 p) 99 h) 74 [(0, .ref 79), (1, .long (lZ A)), (3, .int (iZ i))] [] := by
    intro q
    induction q with
    | zero => intro i f w9 s r p h hq; omega
    | succ q ih =>
      intro i f w9 s r p h hq g1 g2 g3 g4
      have z8 : i ≤ 40 → f i = st0 I0 i ∧ -1 ≤ st0 I0 i ∧ st0 I0 i ≤ 2 := fun h => ⟨(g4 i (by omega) h).1, st0_in i⟩
      refine r_ild C dM_spread_74 rfl ?_
      refine r_ik C dM_spread_75 ?_
      refine r_icmp_ge C dM_spread_77 (by omega) (fun b77 => ?_) (fun b77 => ?_)
      · exact r_vret C dM_spread_114 rfl (Nat.le_of_ble_eq_true rfl) (Nat.le_of_ble_eq_true rfl) (hn f w9 s r p h g2 (fun j j0 j1 => g3 j j0 (by omega)))
      · refine r_ald C dM_spread_80 rfl ?_
        refine r_getR C dM_spread_81 rfl rfl ?_
        refine r_ild C dM_spread_84 rfl ?_
        refine r_iald C dM_spread_85 rfl ⟨by omega, by omega⟩ (by decide) ?_
        try simp only [rd, rdU, rowS, rowU, rowE, ne_eq, not_false_eq_true, Nat.reduceEqDiff, Int.reduceEq, true_and, false_and, and_true, and_false, and_self, ↓reduceIte]
        refine r_if_ne C dM_spread_86 (by omega) (fun b9 => ?_) (fun b9 => ?_)
        · refine r_iinc C dM_spread_108 (by decide) rfl (ls' := [(0, _), (1, _), (3, _)]) rfl ?_
          refine r_goto C dM_spread_111 ?_
          have z9 := g4 i (by omega) (by omega)
          refine ih (i + 1) _ _ _ _ _ _ (dn hq (by omega)) ⟨by omega, by omega⟩ g2 (fun j j0 j1 => ?_) (fun j j0 j1 => ?_)
          · by_cases e9 : j = i
            · subst e9; rw [if_neg (by omega), if_neg (by omega)]; exact z9
            · exact g3 j j0 (by omega)
          · exact g4 j (by omega) j1
        · refine r_ald C dM_spread_89 rfl ?_
          refine r_getR C dM_spread_90 rfl rfl ?_
          refine r_ild C dM_spread_93 rfl ?_
          refine r_ik C dM_spread_94 ?_
          refine r_iast C dM_spread_95 rfl rfl ⟨by omega, by omega⟩ (by decide) ?_
          refine r_ald C dM_spread_96 rfl ?_
          refine r_getR C dM_spread_97 rfl rfl ?_
          refine r_ild C dM_spread_100 rfl ?_
          refine r_ald C dM_spread_101 rfl ?_
          refine r_getR C dM_spread_102 rfl rfl ?_
          refine r_ild C dM_spread_105 rfl ?_
          refine r_lald C dM_spread_106 rfl ⟨by omega, by omega⟩ (by decide) ?_
          try simp only [rd, rdU, rowS, rowU, rowE, ne_eq, not_false_eq_true, Nat.reduceEqDiff, Int.reduceEq, true_and, false_and, and_true, and_false, and_self, ↓reduceIte]
          refine r_last C dM_spread_107 rfl rfl ⟨by omega, by omega⟩ (by decide) ?_
          refine r_iinc C dM_spread_108 (by decide) rfl (ls' := [(0, _), (1, _), (3, _)]) rfl ?_
          refine r_goto C dM_spread_111 ?_
          simp only [up_eq, up_ne, rd, rdU, rowS, rowU, rowE, ne_eq, Nat.reduceEqDiff, Int.reduceEq, not_false_eq_true, true_and, false_and, and_true, and_false, ↓reduceIte]
          have z9 := g4 i (by omega) (by omega)
          refine ih (i + 1) _ _ _ _ _ _ (dn hq (by omega)) ⟨by omega, by omega⟩ g2 (fun j j0 j1 => ?_) (fun j j0 j1 => ?_)
          · by_cases e9 : j = i
            · subst e9; rw [up1_s, up1_s, if_pos (by omega), if_pos (by omega)]; exact ⟨rfl, rfl⟩
            · rw [up1_o _ e9, up1_o _ e9]; exact g3 j j0 (by omega)
          · rw [up1_o _ (show j ≠ i by omega), up1_o _ (show j ≠ i by omega)]; exact g4 j (by omega) j1
  have loop2 : ∀ (q : Nat) (i : Int) (w9 s r p : Int → Int), (41 - i).toNat < q → 1 ≤ i ∧ i ≤ 41 → (∀ j, 1 ≤ j → j ≤ 40 → s j = spl (sOrd I0 L0) A j) → (∀ j, 1 ≤ j → j < i → p j = sOwn I0 L0 j + spl (sOrd I0 L0) A j) → Gd g x post 0 0 mM_spread.2.2.1 0 0 Yw I (setR (setR (setR (setR L 109 w9) 110 s) 111 r) 103 p) 41 [(0, .ref 79), (1, .long (lZ A)), (3, .int (iZ i))] [] := by
    intro q
    induction q with
    | zero => intro i w9 s r p hq; omega
    | succ q ih =>
      intro i w9 s r p hq g1 g2 g3
      refine r_ild C dM_spread_41 rfl ?_
      refine r_ik C dM_spread_42 ?_
      refine r_icmp_ge C dM_spread_44 (by omega) (fun b44 => ?_) (fun b44 => ?_)
      · refine r_ik C dM_spread_72 ?_
        refine r_ist C dM_spread_73 (by decide) (ls' := [(0, _), (1, _), (3, _)]) rfl ?_
        have h := loop3 50 1 (I 94) w9 s r p (L 99) (by omega) (by omega) (fun j j0 j1 => g3 j j0 (by omega)) (fun j j0 j1 => by omega) (fun j j0 j1 => ⟨hs j (by omega) j1, rfl⟩)
        rw [setR_id, show L 99 = (setR (setR (setR (setR L 109 w9) 110 s) 111 r) 103 p) 99 by rw [rowS _ _ _ _ (by decide), rowS _ _ _ _ (by decide), rowS _ _ _ _ (by decide), rowS _ _ _ _ (by decide)], setR_id] at h
        exact h
      · refine r_ald C dM_spread_47 rfl ?_
        refine r_getR C dM_spread_48 rfl rfl ?_
        refine r_ild C dM_spread_51 rfl ?_
        refine r_ald C dM_spread_52 rfl ?_
        refine r_getR C dM_spread_53 rfl rfl ?_
        refine r_ild C dM_spread_56 rfl ?_
        refine r_lald C dM_spread_57 rfl ⟨by omega, by omega⟩ (by decide) ?_
        try simp only [rd, rdU, rowS, rowU, rowE, ne_eq, not_false_eq_true, Nat.reduceEqDiff, Int.reduceEq, true_and, false_and, and_true, and_false, and_self, ↓reduceIte]
        refine r_ald C dM_spread_58 rfl ?_
        refine r_getR C dM_spread_59 rfl rfl ?_
        refine r_ild C dM_spread_62 rfl ?_
        refine r_lald C dM_spread_63 rfl ⟨by omega, by omega⟩ (by decide) ?_
        try simp only [rd, rdU, rowS, rowU, rowE, ne_eq, not_false_eq_true, Nat.reduceEqDiff, Int.reduceEq, true_and, false_and, and_true, and_false, and_self, ↓reduceIte]
        refine r_ladd C dM_spread_64 ?_
        refine r_last C dM_spread_65 rfl rfl ⟨by omega, by omega⟩ (by decide) ?_
        refine r_iinc C dM_spread_66 (by decide) rfl (ls' := [(0, _), (1, _), (3, _)]) rfl ?_
        refine r_goto C dM_spread_69 ?_
        simp only [up_eq, up_ne, rd, rdU, rowS, rowU, rowE, ne_eq, Nat.reduceEqDiff, Int.reduceEq, not_false_eq_true, true_and, false_and, and_true, and_false, ↓reduceIte]
        exact ih (i + 1) _ _ _ _ (dn hq (by omega)) ⟨by omega, by omega⟩ g2 (fun j j0 j1 => by by_cases e : j = i; (subst e; rw [up1_s, g2 j (by omega) (by omega), (hd j (by omega) (by omega)).1]); (rw [up1_o _ e]; exact g3 j j0 (by omega)))
  have loop1 : ∀ (q : Nat) (i : Int) (w9 : Int → Int), (41 - i).toNat < q → 0 ≤ i ∧ i ≤ 41 → (∀ j, 1 ≤ j → j < i → w9 j = sOrd I0 L0 j) → (0 < i → w9 0 = 0) → Gd g x post 0 0 mM_spread.2.2.1 0 0 Yw I (setR L 109 w9) 2 [(0, .ref 79), (1, .long (lZ A)), (3, .int (iZ i))] [] := by
    intro q
    induction q with
    | zero => intro i w9 hq; omega
    | succ q ih =>
      intro i w9 hq g1 g2 g3
      refine r_ild C dM_spread_2 rfl ?_
      refine r_ik C dM_spread_3 ?_
      refine r_icmp_ge C dM_spread_5 (by omega) (fun b5 => ?_) (fun b5 => ?_)
      · refine r_ald C dM_spread_34 rfl ?_
        refine r_lld C dM_spread_35 rfl ?_
        refine r_callV C lzM_split dM_spread_36 _ [_] [] rfl rfl rfl rfl rfl (Nat.le_of_ble_eq_true rfl) ⟨(Nat.le_of_ble_eq_true rfl), (Nat.le_of_ble_eq_true rfl), (Nat.le_of_ble_eq_true rfl), (Nat.le_of_ble_eq_true rfl)⟩ rfl (cM_split C.2.2.2.2.2.1 hA (by simp only [rd, rdU, rowS, rowU, rowE, ne_eq, not_false_eq_true, Nat.reduceEqDiff, Int.reduceEq, true_and, false_and, and_true, and_false, and_self, ↓reduceIte]; intro j j0 j1; by_cases e9 : j = 0; (rw [e9, g3 (by omega)]; decide); (rw [g2 j (by omega) (by omega)]; exact sOrd_in (hb_of hm.1) ⟨by omega, j1⟩)) (by simp only [rd, rdU, rowS, rowU, rowE, ne_eq, not_false_eq_true, Nat.reduceEqDiff, Int.reduceEq, true_and, false_and, and_true, and_false, and_self, ↓reduceIte]; exact g3 (by omega)) (fun s r hs9 => ?_))
        try simp only [rd, rdU, rowS, rowU, rowE, ne_eq, not_false_eq_true, Nat.reduceEqDiff, Int.reduceEq, true_and, false_and, and_true, and_false, and_self, ↓reduceIte] at hs9
        have hs7 : ∀ j, 1 ≤ j → j ≤ 40 → s j = spl (sOrd I0 L0) A j := fun j j0 j1 => by rw [hs9 j j0 j1]; exact spl_congr (fun j j0 j1 => g2 j j0 (by omega)) ⟨j0, j1⟩
        refine r_ik C dM_spread_39 ?_
        refine r_ist C dM_spread_40 (by decide) (ls' := [(0, _), (1, _), (3, _)]) rfl ?_
        have h := loop2 50 1 w9 s r (L 103) (by omega) (by omega) hs7 (fun j j0 j1 => by omega)
        rw [show L 103 = (setR (setR (setR L 109 w9) 110 s) 111 r) 103 by rw [rowS _ _ _ _ (by decide), rowS _ _ _ _ (by decide), rowS _ _ _ _ (by decide)], setR_id] at h
        exact h
      · refine r_ald C dM_spread_8 rfl ?_
        refine r_getR C dM_spread_9 rfl rfl ?_
        refine r_ild C dM_spread_12 rfl ?_
        refine Gd.mgL (if 0 < i then L 102 i else 0) 27 (fun v27 hv27 => ?_) (fun j27 => ?_)
        · refine r_last C dM_spread_27 rfl rfl ⟨by omega, by omega⟩ (by decide) ?_
          refine r_iinc C dM_spread_28 (by decide) rfl (ls' := [(0, _), (1, _), (3, _)]) rfl ?_
          refine r_goto C dM_spread_31 ?_
          simp only [up_eq, up_ne, rd, rdU, rowS, rowU, rowE, ne_eq, Nat.reduceEqDiff, Int.reduceEq, not_false_eq_true, true_and, false_and, and_true, and_false, ↓reduceIte]
          refine ih (i + 1) _ (dn hq (by omega)) ⟨by omega, by omega⟩ (fun j j0 j1 => ?_) (fun _ => ?_)
          · by_cases e9 : j = i
            · subst e9; rw [up1_s, hv27, if_pos (by omega)]; exact (hd j (by omega) (by omega)).2
            · rw [up1_o _ e9]; exact g2 j j0 (by omega)
          · by_cases e9 : (0 : Int) = i
            · subst e9; rw [up1_s, hv27, if_neg (by omega)]
            · rw [up1_o _ e9]; exact g3 (by omega)
        · refine r_ild C dM_spread_13 rfl ?_
          refine r_if_le C dM_spread_14 (by omega) (fun b14 => ?_) (fun b14 => ?_)
          · refine r_lk C dM_spread_26 ?_
            exact j27 _ (by omega)
          · refine r_ald C dM_spread_17 rfl ?_
            refine r_getR C dM_spread_18 rfl rfl ?_
            refine r_ild C dM_spread_21 rfl ?_
            refine r_lald C dM_spread_22 rfl ⟨by omega, by omega⟩ (by decide) ?_
            try simp only [rd, rdU, rowS, rowU, rowE, ne_eq, not_false_eq_true, Nat.reduceEqDiff, Int.reduceEq, true_and, false_and, and_true, and_false, and_self, ↓reduceIte]
            refine r_goto C dM_spread_23 ?_
            exact j27 _ (by omega)
  refine r_ik C dM_spread_0 ?_
  refine r_ist C dM_spread_1 (by decide) (ls' := [(0, _), (1, _), (3, _)]) rfl ?_
  have h := loop1 50 0 (L 109) (by omega) (by omega) (fun j j0 j1 => by omega) (fun h => by omega)
  rw [setR_id] at h
  exact h
set_option maxRecDepth 100000 in
set_option maxHeartbeats 4000000 in
theorem cM_hand {g : ed_g} {l : Launch} (hl : l.stackTraces = false) {I0 : ed_I} {L0 : ed_L} {I : ed_I} {L : ed_L} (hm : Mt I0 L0 I L) (hs : ∀ j, 1 ≤ j → j ≤ 40 → I 94 j = st0 I0 j) (ht : (∀ j, 1 ≤ j → j ≤ 40 → I 95 j = sTk I0 j)) (how : (∀ j, 1 ≤ j → j ≤ 40 → L 101 j = sOwn I0 L0 j)) (hbe : (∀ j, 1 ≤ j → j ≤ 40 → L 99 j = sBe I0 L0 j)) (hv : (∀ j, 1 ≤ j → j ≤ 40 → L 98 j = sGi I0 L0 j + sDr I0 L0 j + sGe I0 L0 j)) (hu : (∀ j, 1 ≤ j → j ≤ 40 → L 100 j = sSr I0 L0 j)) (hz : (∀ m, 0 ≤ m → m ≤ 40 → I 107 m = -1 ∧ L 104 m = 0 ∧ L 106 m = 0 ∧ L 105 m = s40 I0 L0 m)) {post : ed_post} (hn : ∀ f p a b e u : Int → Int, (∀ j, 1 ≤ j → j ≤ 40 → (f j = if st0 I0 j = 0 then (if 0 < sBe I0 L0 j then 3 else 0) else st0 I0 j) ∧ u j = if sq2 I0 j = true then sCs I0 L0 j else sSr I0 L0 j) → (∀ m, 0 ≤ m → m ≤ 40 → p m = ho (sq1 I0) (I0 17) (sTo I0) (fun _ => -1) 40 m ∧ a m = ac (sq1 I0) (sTo I0) (fun c => L0 8 (I0 17 c)) (fun _ => 0) 40 m ∧ b m = ac (sq1 I0) (sTo I0) (fun c => L0 8 (I0 17 c) - sGi I0 L0 c + sBe I0 L0 c) (fun _ => 0) 40 m ∧ e m = ac (sq2 I0) (sTo I0) (sCs I0 L0) (s40 I0 L0) 40 m) → post (.inl none) Yw (setR (setR I 107 p) 94 f) (setR (setR (setR (setR L 104 a) 106 b) 105 e) 100 u)) : ed_Ct g l mM_hand 1 0 0 [.ref 79] Yw I L post := by
  refine ed_Ct.of hl rfl (Nat.le_of_ble_eq_true rfl) (fun x _ C => ?_)
  show Gd g x post _ _ _ _ _ _ _ _ 0 [(0, _)] []
  have loop : ∀ (q : Nat) (i : Int) (f p a b e u : Int → Int), (41 - i).toNat < q → 1 ≤ i ∧ i ≤ 41 → True → (∀ j, 1 ≤ j → j < i → (f j = if st0 I0 j = 0 then (if 0 < sBe I0 L0 j then 3 else 0) else st0 I0 j) ∧ u j = if sq2 I0 j = true then sCs I0 L0 j else sSr I0 L0 j) → (∀ j, i ≤ j → j ≤ 40 → f j = st0 I0 j ∧ u j = sSr I0 L0 j) → (∀ m, 0 ≤ m → m ≤ 40 → p m = ho (sq1 I0) (I0 17) (sTo I0) (fun _ => -1) (i - 1).toNat m ∧ a m = ac (sq1 I0) (sTo I0) (fun c => L0 8 (I0 17 c)) (fun _ => 0) (i - 1).toNat m ∧ b m = ac (sq1 I0) (sTo I0) (fun c => L0 8 (I0 17 c) - sGi I0 L0 c + sBe I0 L0 c) (fun _ => 0) (i - 1).toNat m ∧ e m = ac (sq2 I0) (sTo I0) (sCs I0 L0) (s40 I0 L0) (i - 1).toNat m) → Gd g x post 0 0 mM_hand.2.2.1 0 0 Yw (setR (setR I 107 p) 94 f) (setR (setR (setR (setR L 104 a) 106 b) 105 e) 100 u) 2 [(0, .ref 79), (1, .int (iZ i))] [] := by
    intro q
    induction q with
    | zero => intro i f p a b e u hq; omega
    | succ q ih =>
      intro i f p a b e u hq g1 g2 g3 g4 g5
      have z7 := fun (h : i ≤ 40) => g4 i (by omega) h
      have z8 := st0_in (I := I0) i
      refine r_ild C dM_hand_2 rfl ?_
      refine r_ik C dM_hand_3 ?_
      refine r_icmp_ge C dM_hand_5 (by omega) (fun b5 => ?_) (fun b5 => ?_)
      · exact r_vret C dM_hand_179 rfl (Nat.le_of_ble_eq_true rfl) (Nat.le_of_ble_eq_true rfl) (hn f p a b e u (fun j j0 j1 => g3 j j0 (by omega)) (fun m m0 m1 => by have h9 := g5 m m0 m1; rw [show (i - 1).toNat = 40 by omega] at h9; exact h9))
      · refine r_ald C dM_hand_8 rfl ?_
        refine r_getR C dM_hand_9 rfl rfl ?_
        refine r_ild C dM_hand_12 rfl ?_
        refine r_iald C dM_hand_13 rfl ⟨by omega, by omega⟩ (by decide) ?_
        try simp only [rd, rdU, rowS, rowU, rowE, ne_eq, not_false_eq_true, Nat.reduceEqDiff, Int.reduceEq, true_and, false_and, and_true, and_false, and_self, ↓reduceIte]
        replace z7 := z7 (by omega)
        refine r_if_ne C dM_hand_14 (by omega) (fun b14 => ?_) (fun b14 => ?_)
        · refine r_iinc C dM_hand_173 (by decide) rfl (ls' := [(0, _), (1, _)]) rfl ?_
          refine r_goto C dM_hand_176 ?_
          have z9 := g4 i (by omega) (by omega)
          obtain ⟨q1, q2⟩ := sq_bad (I := I0) (c := i) (by omega)
          refine ih (i + 1) _ _ _ _ _ _ (dn hq (by omega)) ⟨by omega, by omega⟩ trivial (fun j j0 j1 => ?_) (fun j j0 j1 => g4 j (by omega) j1) (fun m m0 m1 => ?_)
          · by_cases e9 : j = i
            · subst e9; rw [if_neg (by omega), if_neg q2]; exact z9
            · exact g3 j j0 (by omega)
          · rw [ho_to _ _ _ _ g1.1, ac_to _ _ _ _ g1.1, ac_to _ _ _ _ g1.1, ac_to _ _ _ _ g1.1, if_neg q1, if_neg q1, if_neg q1, if_neg q2]; exact g5 m m0 m1
        · clear z8
          obtain ⟨c1, c2, c3, c4, c5⟩ := hm.cla (j := i) (by omega) (by omega)
          have ht9 : I 95 i = sTo I0 i := by rw [ht i (by omega) (by omega), sTo_good (by omega)]
          have ht8 := sTk_in hm.1 (j := i) (by omega) (by omega)
          rw [← sTo_good (show st0 I0 i = 0 by omega)] at ht8
          have hb9 := hbe i (by omega) (by omega)
          have hb8 := sBe_in (hb_of hm.1) (j := i) (by omega)
          have ho9 := hm.ast (j := I 86 i) c3.1 c3.2
          refine r_ald C dM_hand_17 rfl ?_
          refine r_getR C dM_hand_18 rfl rfl ?_
          refine r_ild C dM_hand_21 rfl ?_
          refine r_iald C dM_hand_22 rfl ⟨by omega, by omega⟩ (by decide) ?_
          try simp only [rd, rdU, rowS, rowU, rowE, ne_eq, not_false_eq_true, Nat.reduceEqDiff, Int.reduceEq, true_and, false_and, and_true, and_false, and_self, ↓reduceIte]
          refine r_ist C dM_hand_23 (by decide) (ls' := [(0, _), (1, _), (2, _)]) rfl ?_
          refine r_ald C dM_hand_24 rfl ?_
          refine r_getR C dM_hand_25 rfl rfl ?_
          refine r_ild C dM_hand_28 rfl ?_
          refine r_iald C dM_hand_29 rfl ⟨by omega, by omega⟩ (by decide) ?_
          try simp only [rd, rdU, rowS, rowU, rowE, ne_eq, not_false_eq_true, Nat.reduceEqDiff, Int.reduceEq, true_and, false_and, and_true, and_false, and_self, ↓reduceIte]
          refine r_ik C dM_hand_30 ?_
          refine r_icmp_ne C dM_hand_31 (by omega) (fun b9 => ?_) (fun b9 => ?_)
          · refine r_ald C dM_hand_103 rfl ?_
            refine r_getR C dM_hand_104 rfl rfl ?_
            refine r_ild C dM_hand_107 rfl ?_
            refine r_iald C dM_hand_108 rfl ⟨by omega, by omega⟩ (by decide) ?_
            try simp only [rd, rdU, rowS, rowU, rowE, ne_eq, not_false_eq_true, Nat.reduceEqDiff, Int.reduceEq, true_and, false_and, and_true, and_false, and_self, ↓reduceIte]
            refine r_ik C dM_hand_109 ?_
            refine r_icmp_ge C dM_hand_110 (by omega) (fun b10 => ?_) (fun b10 => ?_)
            · refine r_ald C dM_hand_132 rfl ?_
              refine r_getR C dM_hand_133 rfl rfl ?_
              refine r_ild C dM_hand_136 rfl ?_
              refine r_ald C dM_hand_137 rfl ?_
              refine r_getR C dM_hand_138 rfl rfl ?_
              refine r_ild C dM_hand_141 rfl ?_
              refine r_lald C dM_hand_142 rfl ⟨by omega, by omega⟩ (by decide) ?_
              try simp only [rd, rdU, rowS, rowU, rowE, ne_eq, not_false_eq_true, Nat.reduceEqDiff, Int.reduceEq, true_and, false_and, and_true, and_false, and_self, ↓reduceIte]
              refine r_ald C dM_hand_143 rfl ?_
              refine r_getR C dM_hand_144 rfl rfl ?_
              refine r_ild C dM_hand_147 rfl ?_
              refine r_lald C dM_hand_148 rfl ⟨by omega, by omega⟩ (by decide) ?_
              try simp only [rd, rdU, rowS, rowU, rowE, ne_eq, not_false_eq_true, Nat.reduceEqDiff, Int.reduceEq, true_and, false_and, and_true, and_false, and_self, ↓reduceIte]
              refine r_ladd C dM_hand_149 ?_
              refine r_last C dM_hand_150 rfl rfl ⟨by omega, by omega⟩ (by decide) ?_
              refine r_ald C dM_hand_151 rfl ?_
              refine r_getR C dM_hand_152 rfl rfl ?_
              refine r_ild C dM_hand_155 rfl ?_
              refine Gd.mgI (if 0 < sBe I0 L0 i then 3 else 0) 172 (fun v172 hv172 => ?_) (fun j172 => ?_)
              · refine r_iast C dM_hand_172 rfl rfl ⟨by omega, by omega⟩ (by decide) ?_
                refine r_iinc C dM_hand_173 (by decide) rfl (ls' := [(0, _), (1, _), (2, _)]) rfl ?_
                refine r_goto C dM_hand_176 ?_
                refine Gd.drop (ls := [_, _]) (ls2 := [_]) ?_
                simp only [up_eq, up_ne, rd, rdU, rowS, rowU, rowE, ne_eq, Nat.reduceEqDiff, Int.reduceEq, not_false_eq_true, true_and, false_and, and_true, and_false, ↓reduceIte]
                have z9 := g4 i (by omega) (by omega)
                obtain ⟨q1, q2⟩ := sq_2 (I := I0) (c := i) (by omega) (by omega)
                have hv9 := hv i (by omega) (by omega)
                have qc : sCs I0 L0 i = sSr I0 L0 i + (sGi I0 L0 i + sDr I0 L0 i + sGe I0 L0 i - sBe I0 L0 i) := rfl
                have q3 := none_4 (I := I0) (L := L0) (c := i) (by omega) (by omega)
                have q4 := val_4 (I := I0) (L := L0) (c := i) (by omega)
                refine ih (i + 1) _ _ _ _ _ _ (dn hq (by omega)) ⟨by omega, by omega⟩ trivial (fun j j0 j1 => ?_) (fun j j0 j1 => ?_) (fun m m0 m1 => ?_)
                · by_cases e9 : j = i
                  · subst e9; rw [up1_s, if_pos (by omega), if_pos q2]; exact ⟨hv172, by omega⟩
                  · rw [up1_o _ e9]; exact g3 j j0 (by omega)
                · rw [up1_o _ (show j ≠ i by omega)]; exact g4 j (by omega) j1
                · rw [ho_to _ _ _ _ g1.1, ac_to _ _ _ _ g1.1, ac_to _ _ _ _ g1.1, ac_to _ _ _ _ g1.1, if_neg q1, if_neg q1, if_neg q1, if_pos q2, ht9]
                  obtain ⟨m1_, m2_, m3_, m4_⟩ := g5 m m0 m1
                  obtain ⟨n1_, n2_, n3_, n4_⟩ := g5 (sTo I0 i) (by omega) (by omega)
                  refine ⟨m1_, m2_, m3_, ?_⟩
                  by_cases e9 : m = sTo I0 i
                  · rw [e9, up1_s, up1_s, ← n4_]; omega
                  · rw [up1_o _ e9, up1_o _ e9]; exact m4_
              · refine r_ald C dM_hand_156 rfl ?_
                refine r_getR C dM_hand_157 rfl rfl ?_
                refine r_ild C dM_hand_160 rfl ?_
                refine r_lald C dM_hand_161 rfl ⟨by omega, by omega⟩ (by decide) ?_
                try simp only [rd, rdU, rowS, rowU, rowE, ne_eq, not_false_eq_true, Nat.reduceEqDiff, Int.reduceEq, true_and, false_and, and_true, and_false, and_self, ↓reduceIte]
                refine r_lk C dM_hand_162 ?_
                refine r_lc_le C dM_hand_163 dM_hand_164 (by omega) (fun b164 => ?_) (fun b164 => ?_)
                · refine r_ik C dM_hand_171 ?_
                  exact j172 _ (by omega)
                · refine r_ik C dM_hand_167 ?_
                  refine r_goto C dM_hand_168 ?_
                  exact j172 _ (by omega)
            · refine r_ald C dM_hand_113 rfl ?_
              refine r_getR C dM_hand_114 rfl rfl ?_
              refine r_ild C dM_hand_117 rfl ?_
              refine r_ald C dM_hand_118 rfl ?_
              refine r_getR C dM_hand_119 rfl rfl ?_
              refine r_ild C dM_hand_122 rfl ?_
              refine r_lald C dM_hand_123 rfl ⟨by omega, by omega⟩ (by decide) ?_
              try simp only [rd, rdU, rowS, rowU, rowE, ne_eq, not_false_eq_true, Nat.reduceEqDiff, Int.reduceEq, true_and, false_and, and_true, and_false, and_self, ↓reduceIte]
              refine r_ald C dM_hand_124 rfl ?_
              refine r_getR C dM_hand_125 rfl rfl ?_
              refine r_ild C dM_hand_128 rfl ?_
              refine r_lald C dM_hand_129 rfl ⟨by omega, by omega⟩ (by decide) ?_
              try simp only [rd, rdU, rowS, rowU, rowE, ne_eq, not_false_eq_true, Nat.reduceEqDiff, Int.reduceEq, true_and, false_and, and_true, and_false, and_self, ↓reduceIte]
              refine r_lsub C dM_hand_130 ?_
              refine r_last C dM_hand_131 rfl rfl ⟨by omega, by omega⟩ (by decide) ?_
              refine r_ald C dM_hand_132 rfl ?_
              refine r_getR C dM_hand_133 rfl rfl ?_
              refine r_ild C dM_hand_136 rfl ?_
              refine r_ald C dM_hand_137 rfl ?_
              refine r_getR C dM_hand_138 rfl rfl ?_
              refine r_ild C dM_hand_141 rfl ?_
              refine r_lald C dM_hand_142 rfl ⟨by omega, by omega⟩ (by decide) ?_
              try simp only [rd, rdU, rowS, rowU, rowE, ne_eq, not_false_eq_true, Nat.reduceEqDiff, Int.reduceEq, true_and, false_and, and_true, and_false, and_self, ↓reduceIte]
              refine r_ald C dM_hand_143 rfl ?_
              refine r_getR C dM_hand_144 rfl rfl ?_
              refine r_ild C dM_hand_147 rfl ?_
              refine r_lald C dM_hand_148 rfl ⟨by omega, by omega⟩ (by decide) ?_
              try simp only [rd, rdU, rowS, rowU, rowE, ne_eq, not_false_eq_true, Nat.reduceEqDiff, Int.reduceEq, true_and, false_and, and_true, and_false, and_self, ↓reduceIte]
              refine r_ladd C dM_hand_149 ?_
              refine r_last C dM_hand_150 rfl rfl ⟨by omega, by omega⟩ (by decide) ?_
              refine r_ald C dM_hand_151 rfl ?_
              refine r_getR C dM_hand_152 rfl rfl ?_
              refine r_ild C dM_hand_155 rfl ?_
              refine Gd.mgI (if 0 < sBe I0 L0 i then 3 else 0) 172 (fun v172 hv172 => ?_) (fun j172 => ?_)
              · refine r_iast C dM_hand_172 rfl rfl ⟨by omega, by omega⟩ (by decide) ?_
                refine r_iinc C dM_hand_173 (by decide) rfl (ls' := [(0, _), (1, _), (2, _)]) rfl ?_
                refine r_goto C dM_hand_176 ?_
                refine Gd.drop (ls := [_, _]) (ls2 := [_]) ?_
                simp only [up_eq, up_ne, rd, rdU, rowS, rowU, rowE, ne_eq, Nat.reduceEqDiff, Int.reduceEq, not_false_eq_true, true_and, false_and, and_true, and_false, ↓reduceIte]
                have z9 := g4 i (by omega) (by omega)
                obtain ⟨q1, q2⟩ := sq_2 (I := I0) (c := i) (by omega) (by omega)
                have hv9 := hv i (by omega) (by omega)
                have qc : sCs I0 L0 i = sSr I0 L0 i + (sGi I0 L0 i + sDr I0 L0 i + sGe I0 L0 i - sBe I0 L0 i) := rfl
                have q3 := none_1 (I := I0) (L := L0) (c := i) (by omega) (by omega)
                refine ih (i + 1) _ _ _ _ _ _ (dn hq (by omega)) ⟨by omega, by omega⟩ trivial (fun j j0 j1 => ?_) (fun j j0 j1 => ?_) (fun m m0 m1 => ?_)
                · by_cases e9 : j = i
                  · subst e9; rw [up1_s, up1_s, if_pos (by omega), if_pos q2]; exact ⟨hv172, by omega⟩
                  · rw [up1_o _ e9, up1_o _ e9]; exact g3 j j0 (by omega)
                · rw [up1_o _ (show j ≠ i by omega), up1_o _ (show j ≠ i by omega)]; exact g4 j (by omega) j1
                · rw [ho_to _ _ _ _ g1.1, ac_to _ _ _ _ g1.1, ac_to _ _ _ _ g1.1, ac_to _ _ _ _ g1.1, if_neg q1, if_neg q1, if_neg q1, if_pos q2, ht9]
                  obtain ⟨m1_, m2_, m3_, m4_⟩ := g5 m m0 m1
                  obtain ⟨n1_, n2_, n3_, n4_⟩ := g5 (sTo I0 i) (by omega) (by omega)
                  refine ⟨m1_, m2_, m3_, ?_⟩
                  by_cases e9 : m = sTo I0 i
                  · rw [e9, up1_s, up1_s, ← n4_]; omega
                  · rw [up1_o _ e9, up1_o _ e9]; exact m4_
              · refine r_ald C dM_hand_156 rfl ?_
                refine r_getR C dM_hand_157 rfl rfl ?_
                refine r_ild C dM_hand_160 rfl ?_
                refine r_lald C dM_hand_161 rfl ⟨by omega, by omega⟩ (by decide) ?_
                try simp only [rd, rdU, rowS, rowU, rowE, ne_eq, not_false_eq_true, Nat.reduceEqDiff, Int.reduceEq, true_and, false_and, and_true, and_false, and_self, ↓reduceIte]
                refine r_lk C dM_hand_162 ?_
                refine r_lc_le C dM_hand_163 dM_hand_164 (by omega) (fun b164 => ?_) (fun b164 => ?_)
                · refine r_ik C dM_hand_171 ?_
                  exact j172 _ (by omega)
                · refine r_ik C dM_hand_167 ?_
                  refine r_goto C dM_hand_168 ?_
                  exact j172 _ (by omega)
          · refine r_ald C dM_hand_34 rfl ?_
            refine r_getR C dM_hand_35 rfl rfl ?_
            refine r_ild C dM_hand_38 rfl ?_
            refine r_ald C dM_hand_39 rfl ?_
            refine r_getR C dM_hand_40 rfl rfl ?_
            refine r_ild C dM_hand_43 rfl ?_
            refine r_lald C dM_hand_44 rfl ⟨by omega, by omega⟩ (by decide) ?_
            try simp only [rd, rdU, rowS, rowU, rowE, ne_eq, not_false_eq_true, Nat.reduceEqDiff, Int.reduceEq, true_and, false_and, and_true, and_false, and_self, ↓reduceIte]
            refine r_ald C dM_hand_45 rfl ?_
            refine r_getR C dM_hand_46 rfl rfl ?_
            refine r_ald C dM_hand_49 rfl ?_
            refine r_getR C dM_hand_50 rfl rfl ?_
            refine r_ild C dM_hand_53 rfl ?_
            refine r_iald C dM_hand_54 rfl ⟨by omega, by omega⟩ (by decide) ?_
            try simp only [rd, rdU, rowS, rowU, rowE, ne_eq, not_false_eq_true, Nat.reduceEqDiff, Int.reduceEq, true_and, false_and, and_true, and_false, and_self, ↓reduceIte]
            refine r_lald C dM_hand_55 rfl ⟨by omega, by omega⟩ (by decide) ?_
            try simp only [rd, rdU, rowS, rowU, rowE, ne_eq, not_false_eq_true, Nat.reduceEqDiff, Int.reduceEq, true_and, false_and, and_true, and_false, and_self, ↓reduceIte]
            refine r_ladd C dM_hand_56 ?_
            refine r_last C dM_hand_57 rfl rfl ⟨by omega, by omega⟩ (by decide) ?_
            refine r_ald C dM_hand_58 rfl ?_
            refine r_getR C dM_hand_59 rfl rfl ?_
            refine r_ild C dM_hand_62 rfl ?_
            refine r_ald C dM_hand_63 rfl ?_
            refine r_getR C dM_hand_64 rfl rfl ?_
            refine r_ild C dM_hand_67 rfl ?_
            refine r_lald C dM_hand_68 rfl ⟨by omega, by omega⟩ (by decide) ?_
            try simp only [rd, rdU, rowS, rowU, rowE, ne_eq, not_false_eq_true, Nat.reduceEqDiff, Int.reduceEq, true_and, false_and, and_true, and_false, and_self, ↓reduceIte]
            refine r_ald C dM_hand_69 rfl ?_
            refine r_ald C dM_hand_70 rfl ?_
            refine r_getR C dM_hand_71 rfl rfl ?_
            refine r_ild C dM_hand_74 rfl ?_
            refine r_iald C dM_hand_75 rfl ⟨by omega, by omega⟩ (by decide) ?_
            try simp only [rd, rdU, rowS, rowU, rowE, ne_eq, not_false_eq_true, Nat.reduceEqDiff, Int.reduceEq, true_and, false_and, and_true, and_false, and_self, ↓reduceIte]
            refine r_callV C lzM_ownOf dM_hand_76 _ [_] [_, _, _] rfl rfl rfl rfl rfl (Nat.le_of_ble_eq_true rfl) ⟨(Nat.le_of_ble_eq_true rfl), (Nat.le_of_ble_eq_true rfl), (Nat.le_of_ble_eq_true rfl), (Nat.le_of_ble_eq_true rfl)⟩ rfl (cM_ownOf (I0 := I0) (L0 := L0) C.2.2.2.2.2.1 ⟨c5 (by omega), c3.2⟩ (by repeat (first | exact hm | refine Mt.sI ?_ (by decide) | refine Mt.sL ?_ (by decide) | refine Mt.uL ?_ (by decide) | refine Mt.uI ?_ (by decide))) (by simp only [rd, rdU, rowS, rowU, rowE, ne_eq, not_false_eq_true, Nat.reduceEqDiff, Int.reduceEq, true_and, false_and, and_true, and_false, and_self, ↓reduceIte]; exact how) ?_)
            refine r_ladd C dM_hand_79 ?_
            refine r_ald C dM_hand_80 rfl ?_
            refine r_getR C dM_hand_81 rfl rfl ?_
            refine r_ild C dM_hand_84 rfl ?_
            refine r_lald C dM_hand_85 rfl ⟨by omega, by omega⟩ (by decide) ?_
            try simp only [rd, rdU, rowS, rowU, rowE, ne_eq, not_false_eq_true, Nat.reduceEqDiff, Int.reduceEq, true_and, false_and, and_true, and_false, and_self, ↓reduceIte]
            refine r_ladd C dM_hand_86 ?_
            refine r_last C dM_hand_87 rfl rfl ⟨by omega, by omega⟩ (by decide) ?_
            refine r_ald C dM_hand_88 rfl ?_
            refine r_getR C dM_hand_89 rfl rfl ?_
            refine r_ald C dM_hand_92 rfl ?_
            refine r_getR C dM_hand_93 rfl rfl ?_
            refine r_ild C dM_hand_96 rfl ?_
            refine r_iald C dM_hand_97 rfl ⟨by omega, by omega⟩ (by decide) ?_
            try simp only [rd, rdU, rowS, rowU, rowE, ne_eq, not_false_eq_true, Nat.reduceEqDiff, Int.reduceEq, true_and, false_and, and_true, and_false, and_self, ↓reduceIte]
            refine r_ild C dM_hand_98 rfl ?_
            refine r_iast C dM_hand_99 rfl rfl ⟨by omega, by omega⟩ (by decide) ?_
            refine r_goto C dM_hand_100 ?_
            refine r_ald C dM_hand_132 rfl ?_
            refine r_getR C dM_hand_133 rfl rfl ?_
            refine r_ild C dM_hand_136 rfl ?_
            refine r_ald C dM_hand_137 rfl ?_
            refine r_getR C dM_hand_138 rfl rfl ?_
            refine r_ild C dM_hand_141 rfl ?_
            refine r_lald C dM_hand_142 rfl ⟨by omega, by omega⟩ (by decide) ?_
            try simp only [rd, rdU, rowS, rowU, rowE, ne_eq, not_false_eq_true, Nat.reduceEqDiff, Int.reduceEq, true_and, false_and, and_true, and_false, and_self, ↓reduceIte]
            refine r_ald C dM_hand_143 rfl ?_
            refine r_getR C dM_hand_144 rfl rfl ?_
            refine r_ild C dM_hand_147 rfl ?_
            refine r_lald C dM_hand_148 rfl ⟨by omega, by omega⟩ (by decide) ?_
            try simp only [rd, rdU, rowS, rowU, rowE, ne_eq, not_false_eq_true, Nat.reduceEqDiff, Int.reduceEq, true_and, false_and, and_true, and_false, and_self, ↓reduceIte]
            refine r_ladd C dM_hand_149 ?_
            refine r_last C dM_hand_150 rfl rfl ⟨by omega, by omega⟩ (by decide) ?_
            refine r_ald C dM_hand_151 rfl ?_
            refine r_getR C dM_hand_152 rfl rfl ?_
            refine r_ild C dM_hand_155 rfl ?_
            refine Gd.mgI (if 0 < sBe I0 L0 i then 3 else 0) 172 (fun v172 hv172 => ?_) (fun j172 => ?_)
            · refine r_iast C dM_hand_172 rfl rfl ⟨by omega, by omega⟩ (by decide) ?_
              refine r_iinc C dM_hand_173 (by decide) rfl (ls' := [(0, _), (1, _), (2, _)]) rfl ?_
              refine r_goto C dM_hand_176 ?_
              refine Gd.drop (ls := [_, _]) (ls2 := [_]) ?_
              simp only [up_eq, up_ne, rd, rdU, rowS, rowU, rowE, ne_eq, Nat.reduceEqDiff, Int.reduceEq, not_false_eq_true, true_and, false_and, and_true, and_false, ↓reduceIte]
              have z9 := g4 i (by omega) (by omega)
              obtain ⟨q1, q2⟩ := sq_1 (I := I0) (c := i) (by omega) (by omega)
              have q3 := none_1 (I := I0) (L := L0) (c := i) (by omega) (by omega)
              have q4 := gift_eq hm.1 (c := i) (by omega) (by omega) (by omega)
              have q5 := (hm.wo (j := i) (by omega) (by omega)) (Or.inl (by omega))
              have q6 := c4 (Or.inl (by omega))
              rw [q6] at q5
              refine ih (i + 1) _ _ _ _ _ _ (dn hq (by omega)) ⟨by omega, by omega⟩ trivial (fun j j0 j1 => ?_) (fun j j0 j1 => ?_) (fun m m0 m1 => ?_)
              · by_cases e9 : j = i
                · subst e9; rw [up1_s, if_pos (by omega), if_neg q2]; exact ⟨hv172, z9.2⟩
                · rw [up1_o _ e9]; exact g3 j j0 (by omega)
              · rw [up1_o _ (show j ≠ i by omega)]; exact g4 j (by omega) j1
              · rw [ho_to _ _ _ _ g1.1, ac_to _ _ _ _ g1.1, ac_to _ _ _ _ g1.1, ac_to _ _ _ _ g1.1, if_pos q1, if_pos q1, if_pos q1, if_neg q2, q6, ht9]
                obtain ⟨m1_, m2_, m3_, m4_⟩ := g5 m m0 m1
                obtain ⟨n1_, n2_, n3_, n4_⟩ := g5 (sTo I0 i) (by omega) (by omega)
                refine ⟨?_, ?_, ?_, ?_⟩
                · by_cases e9 : m = I0 17 i
                  · rw [e9, up1_s, up1_s]
                  · rw [up1_o _ e9, up1_o _ e9]; exact m1_
                · by_cases e9 : m = sTo I0 i
                  · rw [e9, up1_s, up1_s, ← n2_, q5.1]
                  · rw [up1_o _ e9, up1_o _ e9]; exact m2_
                · by_cases e9 : m = sTo I0 i
                  · rw [e9, up1_s, up1_s, ← n3_]; show _ = b (sTo I0 i) + (L0 8 (I0 17 i) - sGi I0 L0 i + sBe I0 L0 i); omega
                  · rw [up1_o _ e9, up1_o _ e9]; exact m3_
                · by_cases e9 : m = sTo I0 i
                  · rw [e9, up1_s, z9.2, q3, Int.add_zero]; exact n4_
                  · rw [up1_o _ e9]; exact m4_
            · refine r_ald C dM_hand_156 rfl ?_
              refine r_getR C dM_hand_157 rfl rfl ?_
              refine r_ild C dM_hand_160 rfl ?_
              refine r_lald C dM_hand_161 rfl ⟨by omega, by omega⟩ (by decide) ?_
              try simp only [rd, rdU, rowS, rowU, rowE, ne_eq, not_false_eq_true, Nat.reduceEqDiff, Int.reduceEq, true_and, false_and, and_true, and_false, and_self, ↓reduceIte]
              refine r_lk C dM_hand_162 ?_
              refine r_lc_le C dM_hand_163 dM_hand_164 (by omega) (fun b164 => ?_) (fun b164 => ?_)
              · refine r_ik C dM_hand_171 ?_
                exact j172 _ (by omega)
              · refine r_ik C dM_hand_167 ?_
                refine r_goto C dM_hand_168 ?_
                exact j172 _ (by omega)
  refine r_ik C dM_hand_0 ?_
  refine r_ist C dM_hand_1 (by decide) (ls' := [(0, _), (1, _)]) rfl ?_
  have h := loop 50 1 (I 94) (I 107) (L 104) (L 106) (L 105) (L 100) (by omega) (by omega) trivial (fun j j0 j1 => by omega) (fun j j0 j1 => ⟨hs j (by omega) j1, hu j (by omega) j1⟩) (fun m m0 m1 => ⟨(hz m m0 m1).1, (hz m m0 m1).2.1, (hz m m0 m1).2.2.1, (hz m m0 m1).2.2.2⟩)
  rw [setR_id, setR_id, setR_id, setR_id, setR_id, setR_id] at h
  exact h
