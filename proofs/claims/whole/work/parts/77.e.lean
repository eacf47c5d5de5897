/-! paying, bearing, sharing, handing out -/
theorem bear_over (L : ed_L) (s r b s2 r2 b2 : Int → Int) : setR (setR (setR (setR (setR (setR L 76 s) 77 r) 67 b) 76 s2) 77 r2) 67 b2 = setR (setR (setR L 76 s2) 77 r2) 67 b2 := by
  funext a c
  simp only [setR]
  by_cases h1 : a = 67
  · simp [h1]
  · by_cases h2 : a = 77
    · simp [h2]
    · by_cases h3 : a = 76
      · simp [h3]
      · simp [h1, h2, h3]
set_option maxRecDepth 100000 in
set_option maxHeartbeats 4000000 in
theorem cS_bear {g : ed_g} {l : Launch} (hl : l.stackTraces = false) {I : ed_I} {L : ed_L} {k : Nat} {A : Int} (hk : ed_lay[k]? = some (.inr (2, 41, 0))) (hk6 : ¬ k = 76) (hk7 : ¬ k = 77) (hw : ∀ j, 1 ≤ j → j ≤ 40 → 0 ≤ L k j ∧ L k j ≤ 1000000000000) (hA : 0 ≤ A ∧ A ≤ 1000000000000000) {post : ed_post} (hn : ∀ s r b : Int → Int, (∀ j, 1 ≤ j → j ≤ 40 → b j = L 67 j + spl (L k) A j) → post (.inl none) Yw I (setR (setR (setR L 76 s) 77 r) 67 b)) : ed_Ct g l mS_bear 3 0 0 [.ref 74, .ref k, .long (lZ A)] Yw I L post := by
  refine ed_Ct.of hl rfl (Nat.le_of_ble_eq_true rfl) (fun x _ C => ?_)
  show Gd g x post _ _ _ _ _ _ _ _ 0 [(0, _), (1, _), (2, _)] []
  have loop : ∀ (q : Nat) (i : Int) (s r b : Int → Int), (41 - i).toNat < q → 1 ≤ i ∧ i ≤ 41 → (∀ j, 1 ≤ j → j ≤ 40 → s j = spl (L k) A j) → (∀ j, 1 ≤ j → j < i → b j = L 67 j + spl (L k) A j) → (∀ j, i ≤ j → j ≤ 40 → b j = L 67 j) → Gd g x post 0 0 mS_bear.2.2.1 0 0 Yw I (setR (setR (setR L 76 s) 77 r) 67 b) 12 [(0, .ref 74), (1, .ref k), (2, .long (lZ A)), (4, .int (iZ i))] [] := by
    intro q
    induction q with
    | zero => intro i s r b hq; omega
    | succ q ih =>
      intro i s r b hq g1 g2 g3 g4
      refine r_ild C dS_bear_12 rfl ?_
      refine r_ik C dS_bear_14 ?_
      refine r_icmp_gt C dS_bear_16 (by omega) (fun b16 => ?_) (fun b16 => ?_)
      · exact r_vret C dS_bear_48 rfl (Nat.le_of_ble_eq_true rfl) (Nat.le_of_ble_eq_true rfl) (hn s r b (fun j j0 j1 => g3 j j0 (by omega)))
      · refine r_ald C dS_bear_19 rfl ?_
        refine r_getR C dS_bear_20 rfl rfl ?_
        refine r_getR C dS_bear_23 rfl rfl ?_
        refine r_ild C dS_bear_26 rfl ?_
        refine r_dup2 C dS_bear_28 rfl rfl ?_
        refine r_lald C dS_bear_29 rfl ⟨by omega, by omega⟩ (by decide) ?_
        try simp only [rd, rdU, rowS, rowU, rowE, ne_eq, not_false_eq_true, Nat.reduceEqDiff, Int.reduceEq, true_and, false_and, and_true, and_false, ↓reduceIte]
        refine r_ald C dS_bear_30 rfl ?_
        refine r_getR C dS_bear_31 rfl rfl ?_
        refine r_getR C dS_bear_34 rfl rfl ?_
        refine r_ild C dS_bear_37 rfl ?_
        refine r_lald C dS_bear_39 rfl ⟨by omega, by omega⟩ (by decide) ?_
        try simp only [rd, rdU, rowS, rowU, rowE, ne_eq, not_false_eq_true, Nat.reduceEqDiff, Int.reduceEq, true_and, false_and, and_true, and_false, ↓reduceIte]
        refine r_ladd C dS_bear_40 ?_
        refine r_last C dS_bear_41 rfl rfl ⟨by omega, by omega⟩ (by decide) ?_
        refine r_iinc C dS_bear_42 (by decide) rfl (ls' := [(0, _), (1, _), (2, _), (4, _)]) rfl ?_
        refine r_goto C dS_bear_45 ?_
        simp only [up_eq, up_ne, rd, rdU, rowS, rowU, rowE, ne_eq, Nat.reduceEqDiff, Int.reduceEq, not_false_eq_true, true_and, false_and, and_true, and_false, ↓reduceIte]
        exact ih (i + 1) _ _ _ (by omega) (by omega) g2 (fun j j0 j1 => by by_cases e : j = i; (subst e; rw [up1_s, g2 j (by omega) (by omega), g4 j (by omega) (by omega)]); (rw [up1_o _ e]; exact g3 j j0 (by omega))) (fun j j0 j1 => by rw [up1_o _ (by omega)]; exact g4 j (by omega) j1)
  refine r_ald C dS_bear_0 rfl ?_
  refine r_getR C dS_bear_1 rfl rfl ?_
  refine r_ald C dS_bear_4 rfl ?_
  refine r_lld C dS_bear_5 rfl ?_
  refine r_callV C lzT_among dS_bear_6 _ [_, _] [] rfl rfl rfl rfl rfl (Nat.le_of_ble_eq_true rfl) ⟨(Nat.le_of_ble_eq_true rfl), (Nat.le_of_ble_eq_true rfl), (Nat.le_of_ble_eq_true rfl), (Nat.le_of_ble_eq_true rfl)⟩ rfl (cT_among C.2.2.2.2.2.1 hk hk6 hk7 hw hA (fun s r hs => ?_))
  refine r_ik C dS_bear_9 ?_
  refine r_ist C dS_bear_10 (by decide) (ls' := [(0, _), (1, _), (2, _), (4, _)]) rfl ?_
  have h := loop 50 1 s r (L 67) (by omega) (by omega) hs (fun j j0 j1 => by omega) (fun j j0 j1 => rfl)
  rw [show L 67 = (setR (setR L 76 s) 77 r) 67 by rw [rowS _ _ _ _ (by decide), rowS _ _ _ _ (by decide)], setR_id] at h
  exact h
set_option maxRecDepth 100000 in
set_option maxHeartbeats 4000000 in
theorem cS_payInProportion {g : ed_g} {l : Launch} (hl : l.stackTraces = false) {I : ed_I} {L : ed_L} {A : Int} (hw : ∀ j, 1 ≤ j → j ≤ 40 → 0 ≤ L 72 j ∧ L 72 j ≤ 1000000000000) (hA : 0 ≤ A ∧ A ≤ 1000000000000000) (hs : ∀ j, 1 ≤ j → j ≤ 40 → -1 ≤ I 61 j ∧ I 61 j ≤ 3) {post : ed_post} (hn : ∀ f s r h b : Int → Int, (∀ j, 1 ≤ j → j ≤ 40 → h j = L 73 j - (L 72 j - spl (L 72) A j)) → (∀ j, 1 ≤ j → j ≤ 40 → b j = L 63 j + L 64 j + L 65 j) → (∀ j, 1 ≤ j → j ≤ 40 → f j = if I 61 j = 0 then 3 else I 61 j) → post (.inl none) Yw (setR I 61 f) (setR (setR (setR (setR L 76 s) 77 r) 73 h) 67 b)) : ed_Ct g l mS_payInProportion 3 0 0 [.ref 74, .long (lZ A)] Yw I L post := by
  refine ed_Ct.of hl rfl (Nat.le_of_ble_eq_true rfl) (fun x _ C => ?_)
  show Gd g x post _ _ _ _ _ _ _ _ 0 [(0, _), (1, _)] []
  have loop2 : ∀ (q : Nat) (i : Int) (f s r h b : Int → Int), (41 - i).toNat < q → 1 ≤ i ∧ i ≤ 41 → (∀ j, 1 ≤ j → j ≤ 40 → h j = L 73 j - (L 72 j - spl (L 72) A j)) → (∀ j, 1 ≤ j → j < i → b j = L 63 j + L 64 j + L 65 j) → (∀ j, 1 ≤ j → j < i → f j = if I 61 j = 0 then 3 else I 61 j) → (∀ j, i ≤ j → j ≤ 40 → f j = I 61 j) → Gd g x post 0 0 mS_payInProportion.2.2.1 0 0 Yw (setR I 61 f) (setR (setR (setR (setR L 76 s) 77 r) 73 h) 67 b) 62 [(0, .ref 74), (1, .long (lZ A)), (3, .int (iZ i))] [] := by
    intro q
    induction q with
    | zero => intro i f s r h b hq; omega
    | succ q ih =>
      intro i f s r h b hq g1 g2 g3 g4 g5
      have hri := fun (h : i ≤ 40) => hs i (by omega) h
      have hg6 := fun (h : i ≤ 40) => g5 i (by omega) h
      refine r_ild C dS_payInProportion_62 rfl ?_
      refine r_ik C dS_payInProportion_63 ?_
      refine r_icmp_gt C dS_payInProportion_65 (by omega) (fun b65 => ?_) (fun b65 => ?_)
      · exact r_vret C dS_payInProportion_113 rfl (Nat.le_of_ble_eq_true rfl) (Nat.le_of_ble_eq_true rfl) (hn f s r h b g2 (fun j j0 j1 => g3 j j0 (by omega)) (fun j j0 j1 => g4 j j0 (by omega)))
      · refine r_ald C dS_payInProportion_68 rfl ?_
        refine r_getR C dS_payInProportion_69 rfl rfl ?_
        refine r_getR C dS_payInProportion_72 rfl rfl ?_
        refine r_ild C dS_payInProportion_75 rfl ?_
        refine r_ald C dS_payInProportion_76 rfl ?_
        refine r_getR C dS_payInProportion_77 rfl rfl ?_
        refine r_ild C dS_payInProportion_80 rfl ?_
        refine r_callV C lzC_worthInAll dS_payInProportion_81 _ [_] [_, _] rfl rfl rfl rfl rfl (Nat.le_of_ble_eq_true rfl) ⟨(Nat.le_of_ble_eq_true rfl), (Nat.le_of_ble_eq_true rfl), (Nat.le_of_ble_eq_true rfl), (Nat.le_of_ble_eq_true rfl)⟩ rfl (cC_worthInAll C.2.2.2.2.2.1 ⟨by omega, by omega⟩ ?_)
        try simp only [rd, rdU, rowS, rowU, rowE, ne_eq, not_false_eq_true, Nat.reduceEqDiff, Int.reduceEq, true_and, false_and, and_true, and_false, ↓reduceIte]
        refine r_last C dS_payInProportion_84 rfl rfl ⟨by omega, by omega⟩ (by decide) ?_
        refine r_ald C dS_payInProportion_85 rfl ?_
        refine r_getR C dS_payInProportion_86 rfl rfl ?_
        refine r_getR C dS_payInProportion_89 rfl rfl ?_
        refine r_ild C dS_payInProportion_92 rfl ?_
        refine r_iald C dS_payInProportion_93 rfl ⟨by omega, by omega⟩ (by decide) ?_
        try simp only [rd, rdU, rowS, rowU, rowE, ne_eq, not_false_eq_true, Nat.reduceEqDiff, Int.reduceEq, true_and, false_and, and_true, and_false, ↓reduceIte]
        refine r_if_ne C dS_payInProportion_94 (by omega) (fun b9 => ?_) (fun b9 => ?_)
        · refine r_iinc C dS_payInProportion_107 (by decide) rfl (ls' := [(0, _), (1, _), (3, _)]) rfl ?_
          refine r_goto C dS_payInProportion_110 ?_
          simp only [up_eq, up_ne, rd, rdU, rowS, rowU, rowE, ne_eq, Nat.reduceEqDiff, Int.reduceEq, not_false_eq_true, true_and, false_and, and_true, and_false, ↓reduceIte]
          have hg5 := g5 i (by omega) (by omega)
          exact ih (i + 1) _ _ _ _ _ (by omega) (by omega) g2 (fun j j0 j1 => by by_cases e : j = i; (subst e; rw [up1_s]); (rw [up1_o _ e]; exact g3 j j0 (by omega))) (fun j j0 j1 => by by_cases e : j = i; (subst e; rw [if_neg (by omega)]; exact hg5); (exact g4 j j0 (by omega))) (fun j j0 j1 => by exact g5 j (by omega) j1)
        · refine r_ald C dS_payInProportion_97 rfl ?_
          refine r_getR C dS_payInProportion_98 rfl rfl ?_
          refine r_getR C dS_payInProportion_101 rfl rfl ?_
          refine r_ild C dS_payInProportion_104 rfl ?_
          refine r_ik C dS_payInProportion_105 ?_
          refine r_iast C dS_payInProportion_106 rfl rfl ⟨by omega, by omega⟩ (by decide) ?_
          refine r_iinc C dS_payInProportion_107 (by decide) rfl (ls' := [(0, _), (1, _), (3, _)]) rfl ?_
          refine r_goto C dS_payInProportion_110 ?_
          simp only [up_eq, up_ne, rd, rdU, rowS, rowU, rowE, ne_eq, Nat.reduceEqDiff, Int.reduceEq, not_false_eq_true, true_and, false_and, and_true, and_false, ↓reduceIte]
          have hg5 := g5 i (by omega) (by omega)
          exact ih (i + 1) _ _ _ _ _ (by omega) (by omega) g2 (fun j j0 j1 => by by_cases e : j = i; (subst e; rw [up1_s]); (rw [up1_o _ e]; exact g3 j j0 (by omega))) (fun j j0 j1 => by by_cases e : j = i; (subst e; rw [up1_s, if_pos (by omega)]); (rw [up1_o _ e]; exact g4 j j0 (by omega))) (fun j j0 j1 => by rw [up1_o _ (by omega)]; exact g5 j (by omega) j1)
  have loop1 : ∀ (q : Nat) (i : Int) (s r h : Int → Int), (41 - i).toNat < q → 1 ≤ i ∧ i ≤ 41 → (∀ j, 1 ≤ j → j ≤ 40 → s j = spl (L 72) A j) → (∀ j, 1 ≤ j → j < i → h j = L 73 j - (L 72 j - spl (L 72) A j)) → (∀ j, i ≤ j → j ≤ 40 → h j = L 73 j) → Gd g x post 0 0 mS_payInProportion.2.2.1 0 0 Yw I (setR (setR (setR L 76 s) 77 r) 73 h) 17 [(0, .ref 74), (1, .long (lZ A)), (3, .int (iZ i))] [] := by
    intro q
    induction q with
    | zero => intro i s r h hq; omega
    | succ q ih =>
      intro i s r h hq g1 g2 g3 g4
      refine r_ild C dS_payInProportion_17 rfl ?_
      refine r_ik C dS_payInProportion_18 ?_
      refine r_icmp_gt C dS_payInProportion_20 (by omega) (fun b20 => ?_) (fun b20 => ?_)
      · refine r_ik C dS_payInProportion_60 ?_
        refine r_ist C dS_payInProportion_61 (by decide) (ls' := [(0, _), (1, _), (3, _)]) rfl ?_
        have h := loop2 50 1 (I 61) s r h (L 67) (by omega) (by omega) (fun j j0 j1 => g3 j j0 (by omega)) (fun j j0 j1 => by omega) (fun j j0 j1 => by omega) (fun j j0 j1 => rfl)
        rw [setR_id, show L 67 = (setR (setR (setR L 76 s) 77 r) 73 ‹_›) 67 by rw [rowS _ _ _ _ (by decide), rowS _ _ _ _ (by decide), rowS _ _ _ _ (by decide)], setR_id] at h
        exact h
      · refine r_ald C dS_payInProportion_23 rfl ?_
        refine r_getR C dS_payInProportion_24 rfl rfl ?_
        refine r_getR C dS_payInProportion_27 rfl rfl ?_
        refine r_ild C dS_payInProportion_30 rfl ?_
        refine r_dup2 C dS_payInProportion_31 rfl rfl ?_
        refine r_lald C dS_payInProportion_32 rfl ⟨by omega, by omega⟩ (by decide) ?_
        try simp only [rd, rdU, rowS, rowU, rowE, ne_eq, not_false_eq_true, Nat.reduceEqDiff, Int.reduceEq, true_and, false_and, and_true, and_false, ↓reduceIte]
        refine r_ald C dS_payInProportion_33 rfl ?_
        refine r_getR C dS_payInProportion_34 rfl rfl ?_
        refine r_getR C dS_payInProportion_37 rfl rfl ?_
        refine r_ild C dS_payInProportion_40 rfl ?_
        refine r_lald C dS_payInProportion_41 rfl ⟨by omega, by omega⟩ (by decide) ?_
        try simp only [rd, rdU, rowS, rowU, rowE, ne_eq, not_false_eq_true, Nat.reduceEqDiff, Int.reduceEq, true_and, false_and, and_true, and_false, ↓reduceIte]
        refine r_ald C dS_payInProportion_42 rfl ?_
        refine r_getR C dS_payInProportion_43 rfl rfl ?_
        refine r_getR C dS_payInProportion_46 rfl rfl ?_
        refine r_ild C dS_payInProportion_49 rfl ?_
        refine r_lald C dS_payInProportion_50 rfl ⟨by omega, by omega⟩ (by decide) ?_
        try simp only [rd, rdU, rowS, rowU, rowE, ne_eq, not_false_eq_true, Nat.reduceEqDiff, Int.reduceEq, true_and, false_and, and_true, and_false, ↓reduceIte]
        refine r_lsub C dS_payInProportion_51 ?_
        refine r_lsub C dS_payInProportion_52 ?_
        refine r_last C dS_payInProportion_53 rfl rfl ⟨by omega, by omega⟩ (by decide) ?_
        refine r_iinc C dS_payInProportion_54 (by decide) rfl (ls' := [(0, _), (1, _), (3, _)]) rfl ?_
        refine r_goto C dS_payInProportion_57 ?_
        simp only [up_eq, up_ne, rd, rdU, rowS, rowU, rowE, ne_eq, Nat.reduceEqDiff, Int.reduceEq, not_false_eq_true, true_and, false_and, and_true, and_false, ↓reduceIte]
        exact ih (i + 1) _ _ _ (by omega) (by omega) g2 (fun j j0 j1 => by by_cases e : j = i; (subst e; rw [up1_s, g2 j (by omega) (by omega), g4 j (by omega) (by omega)]); (rw [up1_o _ e]; exact g3 j j0 (by omega))) (fun j j0 j1 => by rw [up1_o _ (by omega)]; exact g4 j (by omega) j1)
  refine r_ald C dS_payInProportion_0 rfl ?_
  refine r_getR C dS_payInProportion_1 rfl rfl ?_
  refine r_ald C dS_payInProportion_4 rfl ?_
  refine r_getR C dS_payInProportion_5 rfl rfl ?_
  refine r_getR C dS_payInProportion_8 rfl rfl ?_
  refine r_lld C dS_payInProportion_11 rfl ?_
  refine r_callV C lzT_among dS_payInProportion_12 _ [_, _] [] rfl rfl rfl rfl rfl (Nat.le_of_ble_eq_true rfl) ⟨(Nat.le_of_ble_eq_true rfl), (Nat.le_of_ble_eq_true rfl), (Nat.le_of_ble_eq_true rfl), (Nat.le_of_ble_eq_true rfl)⟩ rfl (cT_among C.2.2.2.2.2.1 rfl (by decide) (by decide) hw hA (fun s r hs9 => ?_))
  refine r_ik C dS_payInProportion_15 ?_
  refine r_ist C dS_payInProportion_16 (by decide) (ls' := [(0, _), (1, _), (3, _)]) rfl ?_
  have h := loop1 50 1 s r (L 73) (by omega) (by omega) hs9 (fun j j0 j1 => by omega) (fun j j0 j1 => rfl)
  rw [show L 73 = (setR (setR L 76 s) 77 r) 73 by rw [rowS _ _ _ _ (by decide), rowS _ _ _ _ (by decide)], setR_id] at h
  exact h
set_option maxRecDepth 100000 in
set_option maxHeartbeats 4000000 in
theorem cS_abateByClass {g : ed_g} {l : Launch} (hl : l.stackTraces = false) {I : ed_I} {L : ed_L} (hw65 : ∀ j, 1 ≤ j → j ≤ 40 → 0 ≤ L 65 j ∧ L 65 j ≤ 1000000000000) (hw64 : ∀ j, 1 ≤ j → j ≤ 40 → 0 ≤ L 64 j ∧ L 64 j ≤ 1000000000000) (hw63 : ∀ j, 1 ≤ j → j ≤ 40 → 0 ≤ L 63 j ∧ L 63 j ≤ 1000000000000) (hsu : (0 ≤ L 78 2 ∧ L 78 2 ≤ 100000000000000) ∧ (0 ≤ L 78 3 ∧ L 78 3 ≤ 100000000000000) ∧ (0 ≤ L 78 4 ∧ L 78 4 ≤ 100000000000000) ∧ 0 ≤ L 78 5 ∧ L 78 5 ≤ 100000000000000) (hbr : ∀ j, 1 ≤ j → j ≤ 40 → -9223372036854775808 ≤ L 67 j + spl (L 65) (L 78 4 - min (L 78 4) (max 0 (L 78 2 - L 78 3))) j + spl (L 64) (min (L 78 5) (max 0 (L 78 3 - L 78 2))) j + spl (L 63) (max 0 (L 78 3 - L 78 2) - min (L 78 5) (max 0 (L 78 3 - L 78 2))) j ∧ L 67 j + spl (L 65) (L 78 4 - min (L 78 4) (max 0 (L 78 2 - L 78 3))) j + spl (L 64) (min (L 78 5) (max 0 (L 78 3 - L 78 2))) j + spl (L 63) (max 0 (L 78 3 - L 78 2) - min (L 78 5) (max 0 (L 78 3 - L 78 2))) j ≤ 9223372036854775807) {post : ed_post} (hn : ∀ f s r b : Int → Int, (∀ j, 1 ≤ j → j ≤ 40 → b j = L 67 j + spl (L 65) (L 78 4 - min (L 78 4) (max 0 (L 78 2 - L 78 3))) j + spl (L 64) (min (L 78 5) (max 0 (L 78 3 - L 78 2))) j + spl (L 63) (max 0 (L 78 3 - L 78 2) - min (L 78 5) (max 0 (L 78 3 - L 78 2))) j) → (∀ j, 1 ≤ j → j ≤ 40 → f j = if 0 < b j then 3 else I 61 j) → post (.inl none) Yw (setR I 61 f) (setR (setR (setR L 76 s) 77 r) 67 b)) : ed_Ct g l mS_abateByClass 4 0 0 [.ref 74] Yw I L post := by
  refine ed_Ct.of hl rfl (Nat.le_of_ble_eq_true rfl) (fun x _ C => ?_)
  show Gd g x post _ _ _ _ _ _ _ _ 0 [(0, _)] []
  have loop : ∀ (q : Nat) (i : Int) (f s r b : Int → Int), (41 - i).toNat < q → 1 ≤ i ∧ i ≤ 41 → (∀ j, 1 ≤ j → j ≤ 40 → b j = L 67 j + spl (L 65) (L 78 4 - min (L 78 4) (max 0 (L 78 2 - L 78 3))) j + spl (L 64) (min (L 78 5) (max 0 (L 78 3 - L 78 2))) j + spl (L 63) (max 0 (L 78 3 - L 78 2) - min (L 78 5) (max 0 (L 78 3 - L 78 2))) j) → (∀ j, 1 ≤ j → j < i → f j = if 0 < b j then 3 else I 61 j) → (∀ j, i ≤ j → j ≤ 40 → f j = I 61 j) → Gd g x post 0 0 mS_abateByClass.2.2.1 0 0 Yw (setR I 61 f) (setR (setR (setR L 76 s) 77 r) 67 b) 107 [(0, .ref 74), (1, .long (lZ (max 0 (L 78 2 - L 78 3)))), (3, .long (lZ (max 0 (L 78 3 - L 78 2)))), (5, .long (lZ (min (L 78 5) (max 0 (L 78 3 - L 78 2))))), (7, .int (iZ i))] [] := by
    intro q
    induction q with
    | zero => intro i f s r b hq; omega
    | succ q ih =>
      intro i f s r b hq g1 g2 g3 g4
      have hrb : i ≤ 40 → -9223372036854775808 ≤ b i ∧ b i ≤ 9223372036854775807 := fun h => by rw [g2 i (by omega) h]; exact hbr i (by omega) h
      refine r_ild C dS_abateByClass_107 rfl ?_
      refine r_ik C dS_abateByClass_109 ?_
      refine r_icmp_gt C dS_abateByClass_111 (by omega) (fun b111 => ?_) (fun b111 => ?_)
      · exact r_vret C dS_abateByClass_146 rfl (Nat.le_of_ble_eq_true rfl) (Nat.le_of_ble_eq_true rfl) (hn f s r b g2 (fun j j0 j1 => g3 j j0 (by omega)))
      · refine r_ald C dS_abateByClass_114 rfl ?_
        refine r_getR C dS_abateByClass_115 rfl rfl ?_
        refine r_getR C dS_abateByClass_118 rfl rfl ?_
        refine r_ild C dS_abateByClass_121 rfl ?_
        refine r_lald C dS_abateByClass_123 rfl ⟨by omega, by omega⟩ (by decide) ?_
        try simp only [rd, rdU, rowS, rowU, rowE, ne_eq, not_false_eq_true, Nat.reduceEqDiff, Int.reduceEq, true_and, false_and, and_true, and_false, ↓reduceIte]
        refine r_lk C dS_abateByClass_124 ?_
        refine r_lc_le C dS_abateByClass_125 dS_abateByClass_126 (by have := hrb (by omega); omega) (fun b9 => ?_) (fun b9 => ?_)
        · refine r_iinc C dS_abateByClass_140 (by decide) rfl (ls' := [(0, _), (1, _), (3, _), (5, _), (7, _)]) rfl ?_
          refine r_goto C dS_abateByClass_143 ?_
          try simp only [up_eq, up_ne, rd, rdU, rowS, rowU, rowE, ne_eq, Nat.reduceEqDiff, Int.reduceEq, not_false_eq_true, true_and, false_and, and_true, and_false, ↓reduceIte]
          exact ih (i + 1) _ _ _ _ (by omega) (by omega) g2 (fun j j0 j1 => by by_cases e : j = i; (subst e; rw [if_neg (by omega)]; exact g4 j (by omega) (by omega)); (exact g3 j j0 (by omega))) (fun j j0 j1 => by exact g4 j (by omega) j1)
        · refine r_ald C dS_abateByClass_129 rfl ?_
          refine r_getR C dS_abateByClass_130 rfl rfl ?_
          refine r_getR C dS_abateByClass_133 rfl rfl ?_
          refine r_ild C dS_abateByClass_136 rfl ?_
          refine r_ik C dS_abateByClass_138 ?_
          refine r_iast C dS_abateByClass_139 rfl rfl ⟨by omega, by omega⟩ (by decide) ?_
          refine r_iinc C dS_abateByClass_140 (by decide) rfl (ls' := [(0, _), (1, _), (3, _), (5, _), (7, _)]) rfl ?_
          refine r_goto C dS_abateByClass_143 ?_
          try simp only [up_eq, up_ne, rd, rdU, rowS, rowU, rowE, ne_eq, Nat.reduceEqDiff, Int.reduceEq, not_false_eq_true, true_and, false_and, and_true, and_false, ↓reduceIte]
          exact ih (i + 1) _ _ _ _ (by omega) (by omega) g2 (fun j j0 j1 => by by_cases e : j = i; (subst e; rw [up1_s, if_pos (by omega)]); (rw [up1_o _ e]; exact g3 j j0 (by omega))) (fun j j0 j1 => by rw [up1_o _ (by omega)]; exact g4 j (by omega) j1)
  refine r_lk C dS_abateByClass_0 ?_
  refine r_ald C dS_abateByClass_1 rfl ?_
  refine r_getR C dS_abateByClass_2 rfl rfl ?_
  refine r_ik C dS_abateByClass_5 ?_
  refine r_lald C dS_abateByClass_6 rfl ⟨by omega, by omega⟩ (by decide) ?_
  try simp only [rd, rdU, rowS, rowU, rowE, ne_eq, not_false_eq_true, Nat.reduceEqDiff, Int.reduceEq, true_and, false_and, and_true, and_false, ↓reduceIte]
  refine r_ald C dS_abateByClass_7 rfl ?_
  refine r_getR C dS_abateByClass_8 rfl rfl ?_
  refine r_ik C dS_abateByClass_11 ?_
  refine r_lald C dS_abateByClass_12 rfl ⟨by omega, by omega⟩ (by decide) ?_
  try simp only [rd, rdU, rowS, rowU, rowE, ne_eq, not_false_eq_true, Nat.reduceEqDiff, Int.reduceEq, true_and, false_and, and_true, and_false, ↓reduceIte]
  refine r_lsub C dS_abateByClass_13 ?_
  refine r_mmax C (idx := 61) (by decide +kernel) rfl (tb3 77 rfl) rfl (Nat.le_of_ble_eq_true rfl) (Nat.le_of_ble_eq_true rfl) (Nat.le_of_ble_eq_true rfl) (Nat.le_of_ble_eq_true rfl) (by omega) ?_
  refine r_lst C dS_abateByClass_17 (by decide) (ls' := [(0, _), (1, _)]) rfl ?_
  refine r_lk C dS_abateByClass_18 ?_
  refine r_ald C dS_abateByClass_19 rfl ?_
  refine r_getR C dS_abateByClass_20 rfl rfl ?_
  refine r_ik C dS_abateByClass_23 ?_
  refine r_lald C dS_abateByClass_24 rfl ⟨by omega, by omega⟩ (by decide) ?_
  try simp only [rd, rdU, rowS, rowU, rowE, ne_eq, not_false_eq_true, Nat.reduceEqDiff, Int.reduceEq, true_and, false_and, and_true, and_false, ↓reduceIte]
  refine r_ald C dS_abateByClass_25 rfl ?_
  refine r_getR C dS_abateByClass_26 rfl rfl ?_
  refine r_ik C dS_abateByClass_29 ?_
  refine r_lald C dS_abateByClass_30 rfl ⟨by omega, by omega⟩ (by decide) ?_
  try simp only [rd, rdU, rowS, rowU, rowE, ne_eq, not_false_eq_true, Nat.reduceEqDiff, Int.reduceEq, true_and, false_and, and_true, and_false, ↓reduceIte]
  refine r_lsub C dS_abateByClass_31 ?_
  refine r_mmax C (idx := 61) (by decide +kernel) rfl (tb3 77 rfl) rfl (Nat.le_of_ble_eq_true rfl) (Nat.le_of_ble_eq_true rfl) (Nat.le_of_ble_eq_true rfl) (Nat.le_of_ble_eq_true rfl) (by omega) ?_
  refine r_lst C dS_abateByClass_35 (by decide) (ls' := [(0, _), (1, _), (3, _)]) rfl ?_
  refine r_ald C dS_abateByClass_36 rfl ?_
  refine r_getR C dS_abateByClass_37 rfl rfl ?_
  refine r_ik C dS_abateByClass_40 ?_
  refine r_lald C dS_abateByClass_41 rfl ⟨by omega, by omega⟩ (by decide) ?_
  try simp only [rd, rdU, rowS, rowU, rowE, ne_eq, not_false_eq_true, Nat.reduceEqDiff, Int.reduceEq, true_and, false_and, and_true, and_false, ↓reduceIte]
  refine r_lld C dS_abateByClass_42 rfl ?_
  refine r_mmin C (idx := 185) (by decide +kernel) rfl (tb3 109 rfl) rfl (Nat.le_of_ble_eq_true rfl) (Nat.le_of_ble_eq_true rfl) (Nat.le_of_ble_eq_true rfl) (Nat.le_of_ble_eq_true rfl) (by omega) ?_
  refine r_lst C dS_abateByClass_46 (by decide) (ls' := [(0, _), (1, _), (3, _), (5, _)]) rfl ?_
  refine r_ald C dS_abateByClass_48 rfl ?_
  refine r_ald C dS_abateByClass_49 rfl ?_
  refine r_getR C dS_abateByClass_50 rfl rfl ?_
  refine r_getR C dS_abateByClass_53 rfl rfl ?_
  refine r_ald C dS_abateByClass_56 rfl ?_
  refine r_getR C dS_abateByClass_57 rfl rfl ?_
  refine r_ik C dS_abateByClass_60 ?_
  refine r_lald C dS_abateByClass_61 rfl ⟨by omega, by omega⟩ (by decide) ?_
  try simp only [rd, rdU, rowS, rowU, rowE, ne_eq, not_false_eq_true, Nat.reduceEqDiff, Int.reduceEq, true_and, false_and, and_true, and_false, ↓reduceIte]
  refine r_ald C dS_abateByClass_62 rfl ?_
  refine r_getR C dS_abateByClass_63 rfl rfl ?_
  refine r_ik C dS_abateByClass_66 ?_
  refine r_lald C dS_abateByClass_67 rfl ⟨by omega, by omega⟩ (by decide) ?_
  try simp only [rd, rdU, rowS, rowU, rowE, ne_eq, not_false_eq_true, Nat.reduceEqDiff, Int.reduceEq, true_and, false_and, and_true, and_false, ↓reduceIte]
  refine r_lld C dS_abateByClass_68 rfl ?_
  refine r_mmin C (idx := 185) (by decide +kernel) rfl (tb3 109 rfl) rfl (Nat.le_of_ble_eq_true rfl) (Nat.le_of_ble_eq_true rfl) (Nat.le_of_ble_eq_true rfl) (Nat.le_of_ble_eq_true rfl) (by omega) ?_
  refine r_lsub C dS_abateByClass_72 ?_
  refine r_callV C lzS_bear dS_abateByClass_73 _ [_, _] [] rfl rfl rfl rfl rfl (Nat.le_of_ble_eq_true rfl) ⟨(Nat.le_of_ble_eq_true rfl), (Nat.le_of_ble_eq_true rfl), (Nat.le_of_ble_eq_true rfl), (Nat.le_of_ble_eq_true rfl)⟩ rfl (cS_bear C.2.2.2.2.2.1 rfl (by decide) (by decide) hw65 (by omega) (fun s1 r1 b1 hb1 => ?_))
  try simp only [rd, rdU, rowS, rowU, rowE, ne_eq, not_false_eq_true, Nat.reduceEqDiff, Int.reduceEq, true_and, false_and, and_true, and_false, ↓reduceIte] at hb1
  refine r_ald C dS_abateByClass_76 rfl ?_
  refine r_ald C dS_abateByClass_77 rfl ?_
  refine r_getR C dS_abateByClass_78 rfl rfl ?_
  refine r_getR C dS_abateByClass_81 rfl rfl ?_
  refine r_lld C dS_abateByClass_84 rfl ?_
  refine r_callV C lzS_bear dS_abateByClass_86 _ [_, _] [] rfl rfl rfl rfl rfl (Nat.le_of_ble_eq_true rfl) ⟨(Nat.le_of_ble_eq_true rfl), (Nat.le_of_ble_eq_true rfl), (Nat.le_of_ble_eq_true rfl), (Nat.le_of_ble_eq_true rfl)⟩ rfl (cS_bear C.2.2.2.2.2.1 rfl (by decide) (by decide) (by simp only [rd, rdU, rowS, rowU, rowE, ne_eq, not_false_eq_true, Nat.reduceEqDiff, Int.reduceEq, true_and, false_and, and_true, and_false, ↓reduceIte]; exact hw64) (by omega) (fun s2 r2 b2 hb2 => ?_))
  rw [bear_over]
  try simp only [rd, rdU, rowS, rowU, rowE, ne_eq, not_false_eq_true, Nat.reduceEqDiff, Int.reduceEq, true_and, false_and, and_true, and_false, ↓reduceIte] at hb2
  refine r_ald C dS_abateByClass_89 rfl ?_
  refine r_ald C dS_abateByClass_90 rfl ?_
  refine r_getR C dS_abateByClass_91 rfl rfl ?_
  refine r_getR C dS_abateByClass_94 rfl rfl ?_
  refine r_lld C dS_abateByClass_97 rfl ?_
  refine r_lld C dS_abateByClass_98 rfl ?_
  refine r_lsub C dS_abateByClass_100 ?_
  refine r_callV C lzS_bear dS_abateByClass_101 _ [_, _] [] rfl rfl rfl rfl rfl (Nat.le_of_ble_eq_true rfl) ⟨(Nat.le_of_ble_eq_true rfl), (Nat.le_of_ble_eq_true rfl), (Nat.le_of_ble_eq_true rfl), (Nat.le_of_ble_eq_true rfl)⟩ rfl (cS_bear C.2.2.2.2.2.1 rfl (by decide) (by decide) (by simp only [rd, rdU, rowS, rowU, rowE, ne_eq, not_false_eq_true, Nat.reduceEqDiff, Int.reduceEq, true_and, false_and, and_true, and_false, ↓reduceIte]; exact hw63) (by omega) (fun s3 r3 b3 hb3 => ?_))
  rw [bear_over]
  try simp only [rd, rdU, rowS, rowU, rowE, ne_eq, not_false_eq_true, Nat.reduceEqDiff, Int.reduceEq, true_and, false_and, and_true, and_false, ↓reduceIte] at hb3
  refine r_ik C dS_abateByClass_104 ?_
  refine r_ist C dS_abateByClass_105 (by decide) (ls' := [(0, _), (1, _), (3, _), (5, _), (7, _)]) rfl ?_
  have h := loop 50 1 (I 61) s3 r3 b3 (by omega) (by omega) (fun j j0 j1 => by rw [hb3 j j0 j1, hb2 j j0 j1, hb1 j j0 j1]) (fun j j0 j1 => by omega) (fun j j0 j1 => rfl)
  rw [setR_id] at h
  exact h
set_option maxRecDepth 100000 in
set_option maxHeartbeats 4000000 in
theorem cS_shareResidue {g : ed_g} {l : Launch} (hl : l.stackTraces = false) {I : ed_I} {L : ed_L} (hw : ∀ j, 1 ≤ j → j ≤ 40 → 0 ≤ L 66 j ∧ L 66 j ≤ 1000000000000) (hA : 0 ≤ L 78 7 ∧ L 78 7 ≤ 1000000000000000) {post : ed_post} (h1 : ∀ s r c : Int → Int, (∀ j, 1 ≤ j → j ≤ 40 → c j = spl (L 66) (L 78 7) j) → sm (L 66) 40 ≠ 0 → post (.inl none) Yw I (setR (setR (setR L 76 s) 77 r) 68 c)) (h0 : ∀ s r c : Int → Int, (∀ j, 1 ≤ j → j ≤ 40 → c j = spl (L 66) (L 78 7) j) → sm (L 66) 40 = 0 → post (.inl none) Yw I (upI (setR (setR (setR L 76 s) 77 r) 68 c) 4 0 (L 78 7))) : ed_Ct g l mS_shareResidue 3 0 0 [.ref 74] Yw I L post := by
  refine ed_Ct.of hl rfl (Nat.le_of_ble_eq_true rfl) (fun x _ C => ?_)
  show Gd g x post _ _ _ _ _ _ _ _ 0 [(0, _)] []
  have hW9 := sm_le (f := L 66) (B := 1000000000000) (fun j j0 j1 => hw j j0 j1) 40 (by decide)
  have loop : ∀ (q : Nat) (i : Int) (s r c : Int → Int), (41 - i).toNat < q → 1 ≤ i ∧ i ≤ 41 → (∀ j, 1 ≤ j → j ≤ 40 → s j = spl (L 66) (L 78 7) j) → (∀ j, 1 ≤ j → j < i → c j = spl (L 66) (L 78 7) j) → Gd g x post 0 0 mS_shareResidue.2.2.1 0 0 Yw I (setR (setR (setR L 76 s) 77 r) 68 c) 23 [(0, .ref 74), (1, .int (iZ i))] [] := by
    intro q
    induction q with
    | zero => intro i s r c hq; omega
    | succ q ih =>
      intro i s r c hq g1 g2 g3
      refine r_ild C dS_shareResidue_23 rfl ?_
      refine r_ik C dS_shareResidue_24 ?_
      refine r_icmp_gt C dS_shareResidue_26 (by omega) (fun b26 => ?_) (fun b26 => ?_)
      · refine r_ald C dS_shareResidue_53 rfl ?_
        refine r_getR C dS_shareResidue_54 rfl rfl ?_
        refine r_getR C dS_shareResidue_57 rfl rfl ?_
        refine r_callS C lzD_total dS_shareResidue_60 [_] [] rfl rfl (Nat.le_of_ble_eq_true rfl) ⟨(Nat.le_of_ble_eq_true rfl), (Nat.le_of_ble_eq_true rfl), (Nat.le_of_ble_eq_true rfl), (Nat.le_of_ble_eq_true rfl)⟩ rfl (cD_total C.2.2.2.2.2.1 rfl ?_)
        try simp only [rd, rdU, rowS, rowU, rowE, ne_eq, not_false_eq_true, Nat.reduceEqDiff, Int.reduceEq, true_and, false_and, and_true, and_false, ↓reduceIte]
        refine r_lk C dS_shareResidue_63 ?_
        refine r_lc_ne C dS_shareResidue_64 dS_shareResidue_65 (by omega) (fun b9 => ?_) (fun b9 => ?_)
        · exact r_vret C dS_shareResidue_84 rfl (Nat.le_of_ble_eq_true rfl) (Nat.le_of_ble_eq_true rfl) (h1 s r c (fun j j0 j1 => g3 j j0 (by omega)) b9)
        · refine r_ald C dS_shareResidue_68 rfl ?_
          refine r_getR C dS_shareResidue_69 rfl rfl ?_
          refine r_getR C dS_shareResidue_72 rfl rfl ?_
          refine r_ik C dS_shareResidue_75 ?_
          refine r_ald C dS_shareResidue_76 rfl ?_
          refine r_getR C dS_shareResidue_77 rfl rfl ?_
          refine r_ik C dS_shareResidue_80 ?_
          refine r_lald C dS_shareResidue_82 rfl ⟨by omega, by omega⟩ (by decide) ?_
          try simp only [rd, rdU, rowS, rowU, rowE, ne_eq, not_false_eq_true, Nat.reduceEqDiff, Int.reduceEq, true_and, false_and, and_true, and_false, ↓reduceIte]
          refine r_last C dS_shareResidue_83 rfl rfl ⟨by omega, by omega⟩ (by decide) ?_
          exact r_vret C dS_shareResidue_84 rfl (Nat.le_of_ble_eq_true rfl) (Nat.le_of_ble_eq_true rfl) (h0 s r c (fun j j0 j1 => g3 j j0 (by omega)) b9)
      · refine r_ald C dS_shareResidue_29 rfl ?_
        refine r_getR C dS_shareResidue_30 rfl rfl ?_
        refine r_getR C dS_shareResidue_33 rfl rfl ?_
        refine r_ild C dS_shareResidue_36 rfl ?_
        refine r_ald C dS_shareResidue_37 rfl ?_
        refine r_getR C dS_shareResidue_38 rfl rfl ?_
        refine r_getR C dS_shareResidue_41 rfl rfl ?_
        refine r_ild C dS_shareResidue_44 rfl ?_
        refine r_lald C dS_shareResidue_45 rfl ⟨by omega, by omega⟩ (by decide) ?_
        try simp only [rd, rdU, rowS, rowU, rowE, ne_eq, not_false_eq_true, Nat.reduceEqDiff, Int.reduceEq, true_and, false_and, and_true, and_false, ↓reduceIte]
        refine r_last C dS_shareResidue_46 rfl rfl ⟨by omega, by omega⟩ (by decide) ?_
        refine r_iinc C dS_shareResidue_47 (by decide) rfl (ls' := [(0, _), (1, _)]) rfl ?_
        refine r_goto C dS_shareResidue_50 ?_
        simp only [up_eq, up_ne, rd, rdU, rowS, rowU, rowE, ne_eq, Nat.reduceEqDiff, Int.reduceEq, not_false_eq_true, true_and, false_and, and_true, and_false, ↓reduceIte]
        exact ih (i + 1) _ _ _ (by omega) (by omega) g2 (fun j j0 j1 => by by_cases e : j = i; (subst e; rw [up1_s]; exact g2 j (by omega) (by omega)); (rw [up1_o _ e]; exact g3 j j0 (by omega)))
  refine r_ald C dS_shareResidue_0 rfl ?_
  refine r_getR C dS_shareResidue_1 rfl rfl ?_
  refine r_ald C dS_shareResidue_4 rfl ?_
  refine r_getR C dS_shareResidue_5 rfl rfl ?_
  refine r_getR C dS_shareResidue_8 rfl rfl ?_
  refine r_ald C dS_shareResidue_11 rfl ?_
  refine r_getR C dS_shareResidue_12 rfl rfl ?_
  refine r_ik C dS_shareResidue_15 ?_
  refine r_lald C dS_shareResidue_17 rfl ⟨by omega, by omega⟩ (by decide) ?_
  try simp only [rd, rdU, rowS, rowU, rowE, ne_eq, not_false_eq_true, Nat.reduceEqDiff, Int.reduceEq, true_and, false_and, and_true, and_false, ↓reduceIte]
  refine r_callV C lzT_among dS_shareResidue_18 _ [_, _] [] rfl rfl rfl rfl rfl (Nat.le_of_ble_eq_true rfl) ⟨(Nat.le_of_ble_eq_true rfl), (Nat.le_of_ble_eq_true rfl), (Nat.le_of_ble_eq_true rfl), (Nat.le_of_ble_eq_true rfl)⟩ rfl (cT_among C.2.2.2.2.2.1 rfl (by decide) (by decide) hw hA (fun s r hs9 => ?_))
  refine r_ik C dS_shareResidue_21 ?_
  refine r_ist C dS_shareResidue_22 (by decide) (ls' := [(0, _), (1, _)]) rfl ?_
  have h := loop 50 1 s r (L 68) (by omega) (by omega) hs9 (fun j j0 j1 => by omega)
  rw [show L 68 = (setR (setR L 76 s) 77 r) 68 by rw [rowS _ _ _ _ (by decide), rowS _ _ _ _ (by decide)], setR_id] at h
  exact h
