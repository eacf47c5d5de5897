/-! valuing, adding up -/
/-- does clause c take out of its asset -/
def vcq (I : ed_I) (c : Int) : Bool := decide (I 61 c = 0 ∧ I 15 c ≠ 1 ∧ I 15 c ≠ 4)
set_option maxRecDepth 100000 in
set_option maxHeartbeats 4000000 in
theorem cS_valueGood {g : ed_g} {l : Launch} (hl : l.stackTraces = false) {I : ed_I} {L : ed_L} {c : Int} (hc : 1 ≤ c ∧ c ≤ 40) (hkd : 0 ≤ I 15 c ∧ I 15 c ≤ 4) (has : 0 ≤ I 17 c ∧ I 17 c ≤ 40) (ham : 0 ≤ L 16 c ∧ L 16 c ≤ 1000000000000) (hlf : 0 ≤ L 11 (I 17 c) ∧ L 11 (I 17 c) ≤ 1000000000000) {post : ed_post} (h1 : I 15 c = 1 → post (.inl none) Yw I (upI L 63 c (L 11 (I 17 c)))) (h4 : I 15 c = 4 → post (.inl none) Yw I (upI L 66 c (L 16 c))) (h0 : I 15 c ≠ 1 → I 15 c ≠ 4 → post (.inl none) Yw I (upI (upI (upI L 11 (I 17 c) (L 11 (I 17 c) - min (L 16 c) (L 11 (I 17 c)))) 64 c (min (L 16 c) (L 11 (I 17 c)))) 65 c (L 16 c - min (L 16 c) (L 11 (I 17 c))))) : ed_Ct g l mS_valueGood 2 0 0 [.ref 74, .int (iZ c)] Yw I L post := by
  refine ed_Ct.of hl rfl (Nat.le_of_ble_eq_true rfl) (fun x _ C => ?_)
  show Gd g x post _ _ _ _ _ _ _ _ 0 [(0, _), (1, _)] []
  refine r_ald C dS_valueGood_0 rfl ?_
  refine r_getR C dS_valueGood_1 rfl rfl ?_
  refine r_getR C dS_valueGood_4 rfl rfl ?_
  refine r_ild C dS_valueGood_7 rfl ?_
  refine r_iald C dS_valueGood_8 rfl ⟨by omega, by omega⟩ (by decide) ?_
  try simp only [rd, rdU, rowS, rowU, rowE, ne_eq, not_false_eq_true, Nat.reduceEqDiff, Int.reduceEq, true_and, false_and, and_true, and_false, ↓reduceIte]
  refine r_ist C dS_valueGood_9 (by decide) (ls' := [(0, _), (1, _), (2, _)]) rfl ?_
  refine r_ald C dS_valueGood_10 rfl ?_
  refine r_getR C dS_valueGood_11 rfl rfl ?_
  refine r_getR C dS_valueGood_14 rfl rfl ?_
  refine r_ild C dS_valueGood_17 rfl ?_
  refine r_lald C dS_valueGood_18 rfl ⟨by omega, by omega⟩ (by decide) ?_
  try simp only [rd, rdU, rowS, rowU, rowE, ne_eq, not_false_eq_true, Nat.reduceEqDiff, Int.reduceEq, true_and, false_and, and_true, and_false, ↓reduceIte]
  refine r_lst C dS_valueGood_19 (by decide) (ls' := [(0, _), (1, _), (2, _), (3, _)]) rfl ?_
  refine r_ald C dS_valueGood_20 rfl ?_
  refine r_getR C dS_valueGood_21 rfl rfl ?_
  refine r_getR C dS_valueGood_24 rfl rfl ?_
  refine r_ild C dS_valueGood_27 rfl ?_
  refine r_iald C dS_valueGood_28 rfl ⟨by omega, by omega⟩ (by decide) ?_
  try simp only [rd, rdU, rowS, rowU, rowE, ne_eq, not_false_eq_true, Nat.reduceEqDiff, Int.reduceEq, true_and, false_and, and_true, and_false, ↓reduceIte]
  have hv : I 15 c = 1 ∨ I 15 c = 4 ∨ (I 15 c ≠ 1 ∧ I 15 c ≠ 4) := by omega
  rcases hv with b29 | b29 | b29
  · refine r_lsw C (by omega) dS_valueGood_29 (off := 27) (by decide +kernel) (by rw [b29]; rfl) rfl ?_
    refine r_ald C dS_valueGood_56 rfl ?_
    refine r_getR C dS_valueGood_57 rfl rfl ?_
    refine r_getR C dS_valueGood_60 rfl rfl ?_
    refine r_ild C dS_valueGood_63 rfl ?_
    refine r_ald C dS_valueGood_64 rfl ?_
    refine r_getR C dS_valueGood_65 rfl rfl ?_
    refine r_getR C dS_valueGood_68 rfl rfl ?_
    refine r_ild C dS_valueGood_71 rfl ?_
    refine r_lald C dS_valueGood_72 rfl ⟨by omega, by omega⟩ (by decide) ?_
    try simp only [rd, rdU, rowS, rowU, rowE, ne_eq, not_false_eq_true, Nat.reduceEqDiff, Int.reduceEq, true_and, false_and, and_true, and_false, ↓reduceIte]
    refine r_last C dS_valueGood_73 rfl rfl ⟨by omega, by omega⟩ (by decide) ?_
    refine r_goto C dS_valueGood_74 ?_
    exact r_vret C dS_valueGood_128 rfl (Nat.le_of_ble_eq_true rfl) (Nat.le_of_ble_eq_true rfl) (h1 b29)
  · refine r_lsw C (by omega) dS_valueGood_29 (off := 48) (by decide +kernel) (by rw [b29]; rfl) rfl ?_
    refine r_ald C dS_valueGood_77 rfl ?_
    refine r_getR C dS_valueGood_78 rfl rfl ?_
    refine r_getR C dS_valueGood_81 rfl rfl ?_
    refine r_ild C dS_valueGood_84 rfl ?_
    refine r_lld C dS_valueGood_85 rfl ?_
    refine r_last C dS_valueGood_86 rfl rfl ⟨by omega, by omega⟩ (by decide) ?_
    refine r_goto C dS_valueGood_87 ?_
    exact r_vret C dS_valueGood_128 rfl (Nat.le_of_ble_eq_true rfl) (Nat.le_of_ble_eq_true rfl) (h4 b29)
  · have hv2 : I 15 c = 0 ∨ I 15 c = 2 ∨ I 15 c = 3 := by omega
    refine r_lsw C (by omega) dS_valueGood_29 (off := 61) (by decide +kernel) (by rcases hv2 with h9 | h9 | h9 <;> (rw [h9]; rfl)) rfl ?_
    refine r_ald C dS_valueGood_90 rfl ?_
    refine r_getR C dS_valueGood_91 rfl rfl ?_
    refine r_getR C dS_valueGood_94 rfl rfl ?_
    refine r_ild C dS_valueGood_97 rfl ?_
    refine r_ald C dS_valueGood_98 rfl ?_
    refine r_getR C dS_valueGood_99 rfl rfl ?_
    refine r_ild C dS_valueGood_102 rfl ?_
    refine r_lld C dS_valueGood_103 rfl ?_
    refine r_callV C lzA_takeOut dS_valueGood_104 _ [_, _] [_, _] rfl rfl rfl rfl rfl (Nat.le_of_ble_eq_true rfl) ⟨(Nat.le_of_ble_eq_true rfl), (Nat.le_of_ble_eq_true rfl), (Nat.le_of_ble_eq_true rfl), (Nat.le_of_ble_eq_true rfl)⟩ rfl (cA_takeOut C.2.2.2.2.2.1 has ham hlf ?_)
    try simp only [rd, rdU, rowS, rowU, rowE, ne_eq, not_false_eq_true, Nat.reduceEqDiff, Int.reduceEq, true_and, false_and, and_true, and_false, ↓reduceIte]
    refine r_last C dS_valueGood_107 rfl rfl ⟨by omega, by omega⟩ (by decide) ?_
    refine r_ald C dS_valueGood_108 rfl ?_
    refine r_getR C dS_valueGood_109 rfl rfl ?_
    refine r_getR C dS_valueGood_112 rfl rfl ?_
    refine r_ild C dS_valueGood_115 rfl ?_
    refine r_lld C dS_valueGood_116 rfl ?_
    refine r_ald C dS_valueGood_117 rfl ?_
    refine r_getR C dS_valueGood_118 rfl rfl ?_
    refine r_getR C dS_valueGood_121 rfl rfl ?_
    refine r_ild C dS_valueGood_124 rfl ?_
    refine r_lald C dS_valueGood_125 rfl ⟨by omega, by omega⟩ (by decide) ?_
    try simp only [rd, rdU, rowS, rowU, rowE, ne_eq, not_false_eq_true, Nat.reduceEqDiff, Int.reduceEq, true_and, false_and, and_true, and_false, ↓reduceIte]
    refine r_lsub C dS_valueGood_126 ?_
    refine r_last C dS_valueGood_127 rfl rfl ⟨by omega, by omega⟩ (by decide) ?_
    exact r_vret C dS_valueGood_128 rfl (Nat.le_of_ble_eq_true rfl) (Nat.le_of_ble_eq_true rfl) (h0 b29.1 b29.2)
set_option maxRecDepth 100000 in
set_option maxHeartbeats 4000000 in
theorem cS_valueClauses {g : ed_g} {l : Launch} (hl : l.stackTraces = false) {I : ed_I} {L : ed_L} (hs : ∀ j, 1 ≤ j → j ≤ 40 → -1 ≤ I 61 j ∧ I 61 j ≤ 3) (hkd : ∀ j, 0 ≤ j → j ≤ 40 → 0 ≤ I 15 j ∧ I 15 j ≤ 4) (has : ∀ j, 0 ≤ j → j ≤ 40 → 0 ≤ I 17 j ∧ I 17 j ≤ 40) (ham : ∀ j, 0 ≤ j → j ≤ 40 → 0 ≤ L 16 j ∧ L 16 j ≤ 1000000000000) (hlf : ∀ j, 0 ≤ j → j ≤ 40 → 0 ≤ L 11 j ∧ L 11 j ≤ 1000000000000) (hz : ∀ j, 0 ≤ j → j ≤ 40 → L 63 j = 0 ∧ L 66 j = 0 ∧ L 64 j = 0 ∧ L 65 j = 0) {post : ed_post} (hn : ∀ f p h m n : Int → Int, (∀ j, 1 ≤ j → j < 41 → f j = if I 61 j = 0 ∧ I 15 j = 1 then tkL (vcq I) (I 17) (L 16) (L 11) (j - 1).toNat (I 17 j) else 0) → (∀ j, 1 ≤ j → j < 41 → p j = if I 61 j = 0 ∧ I 15 j = 4 then L 16 j else 0) → (∀ j, 1 ≤ j → j < 41 → m j = tkO (vcq I) (I 17) (L 16) (L 11) j) → (∀ j, 1 ≤ j → j < 41 → n j = if vcq I j = true then L 16 j - tkO (vcq I) (I 17) (L 16) (L 11) j else 0) → h = tkL (vcq I) (I 17) (L 16) (L 11) 40 → post (.inl none) Yw I (setR (setR (setR (setR (setR L 63 f) 66 p) 11 h) 64 m) 65 n)) : ed_Ct g l mS_valueClauses 3 0 0 [.ref 74] Yw I L post := by
  refine ed_Ct.of hl rfl (Nat.le_of_ble_eq_true rfl) (fun x _ C => ?_)
  show Gd g x post _ _ _ _ _ _ _ _ 0 [(0, _)] []
  have loop : ∀ (q : Nat) (i : Int) (f p h m n : Int → Int), (41 - i).toNat < q → 1 ≤ i ∧ i ≤ 41 → (∀ j, 1 ≤ j → j < i → f j = if I 61 j = 0 ∧ I 15 j = 1 then tkL (vcq I) (I 17) (L 16) (L 11) (j - 1).toNat (I 17 j) else 0) → (∀ j, 1 ≤ j → j < i → p j = if I 61 j = 0 ∧ I 15 j = 4 then L 16 j else 0) → h = tkL (vcq I) (I 17) (L 16) (L 11) (i - 1).toNat → (∀ j, 1 ≤ j → j < i → m j = tkO (vcq I) (I 17) (L 16) (L 11) j) → (∀ j, 1 ≤ j → j < i → n j = if vcq I j = true then L 16 j - tkO (vcq I) (I 17) (L 16) (L 11) j else 0) → (∀ j, i ≤ j → j ≤ 40 → f j = 0 ∧ p j = 0 ∧ m j = 0 ∧ n j = 0) → Gd g x post 0 0 mS_valueClauses.2.2.1 0 0 Yw I (setR (setR (setR (setR (setR L 63 f) 66 p) 11 h) 64 m) 65 n) 2 [(0, .ref 74), (1, .int (iZ i))] [] := by
    intro q
    induction q with
    | zero => intro i f p h m n hq; omega
    | succ q ih =>
      intro i f p h m n hq g1 g2 g3 g4 g5 g6 g7
      have hri := fun (h : i ≤ 40) => hs i (by omega) h
      have ha1 := fun (h : i ≤ 40) => has i (by omega) h
      have hf9 : i ≤ 40 → 0 ≤ h (I 17 i) ∧ h (I 17 i) ≤ 1000000000000 := by
        intro h9
        have q1 := tkL_in (q := vcq I) (a := I 17) (w := L 16) (l := L 11) (fun j j0 j1 => (ham j (by omega) j1).1) (fun b b0 b1 => (hlf b b0 b1).1) (ha1 h9) (i - 1).toNat (by omega)
        have q2 := hlf (I 17 i) (ha1 h9).1 (ha1 h9).2
        rw [← g4] at q1
        omega
      refine r_ild C dS_valueClauses_2 rfl ?_
      refine r_ik C dS_valueClauses_3 ?_
      refine r_icmp_gt C dS_valueClauses_5 (by omega) (fun b5 => ?_) (fun b5 => ?_)
      · exact r_vret C dS_valueClauses_31 rfl (Nat.le_of_ble_eq_true rfl) (Nat.le_of_ble_eq_true rfl) (hn f p h m n (fun j j0 j1 => g2 j j0 (by omega)) (fun j j0 j1 => g3 j j0 (by omega)) (fun j j0 j1 => g5 j j0 (by omega)) (fun j j0 j1 => g6 j j0 (by omega)) (by rw [g4, show (i - 1).toNat = 40 by omega]))
      · refine r_ald C dS_valueClauses_8 rfl ?_
        refine r_getR C dS_valueClauses_9 rfl rfl ?_
        refine r_getR C dS_valueClauses_12 rfl rfl ?_
        refine r_ild C dS_valueClauses_15 rfl ?_
        refine r_iald C dS_valueClauses_16 rfl ⟨by omega, by omega⟩ (by decide) ?_
        try simp only [rd, rdU, rowS, rowU, rowE, ne_eq, not_false_eq_true, Nat.reduceEqDiff, Int.reduceEq, true_and, false_and, and_true, and_false, ↓reduceIte]
        refine r_if_ne C dS_valueClauses_17 (by omega) (fun b17 => ?_) (fun b17 => ?_)
        · refine r_iinc C dS_valueClauses_25 (by decide) rfl (ls' := [(0, _), (1, _)]) rfl ?_
          refine r_goto C dS_valueClauses_28 ?_
          have eq9 : ¬ vcq I i = true := fun h9 => by have h8 := of_decide_eq_true h9; omega
          have eo : tkO (vcq I) (I 17) (L 16) (L 11) i = 0 := by unfold tkO; rw [if_neg eq9]
          refine ih (i + 1) _ _ _ _ _ (by omega) (by omega) (fun j j0 j1 => ?_) (fun j j0 j1 => ?_) ?_ (fun j j0 j1 => ?_) (fun j j0 j1 => ?_) (fun j j0 j1 => ?_)
          · by_cases e : j = i
            · subst e; rw [if_neg (by omega)]; exact (g7 j (by omega) (by omega)).1
            · exact g2 j j0 (by omega)
          · by_cases e : j = i
            · subst e; rw [if_neg (by omega)]; exact (g7 j (by omega) (by omega)).2.1
            · exact g3 j j0 (by omega)
          · rw [tkL_to _ _ _ _ g1.1, if_neg eq9]; exact g4
          · by_cases e : j = i
            · subst e; rw [eo]; exact (g7 j (by omega) (by omega)).2.2.1
            · exact g5 j j0 (by omega)
          · by_cases e : j = i
            · subst e; rw [if_neg eq9]; exact (g7 j (by omega) (by omega)).2.2.2
            · exact g6 j j0 (by omega)
          · exact g7 j (by omega) j1
        · refine r_ald C dS_valueClauses_20 rfl ?_
          refine r_ild C dS_valueClauses_21 rfl ?_
          refine r_callV C lzS_valueGood dS_valueClauses_22 _ [_] [] rfl rfl rfl rfl rfl (Nat.le_of_ble_eq_true rfl) ⟨(Nat.le_of_ble_eq_true rfl), (Nat.le_of_ble_eq_true rfl), (Nat.le_of_ble_eq_true rfl), (Nat.le_of_ble_eq_true rfl)⟩ rfl (cS_valueGood C.2.2.2.2.2.1 ⟨by omega, by omega⟩ (hkd i (by omega) (by omega)) (has i (by omega) (by omega)) (by simp only [rd, rdU, rowS, rowU, rowE, ne_eq, not_false_eq_true, Nat.reduceEqDiff, Int.reduceEq, true_and, false_and, and_true, and_false, ↓reduceIte]; exact ham i (by omega) (by omega)) (by simp only [rd, rdU, rowS, rowU, rowE, ne_eq, not_false_eq_true, Nat.reduceEqDiff, Int.reduceEq, true_and, false_and, and_true, and_false, ↓reduceIte]; exact hf9 (by omega)) (fun b1 => ?_) (fun b1 => ?_) (fun b1 b2 => ?_))
          · replace b1 : I 15 i = 1 := b1
            refine r_iinc C dS_valueClauses_25 (by decide) rfl (ls' := [(0, _), (1, _)]) rfl ?_
            refine r_goto C dS_valueClauses_28 ?_
            have eq9 : ¬ vcq I i = true := fun h9 => by have h8 := of_decide_eq_true h9; omega
            have eo : tkO (vcq I) (I 17) (L 16) (L 11) i = 0 := by unfold tkO; rw [if_neg eq9]
            simp only [up_eq, up_ne, rd, rdU, rowS, rowU, rowE, ne_eq, Nat.reduceEqDiff, Int.reduceEq, not_false_eq_true, true_and, false_and, and_true, and_false, ↓reduceIte]
            refine ih (i + 1) _ _ _ _ _ (by omega) (by omega) (fun j j0 j1 => ?_) (fun j j0 j1 => ?_) ?_ (fun j j0 j1 => ?_) (fun j j0 j1 => ?_) (fun j j0 j1 => ?_)
            · by_cases e : j = i
              · subst e; rw [up1_s, if_pos ⟨b17, b1⟩, g4]
              · rw [up1_o _ e]; exact g2 j j0 (by omega)
            · by_cases e : j = i
              · subst e; rw [if_neg (by omega)]; exact (g7 j (by omega) (by omega)).2.1
              · exact g3 j j0 (by omega)
            · rw [tkL_to _ _ _ _ g1.1, if_neg eq9]; exact g4
            · by_cases e : j = i
              · subst e; rw [eo]; exact (g7 j (by omega) (by omega)).2.2.1
              · exact g5 j j0 (by omega)
            · by_cases e : j = i
              · subst e; rw [if_neg eq9]; exact (g7 j (by omega) (by omega)).2.2.2
              · exact g6 j j0 (by omega)
            · rw [up1_o _ (show j ≠ i by omega)]; exact g7 j (by omega) j1
          · replace b1 : I 15 i = 4 := b1
            refine r_iinc C dS_valueClauses_25 (by decide) rfl (ls' := [(0, _), (1, _)]) rfl ?_
            refine r_goto C dS_valueClauses_28 ?_
            have eq9 : ¬ vcq I i = true := fun h9 => by have h8 := of_decide_eq_true h9; omega
            have eo : tkO (vcq I) (I 17) (L 16) (L 11) i = 0 := by unfold tkO; rw [if_neg eq9]
            simp only [up_eq, up_ne, rd, rdU, rowS, rowU, rowE, ne_eq, Nat.reduceEqDiff, Int.reduceEq, not_false_eq_true, true_and, false_and, and_true, and_false, ↓reduceIte]
            refine ih (i + 1) _ _ _ _ _ (by omega) (by omega) (fun j j0 j1 => ?_) (fun j j0 j1 => ?_) ?_ (fun j j0 j1 => ?_) (fun j j0 j1 => ?_) (fun j j0 j1 => ?_)
            · by_cases e : j = i
              · subst e; rw [if_neg (by omega)]; exact (g7 j (by omega) (by omega)).1
              · exact g2 j j0 (by omega)
            · by_cases e : j = i
              · subst e; rw [up1_s, if_pos ⟨b17, b1⟩]
              · rw [up1_o _ e]; exact g3 j j0 (by omega)
            · rw [tkL_to _ _ _ _ g1.1, if_neg eq9]; exact g4
            · by_cases e : j = i
              · subst e; rw [eo]; exact (g7 j (by omega) (by omega)).2.2.1
              · exact g5 j j0 (by omega)
            · by_cases e : j = i
              · subst e; rw [if_neg eq9]; exact (g7 j (by omega) (by omega)).2.2.2
              · exact g6 j j0 (by omega)
            · rw [up1_o _ (show j ≠ i by omega)]; exact g7 j (by omega) j1
          · replace b1 : I 15 i ≠ 1 ∧ I 15 i ≠ 4 := ⟨b1, b2⟩
            refine r_iinc C dS_valueClauses_25 (by decide) rfl (ls' := [(0, _), (1, _)]) rfl ?_
            refine r_goto C dS_valueClauses_28 ?_
            have eq9 : vcq I i = true := decide_eq_true ⟨b17, b1.1, b1.2⟩
            have eo : tkO (vcq I) (I 17) (L 16) (L 11) i = min (L 16 i) (h (I 17 i)) := by unfold tkO; rw [if_pos eq9, g4]
            simp only [up_eq, up_ne, rd, rdU, rowS, rowU, rowE, ne_eq, Nat.reduceEqDiff, Int.reduceEq, not_false_eq_true, true_and, false_and, and_true, and_false, ↓reduceIte]
            refine ih (i + 1) _ _ _ _ _ (by omega) (by omega) (fun j j0 j1 => ?_) (fun j j0 j1 => ?_) ?_ (fun j j0 j1 => ?_) (fun j j0 j1 => ?_) (fun j j0 j1 => ?_)
            · by_cases e : j = i
              · subst e; rw [if_neg (by omega)]; exact (g7 j (by omega) (by omega)).1
              · exact g2 j j0 (by omega)
            · by_cases e : j = i
              · subst e; rw [if_neg (by omega)]; exact (g7 j (by omega) (by omega)).2.1
              · exact g3 j j0 (by omega)
            · rw [tkL_to _ _ _ _ g1.1, if_pos eq9, ← g4]
            · by_cases e : j = i
              · subst e; rw [up1_s, eo]
              · rw [up1_o _ e]; exact g5 j j0 (by omega)
            · by_cases e : j = i
              · subst e; rw [up1_s, if_pos eq9, eo]
              · rw [up1_o _ e]; exact g6 j j0 (by omega)
            · rw [up1_o _ (show j ≠ i by omega)]; rw [up1_o _ (show j ≠ i by omega)]; exact g7 j (by omega) j1
  refine r_ik C dS_valueClauses_0 ?_
  refine r_ist C dS_valueClauses_1 (by decide) (ls' := [(0, _), (1, _)]) rfl ?_
  have h := loop 50 1 (L 63) (L 66) (L 11) (L 64) (L 65) (by omega) (by omega) (fun j j0 j1 => by omega) (fun j j0 j1 => by omega) rfl (fun j j0 j1 => by omega) (fun j j0 j1 => by omega) (fun j j0 j1 => hz j (by omega) j1)
  rw [setR_id, setR_id, setR_id, setR_id, setR_id] at h
  exact h
/-- what is there, and what of it is left and not given -/
def aT (I : ed_I) (L : ed_L) (a : Int) : Int := if I 7 a ≠ 0 ∧ I 10 a = 0 then L 8 a else 0
def aF (I : ed_I) (L : ed_L) (a : Int) : Int := if I 7 a ≠ 0 ∧ I 10 a = 0 then (if I 12 a = 0 then L 11 a else 0) else 0
theorem sm_le {f : Int → Int} {B : Int} (h : ∀ j, 1 ≤ j → j ≤ 40 → 0 ≤ f j ∧ f j ≤ B) : ∀ n : Nat, n ≤ 40 → 0 ≤ sm f n ∧ sm f n ≤ B * n
  | 0, _ => by simp [sm]
  | n + 1, hn => by
    have ih := sm_le h n (by omega)
    have h1 := h (n + 1) (by omega) (by omega)
    show 0 ≤ sm f n + f (n + 1) ∧ sm f n + f (n + 1) ≤ B * ((n + 1 : Nat) : Int)
    have e : B * ((n + 1 : Nat) : Int) = B * n + B := by rw [Int.natCast_add, Int.mul_add]; simp
    omega
theorem sm_congr {f k : Int → Int} (h : ∀ j, 1 ≤ j → j ≤ 40 → f j = k j) : ∀ n : Nat, n ≤ 40 → sm f n = sm k n
  | 0, _ => rfl
  | n + 1, hn => by
    show sm f n + f (n + 1) = sm k n + k (n + 1)
    rw [sm_congr h n (by omega), h (n + 1) (by omega) (by omega)]
set_option maxRecDepth 100000 in
set_option maxHeartbeats 4000000 in
theorem cS_addUp {g : ed_g} {l : Launch} (hl : l.stackTraces = false) {I : ed_I} {L : ed_L} (ht : ∀ j, 0 ≤ j → j ≤ 40 → (I 7 j = 0 ∨ I 7 j = 1) ∧ (I 10 j = 0 ∨ I 10 j = 1)) (hgv : ∀ j, 0 ≤ j → j ≤ 40 → 0 ≤ I 12 j ∧ I 12 j ≤ 40) (hv8 : ∀ j, 0 ≤ j → j ≤ 40 → 0 ≤ L 8 j ∧ L 8 j ≤ 1000000000000) (hlf : ∀ j, 0 ≤ j → j ≤ 40 → 0 ≤ L 11 j ∧ L 11 j ≤ 1000000000000) (hsD : 0 ≤ sm (L 72) 40 ∧ sm (L 72) 40 ≤ 100000000000000) (hsG : 0 ≤ sm (L 65) 40 ∧ sm (L 65) 40 ≤ 100000000000000) {post : ed_post} (hn : ∀ s : Int → Int, s 0 = sm (aT I L) 40 → s 2 = sm (aF I L) 40 → s 3 = sm (L 72) 40 → s 4 = sm (L 65) 40 → s 5 = sm (L 64) 40 → s 6 = sm (L 63) 40 → s 7 = max 0 (sm (aF I L) 40 - sm (L 72) 40 - sm (L 65) 40) → post (.inl none) Yw I (setR L 78 s)) : ed_Ct g l mS_addUp 1 0 0 [.ref 74] Yw I L post := by
  refine ed_Ct.of hl rfl (Nat.le_of_ble_eq_true rfl) (fun x _ C => ?_)
  show Gd g x post _ _ _ _ _ _ _ _ 0 [(0, _)] []
  have loop : ∀ (q : Nat) (i : Int) (s : Int → Int), (41 - i).toNat < q → 1 ≤ i ∧ i ≤ 41 → s 0 = sm (aT I L) (i - 1).toNat → s 2 = sm (aF I L) (i - 1).toNat → Gd g x post 0 0 mS_addUp.2.2.1 0 0 Yw I (setR L 78 s) 16 [(0, .ref 74), (1, .int (iZ i))] [] := by
    intro q
    induction q with
    | zero => intro i s hq; omega
    | succ q ih =>
      intro i s hq g1 g2 g3
      have hgi := fun (h : i ≤ 40) => hgv i (by omega) h
      refine r_ild C dS_addUp_16 rfl ?_
      refine r_ik C dS_addUp_17 ?_
      refine r_icmp_gt C dS_addUp_19 (by omega) (fun b19 => ?_) (fun b19 => ?_)
      · have e40 : (i - 1).toNat = 40 := by omega
        rw [e40] at g2 g3
        have hT9 := sm_le (f := aF I L) (B := 1000000000000) (fun j j0 j1 => by unfold aF; have := hlf j (by omega) j1; split <;> (try split) <;> omega) 40 (by decide)
        rw [← g3] at hT9
        refine r_ald C dS_addUp_91 rfl ?_
        refine r_getR C dS_addUp_92 rfl rfl ?_
        refine r_ik C dS_addUp_95 ?_
        refine r_ald C dS_addUp_96 rfl ?_
        refine r_getR C dS_addUp_97 rfl rfl ?_
        refine r_getR C dS_addUp_100 rfl rfl ?_
        refine r_callS C lzD_total dS_addUp_103 [_] [_, _] rfl rfl (Nat.le_of_ble_eq_true rfl) ⟨(Nat.le_of_ble_eq_true rfl), (Nat.le_of_ble_eq_true rfl), (Nat.le_of_ble_eq_true rfl), (Nat.le_of_ble_eq_true rfl)⟩ rfl (cD_total C.2.2.2.2.2.1 rfl ?_)
        try simp only [rd, rdU, rowS, rowU, rowE, ne_eq, not_false_eq_true, Nat.reduceEqDiff, Int.reduceEq, true_and, false_and, and_true, and_false, ↓reduceIte]
        refine r_last C dS_addUp_106 rfl rfl ⟨by omega, by omega⟩ (by decide) ?_
        refine r_ald C dS_addUp_107 rfl ?_
        refine r_getR C dS_addUp_108 rfl rfl ?_
        refine r_ik C dS_addUp_111 ?_
        refine r_ald C dS_addUp_112 rfl ?_
        refine r_getR C dS_addUp_113 rfl rfl ?_
        refine r_getR C dS_addUp_116 rfl rfl ?_
        refine r_callS C lzD_total dS_addUp_119 [_] [_, _] rfl rfl (Nat.le_of_ble_eq_true rfl) ⟨(Nat.le_of_ble_eq_true rfl), (Nat.le_of_ble_eq_true rfl), (Nat.le_of_ble_eq_true rfl), (Nat.le_of_ble_eq_true rfl)⟩ rfl (cD_total C.2.2.2.2.2.1 rfl ?_)
        try simp only [rd, rdU, rowS, rowU, rowE, ne_eq, not_false_eq_true, Nat.reduceEqDiff, Int.reduceEq, true_and, false_and, and_true, and_false, ↓reduceIte]
        refine r_last C dS_addUp_122 rfl rfl ⟨by omega, by omega⟩ (by decide) ?_
        refine r_ald C dS_addUp_123 rfl ?_
        refine r_getR C dS_addUp_124 rfl rfl ?_
        refine r_ik C dS_addUp_127 ?_
        refine r_ald C dS_addUp_128 rfl ?_
        refine r_getR C dS_addUp_129 rfl rfl ?_
        refine r_getR C dS_addUp_132 rfl rfl ?_
        refine r_callS C lzD_total dS_addUp_135 [_] [_, _] rfl rfl (Nat.le_of_ble_eq_true rfl) ⟨(Nat.le_of_ble_eq_true rfl), (Nat.le_of_ble_eq_true rfl), (Nat.le_of_ble_eq_true rfl), (Nat.le_of_ble_eq_true rfl)⟩ rfl (cD_total C.2.2.2.2.2.1 rfl ?_)
        try simp only [rd, rdU, rowS, rowU, rowE, ne_eq, not_false_eq_true, Nat.reduceEqDiff, Int.reduceEq, true_and, false_and, and_true, and_false, ↓reduceIte]
        refine r_last C dS_addUp_138 rfl rfl ⟨by omega, by omega⟩ (by decide) ?_
        refine r_ald C dS_addUp_139 rfl ?_
        refine r_getR C dS_addUp_140 rfl rfl ?_
        refine r_ik C dS_addUp_143 ?_
        refine r_ald C dS_addUp_145 rfl ?_
        refine r_getR C dS_addUp_146 rfl rfl ?_
        refine r_getR C dS_addUp_149 rfl rfl ?_
        refine r_callS C lzD_total dS_addUp_152 [_] [_, _] rfl rfl (Nat.le_of_ble_eq_true rfl) ⟨(Nat.le_of_ble_eq_true rfl), (Nat.le_of_ble_eq_true rfl), (Nat.le_of_ble_eq_true rfl), (Nat.le_of_ble_eq_true rfl)⟩ rfl (cD_total C.2.2.2.2.2.1 rfl ?_)
        try simp only [rd, rdU, rowS, rowU, rowE, ne_eq, not_false_eq_true, Nat.reduceEqDiff, Int.reduceEq, true_and, false_and, and_true, and_false, ↓reduceIte]
        refine r_last C dS_addUp_155 rfl rfl ⟨by omega, by omega⟩ (by decide) ?_
        refine r_ald C dS_addUp_156 rfl ?_
        refine r_getR C dS_addUp_157 rfl rfl ?_
        refine r_ik C dS_addUp_160 ?_
        refine r_lk C dS_addUp_162 ?_
        refine r_ald C dS_addUp_163 rfl ?_
        refine r_getR C dS_addUp_164 rfl rfl ?_
        refine r_ik C dS_addUp_167 ?_
        refine r_lald C dS_addUp_168 rfl ⟨by omega, by omega⟩ (by decide) ?_
        try simp only [rd, rdU, rowS, rowU, rowE, ne_eq, not_false_eq_true, Nat.reduceEqDiff, Int.reduceEq, true_and, false_and, and_true, and_false, ↓reduceIte]
        refine r_ald C dS_addUp_169 rfl ?_
        refine r_getR C dS_addUp_170 rfl rfl ?_
        refine r_ik C dS_addUp_173 ?_
        refine r_lald C dS_addUp_174 rfl ⟨by omega, by omega⟩ (by decide) ?_
        try simp only [rd, rdU, rowS, rowU, rowE, ne_eq, not_false_eq_true, Nat.reduceEqDiff, Int.reduceEq, true_and, false_and, and_true, and_false, ↓reduceIte]
        refine r_lsub C dS_addUp_175 ?_
        refine r_ald C dS_addUp_176 rfl ?_
        refine r_getR C dS_addUp_177 rfl rfl ?_
        refine r_ik C dS_addUp_180 ?_
        refine r_lald C dS_addUp_181 rfl ⟨by omega, by omega⟩ (by decide) ?_
        try simp only [rd, rdU, rowS, rowU, rowE, ne_eq, not_false_eq_true, Nat.reduceEqDiff, Int.reduceEq, true_and, false_and, and_true, and_false, ↓reduceIte]
        refine r_lsub C dS_addUp_182 ?_
        refine r_mmax C (idx := 61) (by decide +kernel) rfl (tb3 77 rfl) rfl (Nat.le_of_ble_eq_true rfl) (Nat.le_of_ble_eq_true rfl) (Nat.le_of_ble_eq_true rfl) (Nat.le_of_ble_eq_true rfl) (by omega) ?_
        refine r_last C dS_addUp_186 rfl rfl ⟨by omega, by omega⟩ (by decide) ?_
        exact r_vret C dS_addUp_187 rfl (Nat.le_of_ble_eq_true rfl) (Nat.le_of_ble_eq_true rfl) (by simp only [up_eq]; exact hn _ (by simp [up1, g2]) (by simp [up1, g3]) (by simp [up1]) (by simp [up1]) (by simp [up1]) (by simp [up1]) (by simp [up1, g3]))
      · refine r_ald C dS_addUp_22 rfl ?_
        refine r_getR C dS_addUp_23 rfl rfl ?_
        refine r_ild C dS_addUp_26 rfl ?_
        refine r_callV C lzA_isThere dS_addUp_27 _ [_] [] rfl rfl rfl rfl rfl (Nat.le_of_ble_eq_true rfl) ⟨(Nat.le_of_ble_eq_true rfl), (Nat.le_of_ble_eq_true rfl), (Nat.le_of_ble_eq_true rfl), (Nat.le_of_ble_eq_true rfl)⟩ rfl (cA_isThere C.2.2.2.2.2.1 ⟨by omega, by omega⟩ (ht i (by omega) (by omega)) (fun b27 => ?_) (fun b27 => ?_))
        · refine r_if_eq C dS_addUp_30 (by omega) (fun b30 => ?_) (fun b30 => ?_)
          · omega
          · refine r_ald C dS_addUp_33 rfl ?_
            refine r_getR C dS_addUp_34 rfl rfl ?_
            refine r_ik C dS_addUp_37 ?_
            refine r_dup2 C dS_addUp_38 rfl rfl ?_
            refine r_lald C dS_addUp_39 rfl ⟨by omega, by omega⟩ (by decide) ?_
            try simp only [rd, rdU, rowS, rowU, rowE, ne_eq, not_false_eq_true, Nat.reduceEqDiff, Int.reduceEq, true_and, false_and, and_true, and_false, ↓reduceIte]
            refine r_ald C dS_addUp_40 rfl ?_
            refine r_getR C dS_addUp_41 rfl rfl ?_
            refine r_getR C dS_addUp_44 rfl rfl ?_
            refine r_ild C dS_addUp_47 rfl ?_
            refine r_lald C dS_addUp_48 rfl ⟨by omega, by omega⟩ (by decide) ?_
            try simp only [rd, rdU, rowS, rowU, rowE, ne_eq, not_false_eq_true, Nat.reduceEqDiff, Int.reduceEq, true_and, false_and, and_true, and_false, ↓reduceIte]
            refine r_ladd C dS_addUp_49 ?_
            refine r_last C dS_addUp_50 rfl rfl ⟨by omega, by omega⟩ (by decide) ?_
            refine r_ald C dS_addUp_51 rfl ?_
            refine r_getR C dS_addUp_52 rfl rfl ?_
            refine r_ik C dS_addUp_55 ?_
            refine r_dup2 C dS_addUp_56 rfl rfl ?_
            refine r_lald C dS_addUp_57 rfl ⟨by omega, by omega⟩ (by decide) ?_
            try simp only [rd, rdU, rowS, rowU, rowE, ne_eq, not_false_eq_true, Nat.reduceEqDiff, Int.reduceEq, true_and, false_and, and_true, and_false, ↓reduceIte]
            refine r_ald C dS_addUp_58 rfl ?_
            refine r_getR C dS_addUp_59 rfl rfl ?_
            refine r_getR C dS_addUp_62 rfl rfl ?_
            refine r_ild C dS_addUp_65 rfl ?_
            refine r_iald C dS_addUp_66 rfl ⟨by omega, by omega⟩ (by decide) ?_
            try simp only [rd, rdU, rowS, rowU, rowE, ne_eq, not_false_eq_true, Nat.reduceEqDiff, Int.reduceEq, true_and, false_and, and_true, and_false, ↓reduceIte]
            refine r_if_ne C dS_addUp_67 (by omega) (fun b67 => ?_) (fun b67 => ?_)
            · refine r_lk C dS_addUp_82 ?_
              refine r_ladd C dS_addUp_83 ?_
              refine r_last C dS_addUp_84 rfl rfl ⟨by omega, by omega⟩ (by decide) ?_
              refine r_iinc C dS_addUp_85 (by decide) rfl (ls' := [(0, _), (1, _)]) rfl ?_
              refine r_goto C dS_addUp_88 ?_
              try simp only [up_eq, up_ne, rd, rdU, rowS, rowU, rowE, ne_eq, Nat.reduceEqDiff, Int.reduceEq, not_false_eq_true, true_and, false_and, and_true, and_false, ↓reduceIte]
              have u1 : aT I L i = L 8 i := if_pos b27
              have u2 : aF I L i = 0 := by unfold aF; rw [if_pos b27, if_neg b67]
              refine ih (i + 1) _ (by omega) (by omega) ?_ ?_
              · rw [sm_to _ g1.1, u1, ← g2]; simp [up1]
              · rw [sm_to _ g1.1, u2, ← g3]; simp [up1]
            · refine r_ald C dS_addUp_70 rfl ?_
              refine r_getR C dS_addUp_71 rfl rfl ?_
              refine r_getR C dS_addUp_74 rfl rfl ?_
              refine r_ild C dS_addUp_77 rfl ?_
              refine r_lald C dS_addUp_78 rfl ⟨by omega, by omega⟩ (by decide) ?_
              try simp only [rd, rdU, rowS, rowU, rowE, ne_eq, not_false_eq_true, Nat.reduceEqDiff, Int.reduceEq, true_and, false_and, and_true, and_false, ↓reduceIte]
              refine r_goto C dS_addUp_79 ?_
              refine r_ladd C dS_addUp_83 ?_
              refine r_last C dS_addUp_84 rfl rfl ⟨by omega, by omega⟩ (by decide) ?_
              refine r_iinc C dS_addUp_85 (by decide) rfl (ls' := [(0, _), (1, _)]) rfl ?_
              refine r_goto C dS_addUp_88 ?_
              try simp only [up_eq, up_ne, rd, rdU, rowS, rowU, rowE, ne_eq, Nat.reduceEqDiff, Int.reduceEq, not_false_eq_true, true_and, false_and, and_true, and_false, ↓reduceIte]
              have u1 : aT I L i = L 8 i := if_pos b27
              have u2 : aF I L i = L 11 i := by unfold aF; rw [if_pos b27, if_pos b67]
              refine ih (i + 1) _ (by omega) (by omega) ?_ ?_
              · rw [sm_to _ g1.1, u1, ← g2]; simp [up1]
              · rw [sm_to _ g1.1, u2, ← g3]; simp [up1]
        · refine r_if_eq C dS_addUp_30 (by omega) (fun b30 => ?_) (fun b30 => ?_)
          · refine r_iinc C dS_addUp_85 (by decide) rfl (ls' := [(0, _), (1, _)]) rfl ?_
            refine r_goto C dS_addUp_88 ?_
            try simp only [up_eq, up_ne, rd, rdU, rowS, rowU, rowE, ne_eq, Nat.reduceEqDiff, Int.reduceEq, not_false_eq_true, true_and, false_and, and_true, and_false, ↓reduceIte]
            have u1 : aT I L i = 0 := if_neg b27
            have u2 : aF I L i = 0 := if_neg b27
            refine ih (i + 1) _ (by omega) (by omega) ?_ ?_
            · rw [sm_to _ g1.1, u1, ← g2]; simp [up1]
            · rw [sm_to _ g1.1, u2, ← g3]; simp [up1]
          · omega
  refine r_ald C dS_addUp_0 rfl ?_
  refine r_getR C dS_addUp_1 rfl rfl ?_
  refine r_ik C dS_addUp_4 ?_
  refine r_lk C dS_addUp_5 ?_
  refine r_last C dS_addUp_6 rfl rfl ⟨by omega, by omega⟩ (by decide) ?_
  refine r_ald C dS_addUp_7 rfl ?_
  refine r_getR C dS_addUp_8 rfl rfl ?_
  refine r_ik C dS_addUp_11 ?_
  refine r_lk C dS_addUp_12 ?_
  refine r_last C dS_addUp_13 rfl rfl ⟨by omega, by omega⟩ (by decide) ?_
  refine r_ik C dS_addUp_14 ?_
  refine r_ist C dS_addUp_15 (by decide) (ls' := [(0, _), (1, _)]) rfl ?_
  rw [← setR_id L 78]
  simp only [up_eq, up_ne, rd, rdU, rowS, rowU, rowE, ne_eq, Nat.reduceEqDiff, Int.reduceEq, not_false_eq_true, true_and, false_and, and_true, and_false, ↓reduceIte]
  exact loop 50 1 _ (by omega) (by omega) (by simp [up1, sm]) (by simp [up1, sm])
