/-! the class's settling: judging, dividing, valuing, adding up -/
theorem row_set {I : ed_I} {k a : Nat} {f : Int → Int} (h : a ≠ k) : setR I k f a = I a := by
  funext b
  unfold setR
  rw [if_neg h]
theorem row_up {I : ed_I} {k a : Nat} {i v : Int} (h : a ≠ k) : upI I k i v a = I a := by
  funext b
  exact upI_o I k i v (Or.inl h)
/-- a clause's state before abatement -/
def st0 (I : ed_I) (c : Int) : Int := if I 15 c = 0 then -1 else if tk I (I (20 + c.toNat)) = 0 then 1 else if I 15 c = 1 ∧ I 10 (I 17 c) ≠ 0 then 2 else 0
/-- the last good gift of an asset among the first n clauses -/
def gvF (st kd as : Int → Int) : Nat → Int → Int
  | 0, _ => 0
  | n + 1, a => if st (n + 1) = 0 ∧ kd (n + 1) = 1 ∧ as (n + 1) = a then n + 1 else gvF st kd as n a
theorem gvF_to (st kd as : Int → Int) {i : Int} (h : 1 ≤ i) (a : Int) : gvF st kd as (i + 1 - 1).toNat a = if st i = 0 ∧ kd i = 1 ∧ as i = a then i else gvF st kd as (i - 1).toNat a := by
  obtain ⟨n, rfl⟩ : ∃ n : Nat, i = n + 1 := ⟨(i - 1).toNat, by omega⟩
  rw [show ((n : Int) + 1 + 1 - 1).toNat = n + 1 by omega, show ((n : Int) + 1 - 1).toNat = n by omega]
  rfl
theorem gvF_in (st kd as : Int → Int) (a : Int) : ∀ n : Nat, 0 ≤ gvF st kd as n a ∧ gvF st kd as n a ≤ n
  | 0 => ⟨Int.le_refl _, Int.le_refl _⟩
  | n + 1 => by
    have h := gvF_in st kd as a n
    show 0 ≤ (if st (n + 1) = 0 ∧ kd (n + 1) = 1 ∧ as (n + 1) = a then (n : Int) + 1 else gvF st kd as n a) ∧ (if st (n + 1) = 0 ∧ kd (n + 1) = 1 ∧ as (n + 1) = a then (n : Int) + 1 else gvF st kd as n a) ≤ ((n + 1 : Nat) : Int)
    split <;> omega
/-- what is left in the assets' row after the first n takings: place a n, wanted w n, where q n -/
def tkL (q : Int → Bool) (a w l : Int → Int) : Nat → Int → Int
  | 0 => l
  | n + 1 => if q (n + 1) = true then up1 (tkL q a w l n) (a (n + 1)) (tkL q a w l n (a (n + 1)) - min (w (n + 1)) (tkL q a w l n (a (n + 1)))) else tkL q a w l n
def tkO (q : Int → Bool) (a w l : Int → Int) (i : Int) : Int := if q i = true then min (w i) (tkL q a w l (i - 1).toNat (a i)) else 0
theorem tkL_to (q : Int → Bool) (a w l : Int → Int) {i : Int} (h : 1 ≤ i) : tkL q a w l (i + 1 - 1).toNat = if q i = true then up1 (tkL q a w l (i - 1).toNat) (a i) (tkL q a w l (i - 1).toNat (a i) - min (w i) (tkL q a w l (i - 1).toNat (a i))) else tkL q a w l (i - 1).toNat := by
  obtain ⟨n, rfl⟩ : ∃ n : Nat, i = n + 1 := ⟨(i - 1).toNat, by omega⟩
  rw [show ((n : Int) + 1 + 1 - 1).toNat = n + 1 by omega, show ((n : Int) + 1 - 1).toNat = n by omega]
  rfl
theorem tkL_in {q : Int → Bool} {a w l : Int → Int} (hw : ∀ j, 1 ≤ j → j ≤ 40 → 0 ≤ w j) {b : Int} (hl : ∀ b, 0 ≤ b → b ≤ 40 → 0 ≤ l b) (hb : 0 ≤ b ∧ b ≤ 40) : ∀ n : Nat, n ≤ 40 → 0 ≤ tkL q a w l n b ∧ tkL q a w l n b ≤ l b
  | 0, _ => ⟨hl b hb.1 hb.2, Int.le_refl _⟩
  | n + 1, hn => by
    have ih := tkL_in hw (a := a) (q := q) hl hb n (by omega)
    have h1 := hw (n + 1) (by omega) (by omega)
    show 0 ≤ (if q (n + 1) = true then up1 (tkL q a w l n) (a (n + 1)) (tkL q a w l n (a (n + 1)) - min (w (n + 1)) (tkL q a w l n (a (n + 1)))) else tkL q a w l n) b ∧ (if q (n + 1) = true then up1 (tkL q a w l n) (a (n + 1)) (tkL q a w l n (a (n + 1)) - min (w (n + 1)) (tkL q a w l n (a (n + 1)))) else tkL q a w l n) b ≤ l b
    split
    · by_cases e : b = a (n + 1)
      · rw [← e, up1_s]; omega
      · rw [up1_o _ e]; exact ih
    · exact ih
set_option maxRecDepth 100000 in
set_option maxHeartbeats 4000000 in
theorem cS_judgeClauses {g : ed_g} {l : Launch} (hl : l.stackTraces = false) {I : ed_I} {L : ed_L} (hkd : ∀ j, 0 ≤ j → j ≤ 40 → 0 ≤ I 15 j ∧ I 15 j ≤ 4) (has : ∀ j, 0 ≤ j → j ≤ 40 → 0 ≤ I 17 j ∧ I 17 j ≤ 40) (hgo : ∀ j, 0 ≤ j → j ≤ 40 → I 10 j = 0 ∨ I 10 j = 1) (hrk : ∀ c j : Int, 0 ≤ c → c ≤ 40 → 1 ≤ j → j ≤ 4 → 0 ≤ I (20 + c.toNat) j ∧ I (20 + c.toNat) j ≤ 40) (hdy : (0 ≤ I 1 0 ∧ I 1 0 ≤ 100000) ∧ ∀ j, 0 ≤ j → j ≤ 40 → 0 ≤ I 2 j ∧ I 2 j ≤ 100000) (h61 : ∀ j, 1 ≤ j → j ≤ 40 → I 61 j = -1) (h62 : ∀ j, 1 ≤ j → j ≤ 40 → I 62 j = 0) (h12 : ∀ j, 0 ≤ j → j ≤ 40 → I 12 j = 0) {post : ed_post} (hn : ∀ f p h : Int → Int, (∀ j, 1 ≤ j → j ≤ 40 → f j = st0 I j) → (∀ j, 1 ≤ j → j ≤ 40 → p j = if st0 I j = 0 then tk I (I (20 + j.toNat)) else 0) → (∀ b, 0 ≤ b → b ≤ 40 → h b = gvF (st0 I) (I 15) (I 17) 40 b) → post (.inl none) Yw (setR (setR (setR I 61 f) 62 p) 12 h) L) : ed_Ct g l mS_judgeClauses 2 0 0 [.ref 74] Yw I L post := by
  refine ed_Ct.of hl rfl (Nat.le_of_ble_eq_true rfl) (fun x _ C => ?_)
  show Gd g x post _ _ _ _ _ _ _ _ 0 [(0, _)] []
  have loop : ∀ (q : Nat) (i : Int) (f p h : Int → Int), (41 - i).toNat < q → 1 ≤ i ∧ i ≤ 41 → (∀ j, 1 ≤ j → j < i → f j = st0 I j) → (∀ j, 1 ≤ j → j < i → p j = if st0 I j = 0 then tk I (I (20 + j.toNat)) else 0) → (∀ j, i ≤ j → j ≤ 40 → f j = -1 ∧ p j = 0) → (∀ b, 0 ≤ b → b ≤ 40 → h b = gvF (st0 I) (I 15) (I 17) (i - 1).toNat b) → Gd g x post 0 0 mS_judgeClauses.2.2.1 0 0 Yw (setR (setR (setR I 61 f) 62 p) 12 h) L 2 [(0, .ref 74), (1, .int (iZ i))] [] := by
    intro q
    induction q with
    | zero => intro i f p h hq; omega
    | succ q ih =>
      intro i f p h hq g1 g2 g3 g4 g5
      have hri := fun (h : i ≤ 40) => hkd i (by omega) h
      refine r_ild C dS_judgeClauses_2 rfl ?_
      refine r_ik C dS_judgeClauses_3 ?_
      refine r_icmp_gt C dS_judgeClauses_5 (by omega) (fun b5 => ?_) (fun b5 => ?_)
      · exact r_vret C dS_judgeClauses_44 rfl (Nat.le_of_ble_eq_true rfl) (Nat.le_of_ble_eq_true rfl) (hn f p h (fun j j0 j1 => g2 j j0 (by omega)) (fun j j0 j1 => g3 j j0 (by omega)) (fun b b0 b1 => by rw [g5 b b0 b1, show (i - 1).toNat = 40 by omega]))
      · refine r_ald C dS_judgeClauses_8 rfl ?_
        refine r_getR C dS_judgeClauses_9 rfl rfl ?_
        refine r_getR C dS_judgeClauses_12 rfl rfl ?_
        refine r_ild C dS_judgeClauses_15 rfl ?_
        refine r_iald C dS_judgeClauses_16 rfl ⟨by omega, by omega⟩ (by decide) ?_
        try simp only [rd, rdU, rowS, rowU, rowE, ne_eq, not_false_eq_true, Nat.reduceEqDiff, Int.reduceEq, true_and, false_and, and_true, and_false, ↓reduceIte]
        refine r_if_eq C dS_judgeClauses_17 (by omega) (fun b17 => ?_) (fun b17 => ?_)
        · refine r_iinc C dS_judgeClauses_38 (by decide) rfl (ls' := [(0, _), (1, _)]) rfl ?_
          refine r_goto C dS_judgeClauses_41 ?_
          have es : st0 I i = -1 := by unfold st0; rw [if_pos b17]
          refine ih (i + 1) _ _ _ (by omega) (by omega) (fun j j0 j1 => ?_) (fun j j0 j1 => ?_) (fun j j0 j1 => ?_) (fun b b0 b1 => ?_)
          · by_cases e : j = i
            · subst e; rw [es]; exact (g4 j (by omega) (by omega)).1
            · exact g2 j j0 (by omega)
          · by_cases e : j = i
            · subst e; rw [es]; exact (g4 j (by omega) (by omega)).2.trans (if_neg (by decide)).symm
            · exact g3 j j0 (by omega)
          · exact g4 j (by omega) j1
          · rw [gvF_to _ _ _ g1.1, es]
            rw [if_neg (fun h9 => absurd h9.1 (by decide))]; exact g5 b b0 b1
        · refine r_ald C dS_judgeClauses_20 rfl ?_
          refine r_ild C dS_judgeClauses_21 rfl ?_
          refine r_ald C dS_judgeClauses_22 rfl ?_
          refine r_ald C dS_judgeClauses_23 rfl ?_
          refine r_getR C dS_judgeClauses_24 rfl rfl ?_
          refine r_getR C dS_judgeClauses_27 rfl rfl ?_
          refine r_ild C dS_judgeClauses_30 rfl ?_
          refine r_aald C dS_judgeClauses_31 rfl ⟨by omega, by omega⟩ (by decide) ?_
          have e9 : (setR (setR (setR I 61 f) 62 p) 12 h) (20 + i.toNat) = I (20 + i.toNat) := by rw [row_set (by omega), row_set (by omega), row_set (by omega)]
          refine r_callV C lzS_firstWhoOutlived dS_judgeClauses_32 _ [_] [_, _] rfl rfl rfl rfl rfl (Nat.le_of_ble_eq_true rfl) ⟨(Nat.le_of_ble_eq_true rfl), (Nat.le_of_ble_eq_true rfl), (Nat.le_of_ble_eq_true rfl), (Nat.le_of_ble_eq_true rfl)⟩ rfl (cS_firstWhoOutlived C.2.2.2.2.2.1 (c := i.toNat) (by omega) (fun j j0 j1 => by rw [e9]; exact hrk i j (by omega) (by omega) j0 j1) (by simp only [rd, rdU, rowS, rowU, rowE, ne_eq, not_false_eq_true, Nat.reduceEqDiff, Int.reduceEq, true_and, false_and, and_true, and_false, ↓reduceIte]; exact hdy) ?_)
          rw [e9]
          have hp9 : 0 ≤ tk I (I (20 + i.toNat)) ∧ tk I (I (20 + i.toNat)) ≤ 40 := tk_in (fun j j0 j1 => hrk i j (by omega) (by omega) j0 j1)
          refine r_callV C lzS_judge dS_judgeClauses_35 _ [_, _] [] rfl rfl rfl rfl rfl (Nat.le_of_ble_eq_true rfl) ⟨(Nat.le_of_ble_eq_true rfl), (Nat.le_of_ble_eq_true rfl), (Nat.le_of_ble_eq_true rfl), (Nat.le_of_ble_eq_true rfl)⟩ rfl (cS_judge C.2.2.2.2.2.1 ⟨by omega, by omega⟩ hp9 (by simp only [rd, rdU, rowS, rowU, rowE, ne_eq, not_false_eq_true, Nat.reduceEqDiff, Int.reduceEq, true_and, false_and, and_true, and_false, ↓reduceIte]; exact hkd i (by omega) (by omega)) (by simp only [rd, rdU, rowS, rowU, rowE, ne_eq, not_false_eq_true, Nat.reduceEqDiff, Int.reduceEq, true_and, false_and, and_true, and_false, ↓reduceIte]; exact has i (by omega) (by omega)) (by simp only [rd, rdU, rowS, rowU, rowE, ne_eq, not_false_eq_true, Nat.reduceEqDiff, Int.reduceEq, true_and, false_and, and_true, and_false, ↓reduceIte]; exact hgo _ (has i (by omega) (by omega)).1 (has i (by omega) (by omega)).2) (fun b1 => ?_) (fun b1 b2 => ?_) (fun b1 b2 => ?_) (fun b1 b2 => ?_))
          · replace b1 : tk I (I (20 + i.toNat)) = 0 := b1
            refine r_iinc C dS_judgeClauses_38 (by decide) rfl (ls' := [(0, _), (1, _)]) rfl ?_
            refine r_goto C dS_judgeClauses_41 ?_
            have es : st0 I i = 1 := by unfold st0; rw [if_neg b17, if_pos b1]
            simp only [up_eq, up_ne, rd, rdU, rowS, rowU, rowE, ne_eq, Nat.reduceEqDiff, Int.reduceEq, not_false_eq_true, true_and, false_and, and_true, and_false, ↓reduceIte]
            refine ih (i + 1) _ _ _ (by omega) (by omega) (fun j j0 j1 => ?_) (fun j j0 j1 => ?_) (fun j j0 j1 => ?_) (fun b b0 b1 => ?_)
            · by_cases e : j = i
              · subst e; rw [es, up1_s]
              · rw [up1_o _ e]; exact g2 j j0 (by omega)
            · by_cases e : j = i
              · subst e; rw [es]; exact (g4 j (by omega) (by omega)).2.trans (if_neg (by decide)).symm
              · exact g3 j j0 (by omega)
            · rw [up1_o _ (show j ≠ i by omega)]; exact g4 j (by omega) j1
            · rw [gvF_to _ _ _ g1.1, es]
              rw [if_neg (fun h9 => absurd h9.1 (by decide))]; exact g5 b b0 b1
          · replace b1 : tk I (I (20 + i.toNat)) ≠ 0 := b1
            replace b2 : I 15 i = 1 ∧ I 10 (I 17 i) ≠ 0 := b2
            refine r_iinc C dS_judgeClauses_38 (by decide) rfl (ls' := [(0, _), (1, _)]) rfl ?_
            refine r_goto C dS_judgeClauses_41 ?_
            have es : st0 I i = 2 := by unfold st0; rw [if_neg b17, if_neg b1, if_pos b2]
            simp only [up_eq, up_ne, rd, rdU, rowS, rowU, rowE, ne_eq, Nat.reduceEqDiff, Int.reduceEq, not_false_eq_true, true_and, false_and, and_true, and_false, ↓reduceIte]
            refine ih (i + 1) _ _ _ (by omega) (by omega) (fun j j0 j1 => ?_) (fun j j0 j1 => ?_) (fun j j0 j1 => ?_) (fun b b0 b1 => ?_)
            · by_cases e : j = i
              · subst e; rw [es, up1_s]
              · rw [up1_o _ e]; exact g2 j j0 (by omega)
            · by_cases e : j = i
              · subst e; rw [es]; exact (g4 j (by omega) (by omega)).2.trans (if_neg (by decide)).symm
              · exact g3 j j0 (by omega)
            · rw [up1_o _ (show j ≠ i by omega)]; exact g4 j (by omega) j1
            · rw [gvF_to _ _ _ g1.1, es]
              rw [if_neg (fun h9 => absurd h9.1 (by decide))]; exact g5 b b0 b1
          · replace b1 : tk I (I (20 + i.toNat)) ≠ 0 := b1
            replace b2 : I 15 i = 1 ∧ I 10 (I 17 i) = 0 := b2
            refine r_iinc C dS_judgeClauses_38 (by decide) rfl (ls' := [(0, _), (1, _)]) rfl ?_
            refine r_goto C dS_judgeClauses_41 ?_
            have es : st0 I i = 0 := by unfold st0; rw [if_neg b17, if_neg b1, if_neg (fun h9 => h9.2 b2.2)]
            simp only [up_eq, up_ne, rd, rdU, rowS, rowU, rowE, ne_eq, Nat.reduceEqDiff, Int.reduceEq, not_false_eq_true, true_and, false_and, and_true, and_false, ↓reduceIte]
            refine ih (i + 1) _ _ _ (by omega) (by omega) (fun j j0 j1 => ?_) (fun j j0 j1 => ?_) (fun j j0 j1 => ?_) (fun b b0 b1 => ?_)
            · by_cases e : j = i
              · subst e; rw [es, up1_s]
              · rw [up1_o _ e]; exact g2 j j0 (by omega)
            · by_cases e : j = i
              · subst e; rw [es, up1_s]; exact (if_pos rfl).symm
              · rw [up1_o _ e]; exact g3 j j0 (by omega)
            · rw [up1_o _ (show j ≠ i by omega)]; rw [up1_o _ (show j ≠ i by omega)]; exact g4 j (by omega) j1
            · rw [gvF_to _ _ _ g1.1, es]
              by_cases e : b = I 17 i
              · rw [e, up1_s, if_pos ⟨rfl, b2.1, rfl⟩]
              · rw [up1_o _ e, if_neg (fun h9 => e h9.2.2.symm)]; exact g5 b b0 b1
          · replace b1 : tk I (I (20 + i.toNat)) ≠ 0 := b1
            replace b2 : I 15 i ≠ 1 := b2
            refine r_iinc C dS_judgeClauses_38 (by decide) rfl (ls' := [(0, _), (1, _)]) rfl ?_
            refine r_goto C dS_judgeClauses_41 ?_
            have es : st0 I i = 0 := by unfold st0; rw [if_neg b17, if_neg b1, if_neg (fun h9 => b2 h9.1)]
            simp only [up_eq, up_ne, rd, rdU, rowS, rowU, rowE, ne_eq, Nat.reduceEqDiff, Int.reduceEq, not_false_eq_true, true_and, false_and, and_true, and_false, ↓reduceIte]
            refine ih (i + 1) _ _ _ (by omega) (by omega) (fun j j0 j1 => ?_) (fun j j0 j1 => ?_) (fun j j0 j1 => ?_) (fun b b0 b1 => ?_)
            · by_cases e : j = i
              · subst e; rw [es, up1_s]
              · rw [up1_o _ e]; exact g2 j j0 (by omega)
            · by_cases e : j = i
              · subst e; rw [es, up1_s]; exact (if_pos rfl).symm
              · rw [up1_o _ e]; exact g3 j j0 (by omega)
            · rw [up1_o _ (show j ≠ i by omega)]; rw [up1_o _ (show j ≠ i by omega)]; exact g4 j (by omega) j1
            · rw [gvF_to _ _ _ g1.1, es]
              rw [if_neg (fun h9 => b2 h9.2.1)]; exact g5 b b0 b1
  refine r_ik C dS_judgeClauses_0 ?_
  refine r_ist C dS_judgeClauses_1 (by decide) (ls' := [(0, _), (1, _)]) rfl ?_
  have h := loop 50 1 (I 61) (I 62) (I 12) (by omega) (by omega) (fun j j0 j1 => by omega) (fun j j0 j1 => by omega) (fun j j0 j1 => ⟨h61 j (by omega) j1, h62 j (by omega) j1⟩) (fun b b0 b1 => h12 b b0 b1)
  rw [setR_id, setR_id, setR_id] at h
  exact h
set_option maxRecDepth 100000 in
set_option maxHeartbeats 4000000 in
theorem cA_takeOut {g : ed_g} {l : Launch} (hl : l.stackTraces = false) {I : ed_I} {L : ed_L} {a w : Int} (ha : 0 ≤ a ∧ a ≤ 40) (hw : 0 ≤ w ∧ w ≤ 1000000000000) (hl2 : 0 ≤ L 11 a ∧ L 11 a ≤ 1000000000000) {post : ed_post} (hn : post (.inl (some (.long (lZ (min w (L 11 a)))))) Yw I (upI L 11 a (L 11 a - min w (L 11 a)))) : ed_Ct g l mA_takeOut 1 0 0 [.ref 6, .int (iZ a), .long (lZ w)] Yw I L post := by
  refine ed_Ct.of hl rfl (Nat.le_of_ble_eq_true rfl) (fun x _ C => ?_)
  show Gd g x post _ _ _ _ _ _ _ _ 0 [(0, _), (1, _), (2, _)] []
  refine r_lld C dA_takeOut_0 rfl ?_
  refine r_ald C dA_takeOut_1 rfl ?_
  refine r_getR C dA_takeOut_2 rfl rfl ?_
  refine r_ild C dA_takeOut_5 rfl ?_
  refine r_lald C dA_takeOut_6 rfl ⟨by omega, by omega⟩ (by decide) ?_
  refine r_mmin C (idx := 45) (by decide +kernel) rfl (tb3 58 rfl) rfl (Nat.le_of_ble_eq_true rfl) (Nat.le_of_ble_eq_true rfl) (Nat.le_of_ble_eq_true rfl) (Nat.le_of_ble_eq_true rfl) (by omega) ?_
  refine r_lst C dA_takeOut_10 (by decide) (ls' := [(0, _), (1, _), (2, _), (4, _)]) rfl ?_
  refine r_ald C dA_takeOut_12 rfl ?_
  refine r_getR C dA_takeOut_13 rfl rfl ?_
  refine r_ild C dA_takeOut_16 rfl ?_
  refine r_dup2 C dA_takeOut_17 rfl rfl ?_
  refine r_lald C dA_takeOut_18 rfl ⟨by omega, by omega⟩ (by decide) ?_
  refine r_lld C dA_takeOut_19 rfl ?_
  refine r_lsub C dA_takeOut_21 ?_
  refine r_last C dA_takeOut_22 rfl rfl ⟨by omega, by omega⟩ (by decide) ?_
  refine r_lld C dA_takeOut_23 rfl ?_
  exact r_lret C dA_takeOut_25 rfl (Nat.le_of_ble_eq_true rfl) (Nat.le_of_ble_eq_true rfl) (hn)
/-- does debt d stay with its asset -/
def dvq (I : ed_I) (d : Int) : Bool := decide (I 12 (I 71 d) ≠ 0 ∧ I 18 (I 12 (I 71 d)) ≠ 0)
set_option maxRecDepth 100000 in
set_option maxHeartbeats 4000000 in
theorem cS_divideDebts {g : ed_g} {l : Launch} (hl : l.stackTraces = false) {I : ed_I} {L : ed_L} (hdc : ∀ j, 0 ≤ j → j ≤ 40 → 0 ≤ L 70 j ∧ L 70 j ≤ 1000000000000) (hda : ∀ j, 0 ≤ j → j ≤ 40 → 0 ≤ I 71 j ∧ I 71 j ≤ 40) (hgv : ∀ j, 0 ≤ j → j ≤ 40 → 0 ≤ I 12 j ∧ I 12 j ≤ 40) (hst : ∀ j, 0 ≤ j → j ≤ 40 → I 18 j = 0 ∨ I 18 j = 1) (hlf : ∀ j, 0 ≤ j → j ≤ 40 → 0 ≤ L 11 j ∧ L 11 j ≤ 1000000000000) {post : ed_post} (hn : ∀ f p h : Int → Int, f = tkL (dvq I) (I 71) (L 70) (L 11) 40 → (∀ j, 1 ≤ j → j ≤ 40 → p j = L 70 j - tkO (dvq I) (I 71) (L 70) (L 11) j) → (∀ j, 1 ≤ j → j ≤ 40 → h j = L 70 j) → post (.inl none) Yw I (setR (setR (setR L 11 f) 72 p) 73 h)) : ed_Ct g l mS_divideDebts 2 0 0 [.ref 74] Yw I L post := by
  refine ed_Ct.of hl rfl (Nat.le_of_ble_eq_true rfl) (fun x _ C => ?_)
  show Gd g x post _ _ _ _ _ _ _ _ 0 [(0, _)] []
  have loop : ∀ (q : Nat) (i : Int) (f p h : Int → Int), (41 - i).toNat < q → 1 ≤ i ∧ i ≤ 41 → f = tkL (dvq I) (I 71) (L 70) (L 11) (i - 1).toNat → (∀ j, 1 ≤ j → j < i → p j = L 70 j - tkO (dvq I) (I 71) (L 70) (L 11) j) → (∀ j, 1 ≤ j → j < i → h j = L 70 j) → Gd g x post 0 0 mS_divideDebts.2.2.1 0 0 Yw I (setR (setR (setR L 11 f) 72 p) 73 h) 2 [(0, .ref 74), (1, .int (iZ i))] [] := by
    intro q
    induction q with
    | zero => intro i f p h hq; omega
    | succ q ih =>
      intro i f p h hq g1 g2 g3 g4
      have ha1 := fun (h : i ≤ 40) => hda i (by omega) h
      have hg1 := fun (h : i ≤ 40) => hgv (I 71 i) (ha1 h).1 (ha1 h).2
      have hs1 := fun (h : i ≤ 40) => hst (I 12 (I 71 i)) (hg1 h).1 (hg1 h).2
      have hf9 : i ≤ 40 → 0 ≤ f (I 71 i) ∧ f (I 71 i) ≤ 1000000000000 := by
        intro h9
        have q1 := tkL_in (q := dvq I) (a := I 71) (w := L 70) (l := L 11) (fun j j0 j1 => (hdc j (by omega) j1).1) (fun b b0 b1 => (hlf b b0 b1).1) (ha1 h9) (i - 1).toNat (by omega)
        have q2 := hlf (I 71 i) (ha1 h9).1 (ha1 h9).2
        rw [← g2] at q1
        omega
      refine r_ild C dS_divideDebts_2 rfl ?_
      refine r_ik C dS_divideDebts_3 ?_
      refine r_icmp_gt C dS_divideDebts_5 (by omega) (fun b5 => ?_) (fun b5 => ?_)
      · exact r_vret C dS_divideDebts_119 rfl (Nat.le_of_ble_eq_true rfl) (Nat.le_of_ble_eq_true rfl) (hn f p h (by rw [g2, show (i - 1).toNat = 40 by omega]) (fun j j0 j1 => g3 j j0 (by omega)) (fun j j0 j1 => g4 j j0 (by omega)))
      · refine r_ald C dS_divideDebts_8 rfl ?_
        refine r_getR C dS_divideDebts_9 rfl rfl ?_
        refine r_getR C dS_divideDebts_12 rfl rfl ?_
        refine r_ild C dS_divideDebts_15 rfl ?_
        refine r_lald C dS_divideDebts_16 rfl ⟨by omega, by omega⟩ (by decide) ?_
        try simp only [rd, rdU, rowS, rowU, rowE, ne_eq, not_false_eq_true, Nat.reduceEqDiff, Int.reduceEq, true_and, false_and, and_true, and_false, ↓reduceIte]
        refine r_lst C dS_divideDebts_17 (by decide) (ls' := [(0, _), (1, _), (2, _)]) rfl ?_
        refine r_ald C dS_divideDebts_18 rfl ?_
        refine r_getR C dS_divideDebts_19 rfl rfl ?_
        refine r_getR C dS_divideDebts_22 rfl rfl ?_
        refine r_ald C dS_divideDebts_25 rfl ?_
        refine r_getR C dS_divideDebts_26 rfl rfl ?_
        refine r_getR C dS_divideDebts_29 rfl rfl ?_
        refine r_ild C dS_divideDebts_32 rfl ?_
        refine r_iald C dS_divideDebts_33 rfl ⟨by omega, by omega⟩ (by decide) ?_
        try simp only [rd, rdU, rowS, rowU, rowE, ne_eq, not_false_eq_true, Nat.reduceEqDiff, Int.reduceEq, true_and, false_and, and_true, and_false, ↓reduceIte]
        refine r_iald C dS_divideDebts_34 rfl ⟨by omega, by omega⟩ (by decide) ?_
        try simp only [rd, rdU, rowS, rowU, rowE, ne_eq, not_false_eq_true, Nat.reduceEqDiff, Int.reduceEq, true_and, false_and, and_true, and_false, ↓reduceIte]
        refine r_ist C dS_divideDebts_35 (by decide) (ls' := [(0, _), (1, _), (2, _), (4, _)]) rfl ?_
        refine r_ild C dS_divideDebts_37 rfl ?_
        refine r_if_eq C dS_divideDebts_39 (by omega) (fun b39 => ?_) (fun b39 => ?_)
        · refine r_ik C dS_divideDebts_59 ?_
          refine r_ist C dS_divideDebts_60 (by decide) (ls' := [(0, _), (1, _), (2, _), (4, _), (5, _)]) rfl ?_
          refine r_ild C dS_divideDebts_62 rfl ?_
          refine r_if_eq C dS_divideDebts_64 (by omega) (fun b64 => ?_) (fun b64 => ?_)
          · refine r_lk C dS_divideDebts_87 ?_
            refine r_lst C dS_divideDebts_88 (by decide) (ls' := [(0, _), (1, _), (2, _), (4, _), (5, _), (6, _)]) rfl ?_
            refine r_ald C dS_divideDebts_90 rfl ?_
            refine r_getR C dS_divideDebts_91 rfl rfl ?_
            refine r_getR C dS_divideDebts_94 rfl rfl ?_
            refine r_ild C dS_divideDebts_97 rfl ?_
            refine r_lld C dS_divideDebts_98 rfl ?_
            refine r_lld C dS_divideDebts_99 rfl ?_
            refine r_lsub C dS_divideDebts_101 ?_
            refine r_last C dS_divideDebts_102 rfl rfl ⟨by omega, by omega⟩ (by decide) ?_
            refine r_ald C dS_divideDebts_103 rfl ?_
            refine r_getR C dS_divideDebts_104 rfl rfl ?_
            refine r_getR C dS_divideDebts_107 rfl rfl ?_
            refine r_ild C dS_divideDebts_110 rfl ?_
            refine r_lld C dS_divideDebts_111 rfl ?_
            refine r_last C dS_divideDebts_112 rfl rfl ⟨by omega, by omega⟩ (by decide) ?_
            refine r_iinc C dS_divideDebts_113 (by decide) rfl (ls' := [(0, _), (1, _), (2, _), (4, _), (5, _), (6, _)]) rfl ?_
            refine r_goto C dS_divideDebts_116 ?_
            refine Gd.drop (ls := [_, _]) (ls2 := [_, _, _, _]) ?_
            have eq9 : ¬ dvq I i = true := fun h9 => by have h8 := of_decide_eq_true h9; omega
            have eo : tkO (dvq I) (I 71) (L 70) (L 11) i = 0 := by unfold tkO; rw [if_neg eq9]
            simp only [up_eq, up_ne, rd, rdU, rowS, rowU, rowE, ne_eq, Nat.reduceEqDiff, Int.reduceEq, not_false_eq_true, true_and, false_and, and_true, and_false, ↓reduceIte]
            refine ih (i + 1) _ _ _ (by omega) (by omega) ?_ (fun j j0 j1 => ?_) (fun j j0 j1 => ?_)
            · rw [tkL_to _ _ _ _ g1.1, if_neg eq9]; exact g2
            · by_cases e : j = i
              · subst e; rw [up1_s, eo]
              · rw [up1_o _ e]; exact g3 j j0 (by omega)
            · by_cases e : j = i
              · subst e; rw [up1_s]
              · rw [up1_o _ e]; exact g4 j j0 (by omega)
          · omega
        · refine r_ald C dS_divideDebts_42 rfl ?_
          refine r_getR C dS_divideDebts_43 rfl rfl ?_
          refine r_getR C dS_divideDebts_46 rfl rfl ?_
          refine r_ild C dS_divideDebts_49 rfl ?_
          refine r_zald C dS_divideDebts_51 rfl ⟨by omega, by omega⟩ (by decide) ?_
          try simp only [rd, rdU, rowS, rowU, rowE, ne_eq, not_false_eq_true, Nat.reduceEqDiff, Int.reduceEq, true_and, false_and, and_true, and_false, ↓reduceIte]
          refine r_if_eq C dS_divideDebts_52 (by omega) (fun b52 => ?_) (fun b52 => ?_)
          · refine r_ik C dS_divideDebts_59 ?_
            refine r_ist C dS_divideDebts_60 (by decide) (ls' := [(0, _), (1, _), (2, _), (4, _), (5, _)]) rfl ?_
            refine r_ild C dS_divideDebts_62 rfl ?_
            refine r_if_eq C dS_divideDebts_64 (by omega) (fun b64 => ?_) (fun b64 => ?_)
            · refine r_lk C dS_divideDebts_87 ?_
              refine r_lst C dS_divideDebts_88 (by decide) (ls' := [(0, _), (1, _), (2, _), (4, _), (5, _), (6, _)]) rfl ?_
              refine r_ald C dS_divideDebts_90 rfl ?_
              refine r_getR C dS_divideDebts_91 rfl rfl ?_
              refine r_getR C dS_divideDebts_94 rfl rfl ?_
              refine r_ild C dS_divideDebts_97 rfl ?_
              refine r_lld C dS_divideDebts_98 rfl ?_
              refine r_lld C dS_divideDebts_99 rfl ?_
              refine r_lsub C dS_divideDebts_101 ?_
              refine r_last C dS_divideDebts_102 rfl rfl ⟨by omega, by omega⟩ (by decide) ?_
              refine r_ald C dS_divideDebts_103 rfl ?_
              refine r_getR C dS_divideDebts_104 rfl rfl ?_
              refine r_getR C dS_divideDebts_107 rfl rfl ?_
              refine r_ild C dS_divideDebts_110 rfl ?_
              refine r_lld C dS_divideDebts_111 rfl ?_
              refine r_last C dS_divideDebts_112 rfl rfl ⟨by omega, by omega⟩ (by decide) ?_
              refine r_iinc C dS_divideDebts_113 (by decide) rfl (ls' := [(0, _), (1, _), (2, _), (4, _), (5, _), (6, _)]) rfl ?_
              refine r_goto C dS_divideDebts_116 ?_
              refine Gd.drop (ls := [_, _]) (ls2 := [_, _, _, _]) ?_
              have eq9 : ¬ dvq I i = true := fun h9 => by have h8 := of_decide_eq_true h9; omega
              have eo : tkO (dvq I) (I 71) (L 70) (L 11) i = 0 := by unfold tkO; rw [if_neg eq9]
              simp only [up_eq, up_ne, rd, rdU, rowS, rowU, rowE, ne_eq, Nat.reduceEqDiff, Int.reduceEq, not_false_eq_true, true_and, false_and, and_true, and_false, ↓reduceIte]
              refine ih (i + 1) _ _ _ (by omega) (by omega) ?_ (fun j j0 j1 => ?_) (fun j j0 j1 => ?_)
              · rw [tkL_to _ _ _ _ g1.1, if_neg eq9]; exact g2
              · by_cases e : j = i
                · subst e; rw [up1_s, eo]
                · rw [up1_o _ e]; exact g3 j j0 (by omega)
              · by_cases e : j = i
                · subst e; rw [up1_s]
                · rw [up1_o _ e]; exact g4 j j0 (by omega)
            · omega
          · refine r_ik C dS_divideDebts_55 ?_
            refine r_goto C dS_divideDebts_56 ?_
            refine r_ist C dS_divideDebts_60 (by decide) (ls' := [(0, _), (1, _), (2, _), (4, _), (5, _)]) rfl ?_
            refine r_ild C dS_divideDebts_62 rfl ?_
            refine r_if_eq C dS_divideDebts_64 (by omega) (fun b64 => ?_) (fun b64 => ?_)
            · omega
            · refine r_ald C dS_divideDebts_67 rfl ?_
              refine r_getR C dS_divideDebts_68 rfl rfl ?_
              refine r_ald C dS_divideDebts_71 rfl ?_
              refine r_getR C dS_divideDebts_72 rfl rfl ?_
              refine r_getR C dS_divideDebts_75 rfl rfl ?_
              refine r_ild C dS_divideDebts_78 rfl ?_
              refine r_iald C dS_divideDebts_79 rfl ⟨by omega, by omega⟩ (by decide) ?_
              try simp only [rd, rdU, rowS, rowU, rowE, ne_eq, not_false_eq_true, Nat.reduceEqDiff, Int.reduceEq, true_and, false_and, and_true, and_false, ↓reduceIte]
              refine r_lld C dS_divideDebts_80 rfl ?_
              replace hf9 := hf9 (by omega)
              refine r_callV C lzA_takeOut dS_divideDebts_81 _ [_, _] [] rfl rfl rfl rfl rfl (Nat.le_of_ble_eq_true rfl) ⟨(Nat.le_of_ble_eq_true rfl), (Nat.le_of_ble_eq_true rfl), (Nat.le_of_ble_eq_true rfl), (Nat.le_of_ble_eq_true rfl)⟩ rfl (cA_takeOut C.2.2.2.2.2.1 (hda i (by omega) (by omega)) (hdc i (by omega) (by omega)) hf9 ?_)
              try simp only [rd, rdU, rowS, rowU, rowE, ne_eq, not_false_eq_true, Nat.reduceEqDiff, Int.reduceEq, true_and, false_and, and_true, and_false, ↓reduceIte]
              refine r_goto C dS_divideDebts_84 ?_
              refine r_lst C dS_divideDebts_88 (by decide) (ls' := [(0, _), (1, _), (2, _), (4, _), (5, _), (6, _)]) rfl ?_
              refine r_ald C dS_divideDebts_90 rfl ?_
              refine r_getR C dS_divideDebts_91 rfl rfl ?_
              refine r_getR C dS_divideDebts_94 rfl rfl ?_
              refine r_ild C dS_divideDebts_97 rfl ?_
              refine r_lld C dS_divideDebts_98 rfl ?_
              refine r_lld C dS_divideDebts_99 rfl ?_
              refine r_lsub C dS_divideDebts_101 ?_
              refine r_last C dS_divideDebts_102 rfl rfl ⟨by omega, by omega⟩ (by decide) ?_
              refine r_ald C dS_divideDebts_103 rfl ?_
              refine r_getR C dS_divideDebts_104 rfl rfl ?_
              refine r_getR C dS_divideDebts_107 rfl rfl ?_
              refine r_ild C dS_divideDebts_110 rfl ?_
              refine r_lld C dS_divideDebts_111 rfl ?_
              refine r_last C dS_divideDebts_112 rfl rfl ⟨by omega, by omega⟩ (by decide) ?_
              refine r_iinc C dS_divideDebts_113 (by decide) rfl (ls' := [(0, _), (1, _), (2, _), (4, _), (5, _), (6, _)]) rfl ?_
              refine r_goto C dS_divideDebts_116 ?_
              refine Gd.drop (ls := [_, _]) (ls2 := [_, _, _, _]) ?_
              have eq9 : dvq I i = true := decide_eq_true (by omega)
              have eo : tkO (dvq I) (I 71) (L 70) (L 11) i = min (L 70 i) (f (I 71 i)) := by unfold tkO; rw [if_pos eq9, g2]
              simp only [up_eq, up_ne, rd, rdU, rowS, rowU, rowE, ne_eq, Nat.reduceEqDiff, Int.reduceEq, not_false_eq_true, true_and, false_and, and_true, and_false, ↓reduceIte]
              refine ih (i + 1) _ _ _ (by omega) (by omega) ?_ (fun j j0 j1 => ?_) (fun j j0 j1 => ?_)
              · rw [tkL_to _ _ _ _ g1.1, if_pos eq9, ← g2]
              · by_cases e : j = i
                · subst e; rw [up1_s, eo]
                · rw [up1_o _ e]; exact g3 j j0 (by omega)
              · by_cases e : j = i
                · subst e; rw [up1_s]
                · rw [up1_o _ e]; exact g4 j j0 (by omega)
  refine r_ik C dS_divideDebts_0 ?_
  refine r_ist C dS_divideDebts_1 (by decide) (ls' := [(0, _), (1, _)]) rfl ?_
  have h := loop 50 1 (L 11) (L 72) (L 73) (by omega) (by omega) rfl (fun j j0 j1 => by omega) (fun j j0 j1 => by omega)
  rw [setR_id, setR_id, setR_id] at h
  exact h
