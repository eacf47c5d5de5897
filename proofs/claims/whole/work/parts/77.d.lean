/-! Split -/
set_option maxRecDepth 100000 in
set_option maxHeartbeats 4000000 in
theorem cT_cut {g : ed_g} {l : Launch} (hl : l.stackTraces = false) {I : ed_I} {L : ed_L} {n A w W : Int} (hn0 : 1 ≤ n ∧ n ≤ 40) (hA : 0 ≤ A ∧ A ≤ 1000000000000000) (hw : 0 ≤ w ∧ w ≤ 1000000000000) (hW : 1 ≤ W ∧ W ≤ 1000000000000000) {post : ed_post} (hn : post (.inl none) Yw I (upI (upI L 76 n (A * w / W)) 77 n (A * w % W))) : ed_Ct g l mT_cut 0 0 0 [.ref 75, .int (iZ n), .long (lZ A), .long (lZ w), .long (lZ W)] Yw I L post := by
  refine ed_Ct.of hl rfl (Nat.le_of_ble_eq_true rfl) (fun x _ C => ?_)
  show Gd g x post _ _ _ _ _ _ _ _ 0 [(0, _), (1, _), (2, _), (4, _), (6, _)] []
  have loop : ∀ (q : Nat) (u v q9 r9 : Int), u.toNat < q → ((u = 1000000000000 ∧ v = w / 1000000000000000) ∨ (u = 1000000000 ∧ v = w / 1000000000000) ∨ (u = 1000000 ∧ v = w / 1000000000) ∨ (u = 1000 ∧ v = w / 1000000) ∨ (u = 1 ∧ v = w / 1000) ∨ (u = 0 ∧ v = w)) → 0 ≤ r9 ∧ r9 < W → q9 * W + r9 = A % W * v → Gd g x post 0 0 mT_cut.2.2.1 0 0 Yw I L 17 [(0, .ref 75), (1, .int (iZ n)), (2, .long (lZ A)), (4, .long (lZ w)), (6, .long (lZ W)), (8, .long (lZ (A % W))), (10, .long (lZ q9)), (12, .long (lZ r9)), (14, .long (lZ u))] [] := by
    intro q
    induction q with
    | zero => intro u v q9 r9 hq; omega
    | succ q ih =>
      intro u v q9 r9 hq g1 g2 g3
      have hp := Int.emod_nonneg A (show W ≠ 0 by omega)
      have hp2 := Int.emod_lt_of_pos A (show 0 < W by omega)
      have hd : 0 < u → 0 ≤ w / u % 1000 ∧ w / u % 1000 ≤ 999 := fun _ => by omega
      have hw1 : 0 < u → 0 ≤ w / u ∧ w / u ≤ w := fun h => ⟨Int.ediv_nonneg hw.1 (by omega), Int.ediv_le_self _ hw.1⟩
      have hpd : 0 < u → 0 ≤ A % W * (w / u % 1000) ∧ A % W * (w / u % 1000) ≤ A % W * 999 := fun h => ⟨Int.mul_nonneg hp (hd h).1, Int.mul_le_mul_of_nonneg_left (hd h).2 hp⟩
      refine r_lld C dT_cut_17 rfl ?_
      refine r_lk C dT_cut_19 ?_
      refine r_lc_le C dT_cut_20 dT_cut_21 (by omega) (fun b21 => ?_) (fun b21 => ?_)
      · refine r_ald C dT_cut_77 rfl ?_
        refine r_getR C dT_cut_78 rfl rfl ?_
        refine r_ild C dT_cut_81 rfl ?_
        refine r_lld C dT_cut_82 rfl ?_
        refine r_lld C dT_cut_83 rfl ?_
        refine r_ldiv C dT_cut_85 (by omega) ?_
        refine r_lld C dT_cut_86 rfl ?_
        refine r_lmul C dT_cut_88 ?_
        refine r_lld C dT_cut_89 rfl ?_
        refine r_ladd C dT_cut_91 ?_
        refine r_last C dT_cut_92 rfl rfl ⟨by omega, by omega⟩ (by decide) ?_
        refine r_ald C dT_cut_93 rfl ?_
        refine r_getR C dT_cut_94 rfl rfl ?_
        refine r_ild C dT_cut_97 rfl ?_
        refine r_lld C dT_cut_98 rfl ?_
        refine r_last C dT_cut_100 rfl rfl ⟨by omega, by omega⟩ (by decide) ?_
        exact r_vret C dT_cut_101 rfl (Nat.le_of_ble_eq_true rfl) (Nat.le_of_ble_eq_true rfl) (by have e := sp_end (A := A) (w := w) (show 0 < W by omega) (by have h9 : v = w := (by omega); rw [h9] at g3; exact g3) g2; rw [← e.1, ← e.2] at hn; exact hn)
      · refine r_lld C dT_cut_24 rfl ?_
        refine r_lk C dT_cut_26 ?_
        refine r_lmul C dT_cut_29 ?_
        refine r_lld C dT_cut_30 rfl ?_
        refine r_lld C dT_cut_32 rfl ?_
        refine r_lld C dT_cut_34 rfl ?_
        refine r_ldiv C dT_cut_36 (by omega) ?_
        refine r_lk C dT_cut_37 ?_
        refine r_lrem C dT_cut_40 (by omega) ?_
        refine r_lmul C dT_cut_41 ?_
        refine r_ladd C dT_cut_42 ?_
        refine r_lst C dT_cut_43 (by decide) (ls' := [(0, _), (1, _), (2, _), (4, _), (6, _), (8, _), (10, _), (12, _), (14, _)]) rfl ?_
        refine r_lld C dT_cut_45 rfl ?_
        refine r_lk C dT_cut_47 ?_
        refine r_lmul C dT_cut_50 ?_
        refine r_lld C dT_cut_51 rfl ?_
        refine r_lld C dT_cut_53 rfl ?_
        refine r_ldiv C dT_cut_55 (by omega) ?_
        refine r_ladd C dT_cut_56 ?_
        refine r_lst C dT_cut_57 (by decide) (ls' := [(0, _), (1, _), (2, _), (4, _), (6, _), (8, _), (10, _), (12, _), (14, _)]) rfl ?_
        refine r_lld C dT_cut_59 rfl ?_
        refine r_lld C dT_cut_61 rfl ?_
        refine r_lrem C dT_cut_63 (by omega) ?_
        refine r_lst C dT_cut_64 (by decide) (ls' := [(0, _), (1, _), (2, _), (4, _), (6, _), (8, _), (10, _), (12, _), (14, _)]) rfl ?_
        refine r_lld C dT_cut_66 rfl ?_
        refine r_lk C dT_cut_68 ?_
        refine r_ldiv C dT_cut_71 (by omega) ?_
        refine r_lst C dT_cut_72 (by decide) (ls' := [(0, _), (1, _), (2, _), (4, _), (6, _), (8, _), (10, _), (12, _), (14, _)]) rfl ?_
        refine r_goto C dT_cut_74 ?_
        refine ih (u / 1000) (w / u) _ _ (by omega) (by rcases g1 with g | g | g | g | g | g <;> (obtain ⟨rfl, -⟩ := g; omega)) ⟨Int.emod_nonneg _ (by omega), Int.emod_lt_of_pos _ (by omega)⟩ (sp_step g3 (by rcases g1 with g | g | g | g | g | g <;> (obtain ⟨rfl, rfl⟩ := g; omega)))
  refine r_lld C dT_cut_0 rfl ?_
  refine r_lld C dT_cut_1 rfl ?_
  refine r_lrem C dT_cut_3 (by omega) ?_
  refine r_lst C dT_cut_4 (by decide) (ls' := [(0, _), (1, _), (2, _), (4, _), (6, _), (8, _)]) rfl ?_
  refine r_lk C dT_cut_6 ?_
  refine r_lst C dT_cut_7 (by decide) (ls' := [(0, _), (1, _), (2, _), (4, _), (6, _), (8, _), (10, _)]) rfl ?_
  refine r_lk C dT_cut_9 ?_
  refine r_lst C dT_cut_10 (by decide) (ls' := [(0, _), (1, _), (2, _), (4, _), (6, _), (8, _), (10, _), (12, _)]) rfl ?_
  refine r_lk C dT_cut_12 ?_
  refine r_lst C dT_cut_15 (by decide) (ls' := [(0, _), (1, _), (2, _), (4, _), (6, _), (8, _), (10, _), (12, _), (14, _)]) rfl ?_
  exact loop 2000000000000 1000000000000 (w / 1000000000000000) 0 0 (by omega) (by omega) (by omega) (by rw [show w / 1000000000000000 = 0 by omega]; simp)
set_option maxRecDepth 100000 in
set_option maxHeartbeats 4000000 in
theorem cT_greatestRest {g : ed_g} {l : Launch} (hl : l.stackTraces = false) {I : ed_I} {L : ed_L} (hr : ∀ j, 1 ≤ j → j ≤ 40 → -9223372036854775808 ≤ L 77 j ∧ L 77 j ≤ 9223372036854775807) {post : ed_post} (hn : post (.inl (some (.int (iZ (am (L 77) 39))))) Yw I L) : ed_Ct g l mT_greatestRest 0 0 0 [.ref 75] Yw I L post := by
  refine ed_Ct.of hl rfl (Nat.le_of_ble_eq_true rfl) (fun x _ C => ?_)
  show Gd g x post _ _ _ _ _ _ _ _ 0 [(0, _)] []
  have loop : ∀ (q : Nat) (i b : Int), (41 - i).toNat < q → 2 ≤ i ∧ i ≤ 41 → b = am (L 77) (i - 2).toNat → Gd g x post 0 0 mT_greatestRest.2.2.1 0 0 Yw I L 4 [(0, .ref 75), (1, .int (iZ b)), (2, .int (iZ i))] [] := by
    intro q
    induction q with
    | zero => intro i b hq; omega
    | succ q ih =>
      intro i b hq g1 g2
      have hb := am_in (L 77) (i - 2).toNat
      rw [← g2] at hb
      have hri := fun (h : i ≤ 40) => hr i (by omega) h
      have hrb := hr b (by omega) (by omega)
      refine r_ild C dT_greatestRest_4 rfl ?_
      refine r_ik C dT_greatestRest_5 ?_
      refine r_icmp_gt C dT_greatestRest_7 (by omega) (fun b7 => ?_) (fun b7 => ?_)
      · refine r_ild C dT_greatestRest_34 rfl ?_
        exact r_iret C dT_greatestRest_35 rfl (Nat.le_of_ble_eq_true rfl) (Nat.le_of_ble_eq_true rfl) (by rw [g2, show (i - 2).toNat = 39 by omega]; exact hn)
      · refine r_ald C dT_greatestRest_10 rfl ?_
        refine r_getR C dT_greatestRest_11 rfl rfl ?_
        refine r_ild C dT_greatestRest_14 rfl ?_
        refine r_lald C dT_greatestRest_15 rfl ⟨by omega, by omega⟩ (by decide) ?_
        refine r_ald C dT_greatestRest_16 rfl ?_
        refine r_getR C dT_greatestRest_17 rfl rfl ?_
        refine r_ild C dT_greatestRest_20 rfl ?_
        refine r_lald C dT_greatestRest_21 rfl ⟨by omega, by omega⟩ (by decide) ?_
        refine r_lc_le C dT_greatestRest_22 dT_greatestRest_23 (by omega) (fun b22 => ?_) (fun b22 => ?_)
        · refine r_iinc C dT_greatestRest_28 (by decide) rfl (ls' := [(0, _), (1, _), (2, _)]) rfl ?_
          refine r_goto C dT_greatestRest_31 ?_
          exact ih (i + 1) _ (by omega) (by omega) (by rw [am_to _ g1.1, ← g2, if_neg (by omega)])
        · refine r_ild C dT_greatestRest_26 rfl ?_
          refine r_ist C dT_greatestRest_27 (by decide) (ls' := [(0, _), (1, _), (2, _)]) rfl ?_
          refine r_iinc C dT_greatestRest_28 (by decide) rfl (ls' := [(0, _), (1, _), (2, _)]) rfl ?_
          refine r_goto C dT_greatestRest_31 ?_
          exact ih (i + 1) _ (by omega) (by omega) (by rw [am_to _ g1.1, ← g2, if_pos (by omega)])
  refine r_ik C dT_greatestRest_0 ?_
  refine r_ist C dT_greatestRest_1 (by decide) (ls' := [(0, _), (1, _)]) rfl ?_
  refine r_ik C dT_greatestRest_2 ?_
  refine r_ist C dT_greatestRest_3 (by decide) (ls' := [(0, _), (1, _), (2, _)]) rfl ?_
  exact loop 50 2 1 (by omega) (by omega) rfl
set_option maxRecDepth 100000 in
set_option maxHeartbeats 4000000 in
theorem cT_among {g : ed_g} {l : Launch} (hl : l.stackTraces = false) {I : ed_I} {L : ed_L} {k : Nat} {A : Int} (hk : ed_lay[k]? = some (.inr (2, 41, 0))) (hk6 : ¬ k = 76) (hk7 : ¬ k = 77) (hw : ∀ j, 1 ≤ j → j ≤ 40 → 0 ≤ L k j ∧ L k j ≤ 1000000000000) (hA : 0 ≤ A ∧ A ≤ 1000000000000000) {post : ed_post} (hn : ∀ s r : Int → Int, (∀ j, 1 ≤ j → j ≤ 40 → s j = spl (L k) A j) → post (.inl none) Yw I (setR (setR L 76 s) 77 r)) : ed_Ct g l mT_among 2 0 0 [.ref 75, .ref k, .long (lZ A)] Yw I L post := by
  refine ed_Ct.of hl rfl (Nat.le_of_ble_eq_true rfl) (fun x _ C => ?_)
  show Gd g x post _ _ _ _ _ _ _ _ 0 [(0, _), (1, _), (2, _)] []
  have hW9 := sm_le (f := L k) (B := 1000000000000) (fun j j0 j1 => hw j j0 j1) 40 (by decide)
  have ek : ∀ s r : Int → Int, setR (setR L 76 s) 77 r k = L k := fun s r => by rw [rowS _ _ _ _ hk7, rowS _ _ _ _ hk6]
  have loop2 : ∀ (q : Nat) (m : Int) (s r s0 r0 : Int → Int), (41 - m).toNat < q → 0 ≤ m ∧ m ≤ lck (L k) A → 0 < sm (L k) 40 ∧ 0 < A → (∀ j, 1 ≤ j → j ≤ 40 → -1 ≤ r j ∧ r j ≤ 1000000000000000) → (s, r) = pk s0 r0 m.toNat → (∀ j, 1 ≤ j → j ≤ 40 → s0 j = bs (L k) A j ∧ r0 j = rs (L k) A j) → Gd g x post 0 0 mT_among.2.2.1 0 0 Yw I (setR (setR L 76 s) 77 r) 75 [(0, .ref 75), (1, .ref k), (2, .long (lZ A)), (4, .long (lZ (sm (L k) 40))), (6, .long (lZ (lck (L k) A))), (8, .int (iZ m))] [] := by
    intro q
    induction q with
    | zero => intro m s r s0 r0 hq; omega
    | succ q ih =>
      intro m s r s0 r0 hq g1 g2 g3 g4 g5
      have hl9 := lck_in (A := A) g2.1
      refine r_ild C dT_among_75 rfl ?_
      refine r_i2l C dT_among_77 (by omega) ?_
      refine r_lld C dT_among_78 rfl ?_
      refine r_lc_ge C dT_among_80 dT_among_81 (by omega) (fun b81 => ?_) (fun b81 => ?_)
      · exact r_vret C dT_among_124 rfl (Nat.le_of_ble_eq_true rfl) (Nat.le_of_ble_eq_true rfl) (hn s r (fun j j0 j1 => by have e9 : m = lck (L k) A := (by omega); have q1 := (pk_congr (fun j j0 j1 => (g5 j j0 j1).1) (fun j j0 j1 => (g5 j j0 j1).2) m.toNat j j0 j1).1; rw [← g4] at q1; unfold spl; rw [if_neg (by omega), ← e9]; exact q1))
      · refine r_ild C dT_among_84 rfl ?_
        refine r_ik C dT_among_86 ?_
        refine r_icmp_ge C dT_among_88 (by omega) (fun b88 => ?_) (fun b88 => ?_)
        · exact r_vret C dT_among_124 rfl (Nat.le_of_ble_eq_true rfl) (Nat.le_of_ble_eq_true rfl) (hn s r (fun j j0 j1 => by have e9 : m = lck (L k) A := (by omega); have q1 := (pk_congr (fun j j0 j1 => (g5 j j0 j1).1) (fun j j0 j1 => (g5 j j0 j1).2) m.toNat j j0 j1).1; rw [← g4] at q1; unfold spl; rw [if_neg (by omega), ← e9]; exact q1))
        · refine r_ald C dT_among_91 rfl ?_
          refine r_callV C lzT_greatestRest dT_among_92 _ [] [] rfl rfl rfl rfl rfl (Nat.le_of_ble_eq_true rfl) ⟨(Nat.le_of_ble_eq_true rfl), (Nat.le_of_ble_eq_true rfl), (Nat.le_of_ble_eq_true rfl), (Nat.le_of_ble_eq_true rfl)⟩ rfl (cT_greatestRest C.2.2.2.2.2.1 (fun j j0 j1 => by simp only [rd, rdU, rowS, rowU, rowE, ne_eq, not_false_eq_true, Nat.reduceEqDiff, Int.reduceEq, true_and, false_and, and_true, and_false, ↓reduceIte]; have := g3 j j0 j1; omega) ?_)
          try simp only [rd, rdU, rowS, rowU, rowE, ne_eq, not_false_eq_true, Nat.reduceEqDiff, Int.reduceEq, true_and, false_and, and_true, and_false, ↓reduceIte]
          have hgi := am_in r 39
          refine r_ist C dT_among_95 (by decide) (ls' := [(0, _), (1, _), (2, _), (4, _), (6, _), (8, _), (9, _)]) rfl ?_
          refine r_ald C dT_among_97 rfl ?_
          refine r_getR C dT_among_98 rfl rfl ?_
          refine r_ild C dT_among_101 rfl ?_
          refine r_dup2 C dT_among_103 rfl rfl ?_
          refine r_lald C dT_among_104 rfl ⟨by omega, by omega⟩ (by decide) ?_
          try simp only [rd, rdU, rowS, rowU, rowE, ne_eq, not_false_eq_true, Nat.reduceEqDiff, Int.reduceEq, true_and, false_and, and_true, and_false, ↓reduceIte]
          refine r_lk C dT_among_105 ?_
          refine r_ladd C dT_among_106 ?_
          refine r_last C dT_among_107 rfl rfl ⟨by omega, by omega⟩ (by decide) ?_
          refine r_ald C dT_among_108 rfl ?_
          refine r_getR C dT_among_109 rfl rfl ?_
          refine r_ild C dT_among_112 rfl ?_
          refine r_lk C dT_among_114 ?_
          refine r_last C dT_among_117 rfl rfl ⟨by omega, by omega⟩ (by decide) ?_
          refine r_iinc C dT_among_118 (by decide) rfl (ls' := [(0, _), (1, _), (2, _), (4, _), (6, _), (8, _), (9, _)]) rfl ?_
          refine r_goto C dT_among_121 ?_
          refine Gd.drop (ls := [_, _, _, _, _, _]) (ls2 := [_]) ?_
          simp only [up_eq, up_ne, rd, rdU, rowS, rowU, rowE, ne_eq, Nat.reduceEqDiff, Int.reduceEq, not_false_eq_true, true_and, false_and, and_true, and_false, ↓reduceIte]
          exact ih (m + 1) _ _ s0 r0 (by omega) (by omega) g2 (fun j j0 j1 => by by_cases e : j = am r 39; (subst e; rw [up1_s]; omega); (rw [up1_o _ e]; exact g3 j j0 j1)) (by rw [show (m + 1).toNat = m.toNat + 1 by omega]; show _ = (up1 (pk s0 r0 m.toNat).1 (am (pk s0 r0 m.toNat).2 39) ((pk s0 r0 m.toNat).1 (am (pk s0 r0 m.toNat).2 39) + 1), up1 (pk s0 r0 m.toNat).2 (am (pk s0 r0 m.toNat).2 39) (-1)); rw [← g4]) g5
  have loop1 : ∀ (q : Nat) (i : Int) (s r : Int → Int) (z : Int), (41 - i).toNat < q → 1 ≤ i ∧ i ≤ 41 → 0 < sm (L k) 40 ∧ 0 < A → (∀ j, 1 ≤ j → j < i → s j = bs (L k) A j ∧ r j = rs (L k) A j) → z = A - sm (bs (L k) A) (i - 1).toNat → Gd g x post 0 0 mT_among.2.2.1 0 0 Yw I (setR (setR L 76 s) 77 r) 34 [(0, .ref 75), (1, .ref k), (2, .long (lZ A)), (4, .long (lZ (sm (L k) 40))), (6, .long (lZ z)), (8, .int (iZ i))] [] := by
    intro q
    induction q with
    | zero => intro i s r z hq; omega
    | succ q ih =>
      intro i s r z hq g1 g2 g3 g4
      refine r_ild C dT_among_34 rfl ?_
      refine r_ik C dT_among_36 ?_
      refine r_icmp_gt C dT_among_38 (by omega) (fun b38 => ?_) (fun b38 => ?_)
      · refine r_ik C dT_among_72 ?_
        refine r_ist C dT_among_73 (by decide) (ls' := [(0, _), (1, _), (2, _), (4, _), (6, _), (8, _)]) rfl ?_
        have e40 : (i - 1).toNat = 40 := by omega
        rw [e40] at g4
        have hl9 := lck_in (A := A) g2.1
        rw [show z = lck (L k) A from g4]
        exact loop2 50 0 s r s r (by omega) ⟨by omega, hl9.1⟩ g2 (fun j j0 j1 => by have q1 := rs_in (A := A) g2.1 j; rw [(g3 j j0 (by omega)).2]; omega) rfl (fun j j0 j1 => g3 j j0 (by omega))
      · refine r_ald C dT_among_41 rfl ?_
        refine r_ild C dT_among_42 rfl ?_
        refine r_lld C dT_among_44 rfl ?_
        refine r_ald C dT_among_45 rfl ?_
        refine r_ild C dT_among_46 rfl ?_
        refine r_lald C dT_among_48 hk ⟨by omega, by omega⟩ (by decide) ?_
        try simp only [rd, rdU, rowS, rowU, rowE, ne_eq, not_false_eq_true, Nat.reduceEqDiff, Int.reduceEq, true_and, false_and, and_true, and_false, ↓reduceIte]
        rw [if_neg hk7, if_neg hk6]
        refine r_lld C dT_among_49 rfl ?_
        refine r_callV C lzT_cut dT_among_51 _ [_, _, _, _] [] rfl rfl rfl rfl rfl (Nat.le_of_ble_eq_true rfl) ⟨(Nat.le_of_ble_eq_true rfl), (Nat.le_of_ble_eq_true rfl), (Nat.le_of_ble_eq_true rfl), (Nat.le_of_ble_eq_true rfl)⟩ rfl (cT_cut C.2.2.2.2.2.1 ⟨by omega, by omega⟩ (by omega) (hw i (by omega) (by omega)) (by omega) ?_)
        simp only [up_eq, up_ne, rd, rdU, rowS, rowU, rowE, ne_eq, Nat.reduceEqDiff, Int.reduceEq, not_false_eq_true, true_and, false_and, and_true, and_false, ↓reduceIte]
        refine r_lld C dT_among_54 rfl ?_
        refine r_ald C dT_among_56 rfl ?_
        refine r_getR C dT_among_57 rfl rfl ?_
        refine r_ild C dT_among_60 rfl ?_
        refine r_lald C dT_among_62 rfl ⟨by omega, by omega⟩ (by decide) ?_
        try simp only [rd, rdU, rowS, rowU, rowE, ne_eq, not_false_eq_true, Nat.reduceEqDiff, Int.reduceEq, true_and, false_and, and_true, and_false, ↓reduceIte]
        refine r_lsub C dT_among_63 ?_
        refine r_lst C dT_among_64 (by decide) (ls' := [(0, _), (1, _), (2, _), (4, _), (6, _), (8, _)]) rfl ?_
        refine r_iinc C dT_among_66 (by decide) rfl (ls' := [(0, _), (1, _), (2, _), (4, _), (6, _), (8, _)]) rfl ?_
        refine r_goto C dT_among_69 ?_
        exact ih (i + 1) _ _ _ (by omega) (by omega) g2 (fun j j0 j1 => by by_cases e : j = i; (subst e; rw [up1_s, up1_s]; exact ⟨rfl, rfl⟩); (rw [up1_o _ e, up1_o _ e]; exact g3 j j0 (by omega))) (by rw [sm_to _ g1.1, up1_s, g4]; show _ = A - (_ + A * L k i / sm (L k) 40); omega)
  refine r_ald C dT_among_0 rfl ?_
  refine r_callS C lzD_total dT_among_1 [_] [] rfl rfl (Nat.le_of_ble_eq_true rfl) ⟨(Nat.le_of_ble_eq_true rfl), (Nat.le_of_ble_eq_true rfl), (Nat.le_of_ble_eq_true rfl), (Nat.le_of_ble_eq_true rfl)⟩ rfl (cD_total C.2.2.2.2.2.1 hk ?_)
  refine r_lst C dT_among_4 (by decide) (ls' := [(0, _), (1, _), (2, _), (4, _)]) rfl ?_
  refine r_lld C dT_among_6 rfl ?_
  refine r_lk C dT_among_8 ?_
  refine r_lc_le C dT_among_9 dT_among_10 (by omega) (fun b10 => ?_) (fun b10 => ?_)
  · refine r_ald C dT_among_19 rfl ?_
    refine r_getR C dT_among_20 rfl rfl ?_
    refine r_lk C dT_among_23 ?_
    refine r_callS C lzJ_fillL dT_among_24 [_, _] [] rfl rfl (Nat.le_of_ble_eq_true rfl) ⟨(Nat.le_of_ble_eq_true rfl), (Nat.le_of_ble_eq_true rfl), (Nat.le_of_ble_eq_true rfl), (Nat.le_of_ble_eq_true rfl)⟩ rfl (cJ_fillL C.2.2.2.2.2.1 rfl (fun f1 hf1 => ?_))
    exact r_vret C dT_among_27 rfl (Nat.le_of_ble_eq_true rfl) (Nat.le_of_ble_eq_true rfl) (by have h := hn f1 (L 77) (fun j j0 j1 => by rw [hf1 j (by omega) j1]; unfold spl; rw [if_pos (by omega)]); rw [show setR (setR L 76 f1) 77 (L 77) = setR L 76 f1 by rw [show L 77 = (setR L 76 f1) 77 from (rowS L 76 77 f1 (by decide)).symm, setR_id]] at h; exact h)
  · refine r_lld C dT_among_13 rfl ?_
    refine r_lk C dT_among_14 ?_
    refine r_lc_gt C dT_among_15 dT_among_16 (by omega) (fun b16 => ?_) (fun b16 => ?_)
    · refine r_lld C dT_among_28 rfl ?_
      refine r_lst C dT_among_29 (by decide) (ls' := [(0, _), (1, _), (2, _), (4, _), (6, _)]) rfl ?_
      refine r_ik C dT_among_31 ?_
      refine r_ist C dT_among_32 (by decide) (ls' := [(0, _), (1, _), (2, _), (4, _), (6, _), (8, _)]) rfl ?_
      have h := loop1 50 1 (L 76) (L 77) A (by omega) (by omega) ⟨by omega, by omega⟩ (fun j j0 j1 => by omega) (by simp [sm])
      rw [setR_id, setR_id] at h
      exact h
    · refine r_ald C dT_among_19 rfl ?_
      refine r_getR C dT_among_20 rfl rfl ?_
      refine r_lk C dT_among_23 ?_
      refine r_callS C lzJ_fillL dT_among_24 [_, _] [] rfl rfl (Nat.le_of_ble_eq_true rfl) ⟨(Nat.le_of_ble_eq_true rfl), (Nat.le_of_ble_eq_true rfl), (Nat.le_of_ble_eq_true rfl), (Nat.le_of_ble_eq_true rfl)⟩ rfl (cJ_fillL C.2.2.2.2.2.1 rfl (fun f1 hf1 => ?_))
      exact r_vret C dT_among_27 rfl (Nat.le_of_ble_eq_true rfl) (Nat.le_of_ble_eq_true rfl) (by have h := hn f1 (L 77) (fun j j0 j1 => by rw [hf1 j (by omega) j1]; unfold spl; rw [if_pos (by omega)]); rw [show setR (setR L 76 f1) 77 (L 77) = setR L 76 f1 by rw [show L 77 = (setR L 76 f1) 77 from (rowS L 76 77 f1 (by decide)).symm, setR_id]] at h; exact h)
