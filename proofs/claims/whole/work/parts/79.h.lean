/-! the reference's settling -/
theorem Gd.sid {g : ed_g} {x : ed_x} {post : ed_post} {mc ms nL cells slots : Nat} {Y : ed_Y} {I : ed_I} {L : ed_L} {pc : Nat} {ls : List (Nat × Value)} {st : List Value} (k : Nat) (h : Gd g x post mc ms nL cells slots Y I (setR L k (L k)) pc ls st) : Gd g x post mc ms nL cells slots Y I L pc ls st := by
  rw [setR_id] at h
  exact h
theorem wt_0 (I : ed_I) (L : ed_L) : wt I L 0 = sGe I L := by
  funext j
  exact if_pos rfl
theorem wt_1 (I : ed_I) (L : ed_L) : wt I L 1 = sDr I L := by
  funext j
  exact (if_neg (by decide)).trans (if_pos rfl)
theorem wt_2 (I : ed_I) (L : ed_L) : wt I L 2 = sGi I L := by
  funext j
  exact (if_neg (by decide)).trans (if_neg (by decide))
set_option maxRecDepth 100000 in
set_option maxHeartbeats 4000000 in
theorem cM_settle {g : ed_g} {l : Launch} (hl : l.stackTraces = false) {I0 : ed_I} {L0 : ed_L} {I : ed_I} {L : ed_L} (hm : Mt I0 L0 I L) (hd : I 79 1 ≠ 0) {post : ed_post} (h1e : 0 < sSh I0 L0 → ∀ (I1 : ed_I) (L1 : ed_L) (s : Int → Int), N1 I0 L0 I L I1 L1 → s 1 = sm (L1 103) 40 → (∀ k, k ≠ 1 → s k = L1 108 k) → post (.inl (some (.long (lZ (sSh I0 L0))))) Yw I1 (setR L1 108 s)) (h2e : sSh I0 L0 ≤ 0 → ∀ (I1 : ed_I) (L1 : ed_L) (p s : Int → Int), N2 I0 L0 I L I1 L1 → (∀ j, 1 ≤ j → j ≤ 40 → p j = L1 101 j + L1 102 j) → s 1 = sm p 40 → (∀ k, k ≠ 1 → s k = L1 108 k) → post (.inl (some (.long (lZ (sSh I0 L0))))) Yw I1 (setR (setR L1 103 p) 108 s)) : ed_Ct g l mM_settle 7 0 0 [.ref 79] Yw I L post := by
  refine ed_Ct.of hl rfl (Nat.le_of_ble_eq_true rfl) (fun x _ C => ?_)
  show Gd g x post _ _ _ _ _ _ _ _ 0 [(0, _)] []
  have hdy := hm.day.2
  have loop296 : ∀ (q : Nat) (i v1 v3 v5 v7 v9 : Int) (X : ed_I) (Z : ed_L) (s : Int → Int), (41 - i).toNat < q → 1 ≤ i ∧ i ≤ 41 → s 1 = sm (Z 103) (i - 1).toNat → (∀ k, k ≠ 1 → s k = Z 108 k) → (∀ s : Int → Int, s 1 = sm (Z 103) 40 → (∀ k, k ≠ 1 → s k = Z 108 k) → post (.inl (some (.long (lZ v9)))) Yw X (setR Z 108 s)) → Gd g x post 0 0 mM_settle.2.2.1 0 0 Yw X (setR Z 108 s) 296 [(0, .ref 79), (1, .long (lZ v1)), (3, .long (lZ v3)), (5, .long (lZ v5)), (7, .long (lZ v7)), (9, .long (lZ v9)), (11, .int (iZ i))] [] := by
    intro q
    induction q with
    | zero => intro i v1 v3 v5 v7 v9 X Z s hq; omega
    | succ q ih =>
      intro i v1 v3 v5 v7 v9 X Z s hq g1 g2 g3 g4
      refine r_ild C dM_settle_296 rfl ?_
      refine r_ik C dM_settle_298 ?_
      refine r_icmp_ge C dM_settle_300 (by omega) (fun b300 => ?_) (fun b300 => ?_)
      · refine r_lld C dM_settle_329 rfl ?_
        exact r_lret C dM_settle_331 rfl (Nat.le_of_ble_eq_true rfl) (Nat.le_of_ble_eq_true rfl) (g4 s (by rw [g2, show (i - 1).toNat = 40 by omega]) g3)
      · refine r_ald C dM_settle_303 rfl ?_
        refine r_getR C dM_settle_304 rfl rfl ?_
        refine r_ik C dM_settle_307 ?_
        refine r_ald C dM_settle_308 rfl ?_
        refine r_getR C dM_settle_309 rfl rfl ?_
        refine r_ik C dM_settle_312 ?_
        refine r_lald C dM_settle_313 rfl ⟨by omega, by omega⟩ (by decide) ?_
        try simp only [rd, rdU, rowS, rowU, rowE, ne_eq, not_false_eq_true, Nat.reduceEqDiff, Int.reduceEq, true_and, false_and, and_true, and_false, and_self, ↓reduceIte]
        refine r_ald C dM_settle_314 rfl ?_
        refine r_getR C dM_settle_315 rfl rfl ?_
        refine r_ild C dM_settle_318 rfl ?_
        refine r_lald C dM_settle_320 rfl ⟨by omega, by omega⟩ (by decide) ?_
        try simp only [rd, rdU, rowS, rowU, rowE, ne_eq, not_false_eq_true, Nat.reduceEqDiff, Int.reduceEq, true_and, false_and, and_true, and_false, and_self, ↓reduceIte]
        refine r_ladd C dM_settle_321 ?_
        refine r_last C dM_settle_322 rfl rfl ⟨by omega, by omega⟩ (by decide) ?_
        refine r_iinc C dM_settle_323 (by decide) rfl (ls' := [(0, _), (1, _), (3, _), (5, _), (7, _), (9, _), (11, _)]) rfl ?_
        refine r_goto C dM_settle_326 ?_
        simp only [up_eq, up_ne, rd, rdU, rowS, rowU, rowE, ne_eq, Nat.reduceEqDiff, Int.reduceEq, not_false_eq_true, true_and, false_and, and_true, and_false, ↓reduceIte]
        refine ih (i + 1) _ _ _ _ _ _ _ _ (by omega) (by omega) ?_ (fun k hk => ?_) g4
        · rw [up1_s, sm_to _ g1.1, ← g2]
        · rw [up1_o _ hk]; exact g3 k hk
  have loop258 : ∀ (q : Nat) (i v1 v3 v5 v7 v9 v11 v13 : Int) (X : ed_I) (Z : ed_L) (p : Int → Int), (41 - i).toNat < q → 1 ≤ i ∧ i ≤ 41 → (∀ j, 1 ≤ j → j < i → p j = Z 101 j + Z 102 j) → Z 108 1 = 0 → (∀ p s : Int → Int, (∀ j, 1 ≤ j → j ≤ 40 → p j = Z 101 j + Z 102 j) → s 1 = sm p 40 → (∀ k, k ≠ 1 → s k = Z 108 k) → post (.inl (some (.long (lZ v9)))) Yw X (setR (setR Z 103 p) 108 s)) → Gd g x post 0 0 mM_settle.2.2.1 0 0 Yw X (setR Z 103 p) 258 [(0, .ref 79), (1, .long (lZ v1)), (3, .long (lZ v3)), (5, .long (lZ v5)), (7, .long (lZ v7)), (9, .long (lZ v9)), (11, .long (lZ v11)), (13, .long (lZ v13)), (15, .int (iZ i))] [] := by
    intro q
    induction q with
    | zero => intro i v1 v3 v5 v7 v9 v11 v13 X Z p hq; omega
    | succ q ih =>
      intro i v1 v3 v5 v7 v9 v11 v13 X Z p hq g1 g2 g3 g4
      refine r_ild C dM_settle_258 rfl ?_
      refine r_ik C dM_settle_260 ?_
      refine r_icmp_ge C dM_settle_262 (by omega) (fun b262 => ?_) (fun b262 => ?_)
      · refine r_ik C dM_settle_293 ?_
        refine r_ist C dM_settle_294 (by decide) (ls' := [(0, _), (1, _), (3, _), (5, _), (7, _), (9, _), (11, _), (13, _), (15, _)]) rfl ?_
        refine Gd.drop (ls := [_, _, _, _, _, _, _]) (ls2 := [_, _]) ?_
        refine Gd.sid 108 (loop296 50 1 _ _ _ _ _ _ _ _ (by omega) (by omega) ?_ (fun k _ => rfl) (fun s e1 e2 => g4 p s (fun j j0 j1 => g2 j j0 (by omega)) ?_ (fun k hk => e2 k hk)))
        · show Z 108 1 = 0; exact g3
        · rw [rowE] at e1; exact e1
      · refine r_ald C dM_settle_265 rfl ?_
        refine r_getR C dM_settle_266 rfl rfl ?_
        refine r_ild C dM_settle_269 rfl ?_
        refine r_ald C dM_settle_271 rfl ?_
        refine r_getR C dM_settle_272 rfl rfl ?_
        refine r_ild C dM_settle_275 rfl ?_
        refine r_lald C dM_settle_277 rfl ⟨by omega, by omega⟩ (by decide) ?_
        try simp only [rd, rdU, rowS, rowU, rowE, ne_eq, not_false_eq_true, Nat.reduceEqDiff, Int.reduceEq, true_and, false_and, and_true, and_false, and_self, ↓reduceIte]
        refine r_ald C dM_settle_278 rfl ?_
        refine r_getR C dM_settle_279 rfl rfl ?_
        refine r_ild C dM_settle_282 rfl ?_
        refine r_lald C dM_settle_284 rfl ⟨by omega, by omega⟩ (by decide) ?_
        try simp only [rd, rdU, rowS, rowU, rowE, ne_eq, not_false_eq_true, Nat.reduceEqDiff, Int.reduceEq, true_and, false_and, and_true, and_false, and_self, ↓reduceIte]
        refine r_ladd C dM_settle_285 ?_
        refine r_last C dM_settle_286 rfl rfl ⟨by omega, by omega⟩ (by decide) ?_
        refine r_iinc C dM_settle_287 (by decide) rfl (ls' := [(0, _), (1, _), (3, _), (5, _), (7, _), (9, _), (11, _), (13, _), (15, _)]) rfl ?_
        refine r_goto C dM_settle_290 ?_
        simp only [up_eq, up_ne, rd, rdU, rowS, rowU, rowE, ne_eq, Nat.reduceEqDiff, Int.reduceEq, not_false_eq_true, true_and, false_and, and_true, and_false, ↓reduceIte]
        exact ih (i + 1) _ _ _ _ _ _ _ _ _ _ (by omega) (by omega) (fun j j0 j1 => by by_cases e9 : j = i; (subst e9; rw [up1_s]); (rw [up1_o _ e9]; exact g2 j j0 (by omega))) g3 g4
  have loop33 : ∀ (q : Nat) (i : Int) (p a b e h : Int → Int), (41 - i).toNat < q → 0 ≤ i ∧ i ≤ 41 → (∀ j, 0 ≤ j → j < i → a j = 0 ∧ b j = 0 ∧ e j = 0 ∧ p j = -1) → Gd g x post 0 0 mM_settle.2.2.1 0 0 Yw (setR (upI (upI (upI I 79 0 0) 79 3 1) 79 4 1) 107 p) (setR (setR (setR (setR L 104 a) 105 b) 106 e) 103 h) 33 [(0, .ref 79), (1, .int (iZ i))] [] := by
    intro q
    induction q with
    | zero => intro i p a b e h hq; omega
    | succ q ih =>
      intro i p a b e h hq g1 g2
      refine r_ild C dM_settle_33 rfl ?_
      refine r_ik C dM_settle_34 ?_
      refine r_icmp_ge C dM_settle_36 (by omega) (fun b36 => ?_) (fun b36 => ?_)
      · refine r_ald C dM_settle_80 rfl ?_
        have h1 : P1 I L (setR (upI (upI (upI I 79 0 0) 79 3 1) 79 4 1) 107 p) (setR (setR (setR (setR L 104 a) 105 b) 106 e) 103 h) := ⟨⟨fun a ha => by simp only [List.mem_cons, List.not_mem_nil, or_false, not_or] at ha; simp [rowS, rowU, ha], fun a ha => by simp only [List.mem_cons, List.not_mem_nil, or_false, not_or] at ha; simp [rowS, rowU, ha], rfl, rfl, rfl, rfl, rfl⟩, fun m m0 m1 => ⟨(g2 m m0 (by omega)).2.2.2, (g2 m m0 (by omega)).1, (g2 m m0 (by omega)).2.2.1, (g2 m m0 (by omega)).2.1⟩⟩
        refine r_callV C lzM_findStates dM_settle_81 _ [] [] rfl rfl rfl rfl rfl (Nat.le_of_ble_eq_true rfl) ⟨(Nat.le_of_ble_eq_true rfl), (Nat.le_of_ble_eq_true rfl), (Nat.le_of_ble_eq_true rfl), (Nat.le_of_ble_eq_true rfl)⟩ rfl (t2 C.2.2.2.2.2.1 hm h1 (fun I2 L2 h2 => ?_))
        refine r_ald C dM_settle_84 rfl ?_
        refine r_callV C lzM_findOwn dM_settle_85 _ [] [] rfl rfl rfl rfl rfl (Nat.le_of_ble_eq_true rfl) ⟨(Nat.le_of_ble_eq_true rfl), (Nat.le_of_ble_eq_true rfl), (Nat.le_of_ble_eq_true rfl), (Nat.le_of_ble_eq_true rfl)⟩ rfl (t3 C.2.2.2.2.2.1 hm h2 (fun L3 h3 => ?_))
        refine r_ald C dM_settle_88 rfl ?_
        refine r_callV C lzM_findValues dM_settle_89 _ [] [] rfl rfl rfl rfl rfl (Nat.le_of_ble_eq_true rfl) ⟨(Nat.le_of_ble_eq_true rfl), (Nat.le_of_ble_eq_true rfl), (Nat.le_of_ble_eq_true rfl), (Nat.le_of_ble_eq_true rfl)⟩ rfl (t4 C.2.2.2.2.2.1 hm h3 (fun L4 h4 => ?_))
        refine r_ald C dM_settle_92 rfl ?_
        refine r_callV C lzM_addUp dM_settle_93 _ [] [] rfl rfl rfl rfl rfl (Nat.le_of_ble_eq_true rfl) ⟨(Nat.le_of_ble_eq_true rfl), (Nat.le_of_ble_eq_true rfl), (Nat.le_of_ble_eq_true rfl), (Nat.le_of_ble_eq_true rfl)⟩ rfl (t5 C.2.2.2.2.2.1 hm h4 (fun L5 h5 => ?_))
        have hsu := sSum_in (hb_of hm.1)
        have hB := sB_in (hb_of hm.1)
        obtain ⟨q0, q1, q2, q3, q4, q5, q6, q7⟩ := h5.2.2.2.2.2.2
        refine r_ald C dM_settle_96 rfl ?_
        refine r_getR C dM_settle_97 rfl rfl ?_
        refine r_ik C dM_settle_100 ?_
        refine r_lald C dM_settle_101 rfl ⟨by omega, by omega⟩ (by decide) ?_
        rw [q2]
        refine r_lst C dM_settle_102 (by decide) (ls' := [(0, _), (1, _)]) rfl ?_
        refine r_ald C dM_settle_103 rfl ?_
        refine r_getR C dM_settle_104 rfl rfl ?_
        refine r_ik C dM_settle_107 ?_
        refine r_lald C dM_settle_108 rfl ⟨by omega, by omega⟩ (by decide) ?_
        rw [q3]
        refine r_lst C dM_settle_109 (by decide) (ls' := [(0, _), (1, _), (3, _)]) rfl ?_
        refine r_ald C dM_settle_110 rfl ?_
        refine r_getR C dM_settle_111 rfl rfl ?_
        refine r_ik C dM_settle_114 ?_
        refine r_lald C dM_settle_115 rfl ⟨by omega, by omega⟩ (by decide) ?_
        rw [q4]
        refine r_lst C dM_settle_116 (by decide) (ls' := [(0, _), (1, _), (3, _), (5, _)]) rfl ?_
        refine r_ald C dM_settle_118 rfl ?_
        refine r_getR C dM_settle_119 rfl rfl ?_
        refine r_ik C dM_settle_122 ?_
        refine r_lald C dM_settle_123 rfl ⟨by omega, by omega⟩ (by decide) ?_
        rw [q5]
        refine r_lst C dM_settle_124 (by decide) (ls' := [(0, _), (1, _), (3, _), (5, _), (7, _)]) rfl ?_
        refine r_lld C dM_settle_126 rfl ?_
        refine r_lld C dM_settle_127 rfl ?_
        refine r_lld C dM_settle_128 rfl ?_
        refine r_ladd C dM_settle_130 ?_
        refine r_ald C dM_settle_131 rfl ?_
        refine r_getR C dM_settle_132 rfl rfl ?_
        refine r_ik C dM_settle_135 ?_
        refine r_lald C dM_settle_137 rfl ⟨by omega, by omega⟩ (by decide) ?_
        rw [q6]
        refine r_ladd C dM_settle_138 ?_
        refine r_lsub C dM_settle_139 ?_
        refine r_callS C lzM_notBelow0 dM_settle_140 [_] [] rfl rfl (Nat.le_of_ble_eq_true rfl) ⟨(Nat.le_of_ble_eq_true rfl), (Nat.le_of_ble_eq_true rfl), (Nat.le_of_ble_eq_true rfl), (Nat.le_of_ble_eq_true rfl)⟩ rfl (cM_notBelow0 C.2.2.2.2.2.1 (by omega) ?_)
        rw [show max 0 (sD I0 L0 - (sT I0 L0 + sN I0 L0 + sS I0 L0)) = sSh I0 L0 from rfl]
        refine r_lst C dM_settle_143 (by decide) (ls' := [(0, _), (1, _), (3, _), (5, _), (7, _), (9, _)]) rfl ?_
        refine r_lld C dM_settle_145 rfl ?_
        refine r_lk C dM_settle_147 ?_
        have hsh : 0 ≤ sSh I0 L0 ∧ sSh I0 L0 ≤ 100000000000000 := by unfold sSh sMe; omega
        refine r_lc_le C dM_settle_148 dM_settle_149 (by omega) (fun b148 => ?_) (fun b148 => ?_)
        · refine r_lld C dM_settle_171 rfl ?_
          refine r_lld C dM_settle_172 rfl ?_
          refine r_lsub C dM_settle_173 ?_
          refine r_callS C lzM_notBelow0 dM_settle_174 [_] [] rfl rfl (Nat.le_of_ble_eq_true rfl) ⟨(Nat.le_of_ble_eq_true rfl), (Nat.le_of_ble_eq_true rfl), (Nat.le_of_ble_eq_true rfl), (Nat.le_of_ble_eq_true rfl)⟩ rfl (cM_notBelow0 C.2.2.2.2.2.1 (by omega) ?_)
          refine r_lst C dM_settle_177 (by decide) (ls' := [(0, _), (1, _), (3, _), (5, _), (7, _), (9, _), (11, _)]) rfl ?_
          refine r_lld C dM_settle_179 rfl ?_
          refine r_lld C dM_settle_181 rfl ?_
          refine r_callS C lzM_lesser dM_settle_183 [_, _] [] rfl rfl (Nat.le_of_ble_eq_true rfl) ⟨(Nat.le_of_ble_eq_true rfl), (Nat.le_of_ble_eq_true rfl), (Nat.le_of_ble_eq_true rfl), (Nat.le_of_ble_eq_true rfl)⟩ rfl (cM_lesser C.2.2.2.2.2.1 (by omega) (by omega) ?_)
          refine r_lst C dM_settle_186 (by decide) (ls' := [(0, _), (1, _), (3, _), (5, _), (7, _), (9, _), (11, _), (13, _)]) rfl ?_
          refine r_ald C dM_settle_188 rfl ?_
          refine r_ik C dM_settle_189 ?_
          refine r_lld C dM_settle_190 rfl ?_
          refine r_lld C dM_settle_192 rfl ?_
          refine r_lld C dM_settle_194 rfl ?_
          refine r_lld C dM_settle_195 rfl ?_
          refine r_lsub C dM_settle_196 ?_
          refine r_callS C lzM_notBelow0 dM_settle_197 [_] [_, _, _, _] rfl rfl (Nat.le_of_ble_eq_true rfl) ⟨(Nat.le_of_ble_eq_true rfl), (Nat.le_of_ble_eq_true rfl), (Nat.le_of_ble_eq_true rfl), (Nat.le_of_ble_eq_true rfl)⟩ rfl (cM_notBelow0 C.2.2.2.2.2.1 (by omega) ?_)
          refine r_callS C lzM_lesser dM_settle_200 [_, _] [_, _, _] rfl rfl (Nat.le_of_ble_eq_true rfl) ⟨(Nat.le_of_ble_eq_true rfl), (Nat.le_of_ble_eq_true rfl), (Nat.le_of_ble_eq_true rfl), (Nat.le_of_ble_eq_true rfl)⟩ rfl (cM_lesser C.2.2.2.2.2.1 (by omega) (by omega) ?_)
          refine r_lsub C dM_settle_203 ?_
          refine r_callV C lzM_bear dM_settle_204 _ [_, _] [] rfl rfl rfl rfl rfl (Nat.le_of_ble_eq_true rfl) ⟨(Nat.le_of_ble_eq_true rfl), (Nat.le_of_ble_eq_true rfl), (Nat.le_of_ble_eq_true rfl), (Nat.le_of_ble_eq_true rfl)⟩ rfl (t7 C.2.2.2.2.2.1 hm h5 (Or.inl rfl) (by omega) (fun L6 h6 => ?_))
          refine r_ald C dM_settle_207 rfl ?_
          refine r_ik C dM_settle_208 ?_
          refine r_lld C dM_settle_209 rfl ?_
          refine r_callV C lzM_bear dM_settle_211 _ [_, _] [] rfl rfl rfl rfl rfl (Nat.le_of_ble_eq_true rfl) ⟨(Nat.le_of_ble_eq_true rfl), (Nat.le_of_ble_eq_true rfl), (Nat.le_of_ble_eq_true rfl), (Nat.le_of_ble_eq_true rfl)⟩ rfl (t7 C.2.2.2.2.2.1 hm h6 (Or.inr (Or.inl rfl)) (by omega) (fun L7 h7 => ?_))
          refine r_ald C dM_settle_214 rfl ?_
          refine r_ik C dM_settle_215 ?_
          refine r_lld C dM_settle_216 rfl ?_
          refine r_lld C dM_settle_218 rfl ?_
          refine r_lsub C dM_settle_220 ?_
          refine r_callV C lzM_bear dM_settle_221 _ [_, _] [] rfl rfl rfl rfl rfl (Nat.le_of_ble_eq_true rfl) ⟨(Nat.le_of_ble_eq_true rfl), (Nat.le_of_ble_eq_true rfl), (Nat.le_of_ble_eq_true rfl), (Nat.le_of_ble_eq_true rfl)⟩ rfl (t7 C.2.2.2.2.2.1 hm h7 (Or.inr (Or.inr rfl)) (by omega) (fun L8 h8 => ?_))
          refine r_ald C dM_settle_224 rfl ?_
          refine r_getR C dM_settle_225 rfl rfl ?_
          refine r_ik C dM_settle_228 ?_
          refine r_lld C dM_settle_230 rfl ?_
          refine r_lld C dM_settle_231 rfl ?_
          refine r_lsub C dM_settle_232 ?_
          refine r_lld C dM_settle_233 rfl ?_
          refine r_lsub C dM_settle_235 ?_
          refine r_callS C lzM_notBelow0 dM_settle_236 [_] [_, _] rfl rfl (Nat.le_of_ble_eq_true rfl) ⟨(Nat.le_of_ble_eq_true rfl), (Nat.le_of_ble_eq_true rfl), (Nat.le_of_ble_eq_true rfl), (Nat.le_of_ble_eq_true rfl)⟩ rfl (cM_notBelow0 C.2.2.2.2.2.1 (by omega) ?_)
          rw [show max 0 (sT I0 L0 - sD I0 L0 - sG I0 L0) = sRe I0 L0 from rfl]
          have h9 := h8.s7 (sRe I0 L0)
          refine r_last C dM_settle_239 rfl rfl ⟨by omega, by omega⟩ (by decide) ?_
          refine r_ald C dM_settle_240 rfl ?_
          refine r_ald C dM_settle_241 rfl ?_
          refine r_getR C dM_settle_242 rfl rfl ?_
          refine r_ik C dM_settle_245 ?_
          refine r_lald C dM_settle_247 rfl ⟨by omega, by omega⟩ (by decide) ?_
          rw [show upI L8 108 7 (sRe I0 L0) 108 7 = sRe I0 L0 from upI_s _ _ _ _]
          refine r_callV C lzM_shareResidue dM_settle_248 _ [_] [] rfl rfl rfl rfl rfl (Nat.le_of_ble_eq_true rfl) ⟨(Nat.le_of_ble_eq_true rfl), (Nat.le_of_ble_eq_true rfl), (Nat.le_of_ble_eq_true rfl), (Nat.le_of_ble_eq_true rfl)⟩ rfl (t8 C.2.2.2.2.2.1 hm h9 (fun L9 h10 => ?_))
          refine r_ald C dM_settle_251 rfl ?_
          refine r_callV C lzM_hand dM_settle_252 _ [] [] rfl rfl rfl rfl rfl (Nat.le_of_ble_eq_true rfl) ⟨(Nat.le_of_ble_eq_true rfl), (Nat.le_of_ble_eq_true rfl), (Nat.le_of_ble_eq_true rfl), (Nat.le_of_ble_eq_true rfl)⟩ rfl (t9 C.2.2.2.2.2.1 hm (fun j j0 j1 => by show 0 + spl (wt I0 L0 0) _ j + spl (wt I0 L0 1) _ j + spl (wt I0 L0 2) _ j = sBe I0 L0 j; rw [Int.zero_add, wt_0, wt_1, wt_2]; rfl) h10 (fun I11 L11 h11 => ?_))
          refine r_ik C dM_settle_255 ?_
          refine r_ist C dM_settle_256 (by decide) (ls' := [(0, _), (1, _), (3, _), (5, _), (7, _), (9, _), (11, _), (13, _), (15, _)]) rfl ?_
          refine Gd.sid 103 (loop258 50 1 _ _ _ _ _ _ _ _ _ _ (by omega) (by omega) (fun j j0 j1 => by omega) h11.2.2.2.2.1 (fun p s hp e1 e2 => h2e b148 _ _ _ _ h11 hp e1 e2))
        · refine r_ald C dM_settle_152 rfl ?_
          refine r_lld C dM_settle_153 rfl ?_
          refine r_lld C dM_settle_154 rfl ?_
          refine r_ladd C dM_settle_156 ?_
          refine r_ald C dM_settle_157 rfl ?_
          refine r_getR C dM_settle_158 rfl rfl ?_
          refine r_ik C dM_settle_161 ?_
          refine r_lald C dM_settle_163 rfl ⟨by omega, by omega⟩ (by decide) ?_
          rw [q6]
          refine r_ladd C dM_settle_164 ?_
          refine r_callV C lzM_spread dM_settle_165 _ [_] [] rfl rfl rfl rfl rfl (Nat.le_of_ble_eq_true rfl) ⟨(Nat.le_of_ble_eq_true rfl), (Nat.le_of_ble_eq_true rfl), (Nat.le_of_ble_eq_true rfl), (Nat.le_of_ble_eq_true rfl)⟩ rfl (t6 C.2.2.2.2.2.1 hm h5 rfl (fun I6 L6 h6 => ?_))
          refine r_goto C dM_settle_168 ?_
          refine r_ik C dM_settle_293 ?_
          refine r_ist C dM_settle_294 (by decide) (ls' := [(0, _), (1, _), (3, _), (5, _), (7, _), (9, _), (11, _)]) rfl ?_
          refine Gd.sid 108 (loop296 50 1 _ _ _ _ _ _ _ _ (by omega) (by omega) ?_ (fun k _ => rfl) (fun s e1 e2 => h1e b148 _ _ _ h6 e1 e2))
          show L6 108 1 = 0; exact h6.2.2.2.2.1
      · refine r_ald C dM_settle_39 rfl ?_
        refine r_getR C dM_settle_40 rfl rfl ?_
        refine r_ild C dM_settle_43 rfl ?_
        refine r_lk C dM_settle_44 ?_
        refine r_last C dM_settle_45 rfl rfl ⟨by omega, by omega⟩ (by decide) ?_
        refine r_ald C dM_settle_46 rfl ?_
        refine r_getR C dM_settle_47 rfl rfl ?_
        refine r_ild C dM_settle_50 rfl ?_
        refine r_lk C dM_settle_51 ?_
        refine r_last C dM_settle_52 rfl rfl ⟨by omega, by omega⟩ (by decide) ?_
        refine r_ald C dM_settle_53 rfl ?_
        refine r_getR C dM_settle_54 rfl rfl ?_
        refine r_ild C dM_settle_57 rfl ?_
        refine r_lk C dM_settle_58 ?_
        refine r_last C dM_settle_59 rfl rfl ⟨by omega, by omega⟩ (by decide) ?_
        refine r_ald C dM_settle_60 rfl ?_
        refine r_getR C dM_settle_61 rfl rfl ?_
        refine r_ild C dM_settle_64 rfl ?_
        refine r_ik C dM_settle_65 ?_
        refine r_iast C dM_settle_66 rfl rfl ⟨by omega, by omega⟩ (by decide) ?_
        refine r_ald C dM_settle_67 rfl ?_
        refine r_getR C dM_settle_68 rfl rfl ?_
        refine r_ild C dM_settle_71 rfl ?_
        refine r_lk C dM_settle_72 ?_
        refine r_last C dM_settle_73 rfl rfl ⟨by omega, by omega⟩ (by decide) ?_
        refine r_iinc C dM_settle_74 (by decide) rfl (ls' := [(0, _), (1, _)]) rfl ?_
        refine r_goto C dM_settle_77 ?_
        simp only [up_eq, up_ne, rd, rdU, rowS, rowU, rowE, ne_eq, Nat.reduceEqDiff, Int.reduceEq, not_false_eq_true, true_and, false_and, and_true, and_false, ↓reduceIte]
        refine ih (i + 1) _ _ _ _ _ (by omega) (by omega) (fun j j0 j1 => ?_)
        by_cases e9 : j = i
        · subst e9; rw [up1_s, up1_s, up1_s, up1_s]; exact ⟨rfl, rfl, rfl, rfl⟩
        · rw [up1_o _ e9, up1_o _ e9, up1_o _ e9, up1_o _ e9]; exact g2 j j0 (by omega)
  refine r_ald C dM_settle_0 rfl ?_
  refine r_ald C dM_settle_1 rfl ?_
  refine r_getI (z := 1) C dM_settle_2 rfl rfl rfl ?_
  try simp only [rd, rdU, rowS, rowU, rowE, ne_eq, not_false_eq_true, Nat.reduceEqDiff, Int.reduceEq, true_and, false_and, and_true, and_false, and_self, ↓reduceIte]
  refine r_if_ne C dM_settle_5 (by omega) (fun b5 => ?_) (fun b5 => ?_)
  · refine r_ik C dM_settle_12 ?_
    refine r_callV C lzM_refused dM_settle_13 _ [_] [] rfl rfl rfl rfl rfl (Nat.le_of_ble_eq_true rfl) ⟨(Nat.le_of_ble_eq_true rfl), (Nat.le_of_ble_eq_true rfl), (Nat.le_of_ble_eq_true rfl), (Nat.le_of_ble_eq_true rfl)⟩ rfl (cM_refused C.2.2.2.2.2.1 (by omega) (fun h => absurd h (by decide)) (fun _ => ?_))
    refine r_if_eq C dM_settle_16 (by omega) (fun b16 => ?_) (fun b16 => ?_)
    · refine r_ald C dM_settle_21 rfl ?_
      refine r_ik C dM_settle_22 ?_
      refine r_putI (z := 3) C dM_settle_23 rfl rfl rfl rfl (ed_pz7_3 (by omega)) ?_
      refine r_ald C dM_settle_26 rfl ?_
      refine r_ik C dM_settle_27 ?_
      refine r_putI (z := 4) C dM_settle_28 rfl rfl rfl rfl (ed_pz7_4 (by omega)) ?_
      refine r_ik C dM_settle_31 ?_
      refine r_ist C dM_settle_32 (by decide) (ls' := [(0, _), (1, _)]) rfl ?_
      have h := loop33 50 0 (I 107) (L 104) (L 105) (L 106) (L 103) (by omega) (by omega) (fun j j0 j1 => by omega)
      rw [show I 107 = (upI (upI (upI I 79 0 0) 79 3 1) 79 4 1) 107 by rw [rowU _ _ _ _ _ (by decide), rowU _ _ _ _ _ (by decide), rowU _ _ _ _ _ (by decide)], setR_id, setR_id, setR_id, setR_id, setR_id] at h
      exact h
    · omega
  · omega
