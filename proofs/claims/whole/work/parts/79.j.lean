/-! settle, on both sides -/
set_option maxRecDepth 100000 in
set_option maxHeartbeats 4000000 in
theorem cL_settle {g : ed_g} {l : Launch} (hl : l.stackTraces = false) {I : ed_I} {L : ed_L} (hb : Hb I L) (hd : 0 < I 1 0) {post : ed_post} (h1e : 0 < sSh I L → ∀ I9 L9, E1 I L (sSh I L) I9 L9 → post (.inl (some (.int (iZ 0)))) Yw (upI (upI I9 0 5 1) 0 6 1) (upI (upI L9 78 1 (sm (L9 73) 40)) 112 0 (sSh I L))) (h2e : sSh I L ≤ 0 → ∀ I9 L9, E2 I L (sSh I L) I9 L9 → post (.inl (some (.int (iZ 0)))) Yw (upI (upI I9 0 5 1) 0 6 1) (upI (upI L9 78 1 (sm (L9 73) 40)) 112 0 (sSh I L))) : ed_Ct g l mL_settle 7 1 6 [.ref 0, .ref 112] Yw I L post := by
  refine ed_Ct.of hl rfl (Nat.le_of_ble_eq_true rfl) (fun x _ C => ?_)
  show Gd g x post _ _ _ _ _ _ _ _ 0 [(0, _), (1, _)] []
  refine r_ald C dL_settle_0 rfl ?_
  refine r_ik C dL_settle_1 ?_
  refine r_ald C dL_settle_2 rfl ?_
  refine r_callV C lzD_settle dL_settle_3 _ [] [_, _] rfl rfl rfl rfl rfl (Nat.le_of_ble_eq_true rfl) ⟨(Nat.le_of_ble_eq_true rfl), (Nat.le_of_ble_eq_true rfl), (Nat.le_of_ble_eq_true rfl), (Nat.le_of_ble_eq_true rfl)⟩ rfl (cD_settle C.2.2.2.2.2.1 hb hd (fun b9 I9 L9 h9 => ?_) (fun b9 I9 L9 h9 => ?_))
  · refine r_last C dL_settle_6 rfl rfl ⟨by omega, by omega⟩ (by decide) ?_
    refine r_goto C dL_settle_7 ?_
    refine r_ik C dL_settle_13 ?_
    exact r_iret C dL_settle_14 rfl (Nat.le_of_ble_eq_true rfl) (Nat.le_of_ble_eq_true rfl) (h1e b9 _ _ h9)
  · refine r_last C dL_settle_6 rfl rfl ⟨by omega, by omega⟩ (by decide) ?_
    refine r_goto C dL_settle_7 ?_
    refine r_ik C dL_settle_13 ?_
    exact r_iret C dL_settle_14 rfl (Nat.le_of_ble_eq_true rfl) (Nat.le_of_ble_eq_true rfl) (h2e b9 _ _ h9)
/-- the world behind the class's settling -/
theorem aft_I {I I9 : ed_I} (h : fr [12, 13, 61, 62] I I9) : ∀ k, k ∉ [0, 12, 13, 61, 62] → (upI (upI I9 0 5 1) 0 6 1) k = I k := fun k hk => by
  simp only [List.mem_cons, List.not_mem_nil, or_false, not_or] at hk
  rw [rowU _ _ _ _ _ hk.1, rowU _ _ _ _ _ hk.1]
  exact h k (by simp only [List.mem_cons, List.not_mem_nil, or_false, not_or]; exact hk.2)
theorem aft_L {L L9 : ed_L} {v w : Int} (h : fr [3, 4, 5, 11, 63, 64, 65, 66, 67, 68, 72, 73, 78, 74, 76, 77] L L9) : ∀ k, k ∉ [3, 4, 5, 11, 63, 64, 65, 66, 67, 68, 72, 73, 78, 74, 76, 77, 112] → (upI (upI L9 78 1 v) 112 0 w) k = L k := fun k hk => by
  simp only [List.mem_cons, List.not_mem_nil, or_false, not_or] at hk
  rw [rowU _ _ _ _ _ (by omega), rowU _ _ _ _ _ (by omega)]
  exact h k (by simp only [List.mem_cons, List.not_mem_nil, or_false, not_or]; omega)
theorem aft_mt {I I9 : ed_I} {L L9 : ed_L} {v w : Int} (h : Rel I L) (hI : fr [12, 13, 61, 62] I I9) (hL : fr [3, 4, 5, 11, 63, 64, 65, 66, 67, 68, 72, 73, 78, 74, 76, 77] L L9) : Mt I L (upI (upI I9 0 5 1) 0 6 1) (upI (upI L9 78 1 v) 112 0 w) := by
  refine ⟨h, by rw [aft_I hI 79 (by decide)], fun k k0 k1 => ⟨aft_I hI k ?_, aft_L hL k ?_⟩⟩
  · simp only [List.mem_cons, List.not_mem_nil, or_false, not_or]; omega
  · simp only [List.mem_cons, List.not_mem_nil, or_false, not_or]; omega
/-- flags behind both settlings -/
theorem aft_r1 {I I9 I2 : ed_I} {L L2 : ed_L} {v w : Int} {L9 : ed_L} (h : Rel I L) (hI : fr [12, 13, 61, 62] I I9) (hF : Fm (upI (upI I9 0 5 1) 0 6 1) (upI (upI L9 78 1 v) 112 0 w) I2 L2) : R1 I2 := by
  have e0 : I2 0 = (upI (upI I9 0 5 1) 0 6 1) 0 := hF.1 0 (by decide)
  have e1 : I2 1 = I 1 := (hF.1 1 (by decide)).trans (aft_I hI 1 (by decide))
  have e79 := aft_I hI 79 (by decide)
  have e7 : (upI (upI I9 0 5 1) 0 6 1) 0 7 = I 0 7 := by
    show I9 0 7 = I 0 7
    rw [hI 0 (by decide)]
  obtain ⟨h1, h2, h3, h4, h5, h6, h7, h8, h9⟩ := h.1
  unfold R1
  rw [hF.2.2.2.1, hF.2.2.2.2.1, hF.2.2.2.2.2.1, hF.2.2.2.2.2.2, e0, e1, e7, e79]
  exact ⟨Or.inr rfl, Or.inr rfl, h3, rfl, rfl, h6, h7, h8, h9⟩
theorem aft_told {I I9 I2 : ed_I} {L L2 L3 : ed_L} {v w : Int} {L9 : ed_L} (h : Rel I L) (hI : fr [12, 13, 61, 62] I I9) (hL : fr [3, 4, 5, 11, 63, 64, 65, 66, 67, 68, 72, 73, 78, 74, 76, 77] L L9) (hF : Fm (upI (upI I9 0 5 1) 0 6 1) (upI (upI L9 78 1 v) 112 0 w) I2 L2) (h3 : ∀ k, k ≠ 103 → k ≠ 108 → L3 k = L2 k) (ro : Ro I2 L3) : Rel I2 L3 := by
  refine rel_told h (fun k hk => ?_) (fun k hk => ?_) (aft_r1 h hI hF) ro
  · simp only [List.mem_cons, List.not_mem_nil, or_false, not_or] at hk
    rw [hF.1 k (by simp only [List.mem_cons, List.not_mem_nil, or_false, not_or]; omega)]
    exact aft_I hI k (by simp only [List.mem_cons, List.not_mem_nil, or_false, not_or]; omega)
  · simp only [List.mem_cons, List.not_mem_nil, or_false] at hk
    rw [h3 k (by omega) (by omega), hF.2.1 k (by simp only [List.mem_cons, List.not_mem_nil, or_false, not_or]; omega)]
    exact aft_L hL k (by simp only [List.mem_cons, List.not_mem_nil, or_false, not_or]; omega)
/-- a settling, whatever was told before it -/
theorem sok {g : ed_g} {l : Launch} (hl : l.stackTraces = false) {I : ed_I} {L : ed_L} (h : Rel I L) : SOK g l I L := by
  by_cases hd : I 1 0 = 0
  · exact sok_0 hl hd h
  have hb := hb_of h
  have hsu := sSum_in hb
  have hsh : 0 ≤ sSh I L ∧ sSh I L ≤ 100000000000000 := by unfold sSh sMe; omega
  have hd2 : I 79 1 ≠ 0 := by rw [h.1.2.2.2.2.2.2.1]; exact hd
  intro post hp
  refine cL_settle hl hb (by have := hb.2.2.1; omega) (fun b9 I9 L9 h9 => hp 0 _ _ (by decide) (fun post2 h2 => ?_)) (fun b9 I9 L9 h9 => hp 0 _ _ (by decide) (fun post2 h2 => ?_))
  · obtain ⟨hI, hL, x1, x2, x3, x4, -⟩ := h9
    refine cM_settle (I0 := I) (L0 := L) hl (aft_mt h hI hL) (by rw [aft_I hI 79 (by decide)]; exact hd2) (fun _ I2 L2 s hN e1 e2 => ?_) (fun b8 => absurd b9 (by omega))
    obtain ⟨hF, y1, y2, y3⟩ := hN
    have eI : ∀ k, k ∉ [79, 94, 95, 107] → I2 k = (upI (upI I9 0 5 1) 0 6 1) k := hF.1
    have eL : ∀ k, k ∉ [96, 97, 98, 99, 100, 101, 102, 103, 104, 105, 106, 108, 109, 110, 111] → L2 k = (upI (upI L9 78 1 (sm (L9 73) 40)) 112 0 (sSh I L)) k := hF.2.1
    have eS : ∀ k, k ≠ 108 → (setR L2 108 s) k = L2 k := fun k hk => rowS _ _ _ _ hk
    have e9 : ∀ k, k ∉ [96, 97, 98, 99, 100, 101, 102, 103, 104, 105, 106, 108, 109, 110, 111, 78, 112] → (setR L2 108 s) k = L9 k := fun k hk => by
      simp only [List.mem_cons, List.not_mem_nil, or_false, not_or] at hk
      rw [eS k (by omega), eL k (by simp only [List.mem_cons, List.not_mem_nil, or_false, not_or]; omega), rowU _ _ _ _ _ (by omega), rowU _ _ _ _ _ (by omega)]
    have e78 : ∀ k : Int, k ≠ 1 → (setR L2 108 s) 78 k = L9 78 k := fun k hk => by
      rw [eS 78 (by decide), eL 78 (by decide), rowU _ _ _ _ _ (by decide)]
      exact upI_o _ _ _ _ (Or.inr hk)
    have ei : ∀ k, k ∉ [0, 79, 94, 95, 107] → I2 k = I9 k := fun k hk => by
      simp only [List.mem_cons, List.not_mem_nil, or_false, not_or] at hk
      rw [eI k (by simp only [List.mem_cons, List.not_mem_nil, or_false, not_or]; omega), rowU _ _ _ _ _ (by omega), rowU _ _ _ _ _ (by omega)]
    have ro : Ro I2 (setR L2 108 s) := by
      refine ro_1 h b9 (fun j j0 j1 => ?_) (fun b b0 b1 => ?_) (fun j j0 j1 => ?_) ?_ ?_ ?_ (fun j j0 j1 => ?_) (fun m m0 m1 => ?_) ?_ ?_
      · rw [ei 61 (by decide), ei 62 (by decide), e9 67 (by decide), e9 68 (by decide), e9 73 (by decide)]
        exact x1 j j0 j1
      · rw [ei 13 (by decide), e9 3 (by decide), e9 4 (by decide), e9 5 (by decide)]
        exact ⟨(x2 b b0 b1).1, (x2 b b0 b1).2.2⟩
      · rw [e9 63 (by decide), e9 64 (by decide), e9 65 (by decide)]
        exact ⟨(x3 j j0 j1).1, (x3 j j0 j1).2.1, (x3 j j0 j1).2.2.1⟩
      · rw [e78 0 (by decide), e78 2 (by decide), e78 3 (by decide), e78 4 (by decide), e78 5 (by decide), e78 6 (by decide), e78 7 (by decide)]
        exact x4
      · rw [e9 73 (by decide), eS 78 (by decide), eL 78 (by decide), rowU _ _ _ _ _ (by decide)]
        exact upI_s _ _ _ _
      · rw [e9 11 (by decide)]
        exact (x2 0 (by omega) (by omega)).2.1
      · rw [eS 97 (by decide), eS 98 (by decide), eS 99 (by decide), eS 100 (by decide), eS 103 (by decide)]
        exact y2 j j0 j1
      · rw [eS 104 (by decide), eS 106 (by decide), eS 105 (by decide)]
        exact y1 m m0 m1
      · rw [rowE, e2 0 (by decide), e2 2 (by decide), e2 3 (by decide), e2 4 (by decide), e2 5 (by decide), e2 6 (by decide), e2 7 (by decide)]
        exact ⟨y3.1, y3.2.2⟩
      · rw [rowE, eS 103 (by decide)]
        exact e1
    refine h2 (sSh I L) _ _ ⟨⟨hF.2.2.1, by decide, aft_told h hI hL hF (fun k _ hk => eS k hk) ro⟩, fun _ => ⟨?_, by omega, by omega⟩⟩
    rw [eS 112 (by decide), eL 112 (by decide)]
    exact upI_s _ _ _ _
  · obtain ⟨hI, hL, x1, x2, x3, x4, -⟩ := h9
    refine cM_settle (I0 := I) (L0 := L) hl (aft_mt h hI hL) (by rw [aft_I hI 79 (by decide)]; exact hd2) (fun b8 => absurd b9 (by omega)) (fun _ I2 L2 p s hN hpp e1 e2 => ?_)
    obtain ⟨hF, y1, y2, y3⟩ := hN
    have eI : ∀ k, k ∉ [79, 94, 95, 107] → I2 k = (upI (upI I9 0 5 1) 0 6 1) k := hF.1
    have eL : ∀ k, k ∉ [96, 97, 98, 99, 100, 101, 102, 103, 104, 105, 106, 108, 109, 110, 111] → L2 k = (upI (upI L9 78 1 (sm (L9 73) 40)) 112 0 (sSh I L)) k := hF.2.1
    have eS : ∀ k, k ≠ 103 → k ≠ 108 → (setR (setR L2 103 p) 108 s) k = L2 k := fun k h1 h2 => by rw [rowS _ _ _ _ h2, rowS _ _ _ _ h1]
    have e9 : ∀ k, k ∉ [96, 97, 98, 99, 100, 101, 102, 103, 104, 105, 106, 108, 109, 110, 111, 78, 112] → (setR (setR L2 103 p) 108 s) k = L9 k := fun k hk => by
      simp only [List.mem_cons, List.not_mem_nil, or_false, not_or] at hk
      rw [eS k (by omega) (by omega), eL k (by simp only [List.mem_cons, List.not_mem_nil, or_false, not_or]; omega), rowU _ _ _ _ _ (by omega), rowU _ _ _ _ _ (by omega)]
    have e78 : ∀ k : Int, k ≠ 1 → (setR (setR L2 103 p) 108 s) 78 k = L9 78 k := fun k hk => by
      rw [eS 78 (by decide) (by decide), eL 78 (by decide), rowU _ _ _ _ _ (by decide)]
      exact upI_o _ _ _ _ (Or.inr hk)
    have ei : ∀ k, k ∉ [0, 79, 94, 95, 107] → I2 k = I9 k := fun k hk => by
      simp only [List.mem_cons, List.not_mem_nil, or_false, not_or] at hk
      rw [eI k (by simp only [List.mem_cons, List.not_mem_nil, or_false, not_or]; omega), rowU _ _ _ _ _ (by omega), rowU _ _ _ _ _ (by omega)]
    have e103 : (setR (setR L2 103 p) 108 s) 103 = p := by rw [rowS _ _ _ _ (by decide), rowE]
    have ro : Ro I2 (setR (setR L2 103 p) 108 s) := by
      refine ro_2 h (fun j j0 j1 => ?_) (fun b b0 b1 => ?_) (fun j j0 j1 => ?_) ?_ ?_ ?_ (fun j j0 j1 => ?_) (fun m m0 m1 => ?_) ?_ ?_
      · rw [ei 61 (by decide), ei 62 (by decide), e9 67 (by decide), e9 68 (by decide), e9 73 (by decide)]
        exact x1 j j0 j1
      · rw [ei 13 (by decide), e9 3 (by decide), e9 4 (by decide), e9 5 (by decide)]
        exact (x2 b b0 b1).2
      · rw [e9 63 (by decide), e9 64 (by decide), e9 65 (by decide)]
        exact ⟨(x3 j j0 j1).1, (x3 j j0 j1).2.1, (x3 j j0 j1).2.2.1⟩
      · rw [e78 0 (by decide), e78 2 (by decide), e78 3 (by decide), e78 4 (by decide), e78 5 (by decide), e78 6 (by decide), e78 7 (by decide)]
        exact x4
      · rw [e9 73 (by decide), eS 78 (by decide) (by decide), eL 78 (by decide), rowU _ _ _ _ _ (by decide)]
        exact upI_s _ _ _ _
      · rw [e9 11 (by decide)]
        exact (x2 0 (by omega) (by omega)).1
      · rw [eS 97 (by decide) (by decide), eS 98 (by decide) (by decide), eS 99 (by decide) (by decide), eS 100 (by decide) (by decide), e103, hpp j j0 j1, (y2 j j0 j1).2.2.2.2.2.1, (y2 j j0 j1).2.2.2.2.2.2]
        exact ⟨(y2 j j0 j1).1, (y2 j j0 j1).2.1, (y2 j j0 j1).2.2.1, (y2 j j0 j1).2.2.2.1, (y2 j j0 j1).2.2.2.2.1, rfl⟩
      · rw [eS 104 (by decide) (by decide), eS 106 (by decide) (by decide), eS 105 (by decide) (by decide)]
        exact y1 m m0 m1
      · rw [rowE, e2 0 (by decide), e2 2 (by decide), e2 3 (by decide), e2 4 (by decide), e2 5 (by decide), e2 6 (by decide), e2 7 (by decide)]
        exact ⟨y3.1, y3.2.2⟩
      · rw [e103, rowE]
        exact e1
    refine h2 (sSh I L) _ _ ⟨⟨hF.2.2.1, by decide, aft_told h hI hL hF (fun k h1 h2 => eS k h1 h2) ro⟩, fun _ => ⟨?_, by omega, by omega⟩⟩
    rw [eS 112 (by decide) (by decide), eL 112 (by decide)]
    exact upI_s _ _ _ _
