def en_ok : FieldType → ed_f → Bool
  | .int, .inr false => true
  | .boolean, .inr false => true
  | .long, .inr true => true
  | .array _, .inl none => true
  | .object _, .inl none => true
  | _, _ => false
theorem en_of {ty : Nat → FieldType} {fs : List ed_f} {n k : Nat} {g : ed_g} (h : ∀ j, j < n → (fs[j]?).any (en_ok (ty j)) = true) : ∀ j, j < n → defaultValue (ty j) = vp_V (fs.mapIdx (fun i f => ed_cv g (ed_fv (fun _ _ => 0) (fun _ _ => 0) k i f))) j := by
  intro j hj
  have := h j hj
  simp only [vp_V, List.getD_eq_getElem?_getD, List.getElem?_mapIdx]
  revert this
  cases fs[j]? with
  | none => intro h; simp at h
  | some f =>
    intro h
    simp only [Option.any_some] at h
    revert h
    simp only [Option.map_some, Option.getD_some]
    generalize ty j = t
    rcases f with (_ | r) | (_ | _) <;> cases t <;> intro h <;> first | rfl | (simp [en_ok] at h)
set_option maxRecDepth 100000 in
set_option maxHeartbeats 4000000 in
theorem en0 (g : ed_g) (k : Nat) : ∀ (ty0 : Nat → FieldType), (∀ j, j < 8 → parseFieldDescriptor (eT0 j).2.2.1 = some (ty0 j)) → ∀ j, j < 8 → defaultValue (ty0 j) = vp_V (([.inl none, .inl none, .inl none, .inl none, .inl none, .inr false, .inr false, .inr false] : List ed_f).mapIdx (fun i f => ed_cv g (ed_fv (fun _ _ => 0) (fun _ _ => 0) k i f))) j := by
  intro ty0 h j hj
  have e : ty0 j = ety0 j := Option.some.inj ((h j hj).symm.trans (et0.1 j hj))
  rw [e]
  exact en_of (by decide +kernel) j hj
set_option maxRecDepth 100000 in
set_option maxHeartbeats 4000000 in
theorem en1 (g : ed_g) (k : Nat) : ∀ (ty0 : Nat → FieldType), (∀ j, j < 5 → parseFieldDescriptor (eT1 j).2.2.1 = some (ty0 j)) → ∀ j, j < 5 → defaultValue (ty0 j) = vp_V (([.inr false, .inl none, .inl none, .inl none, .inl none] : List ed_f).mapIdx (fun i f => ed_cv g (ed_fv (fun _ _ => 0) (fun _ _ => 0) k i f))) j := by
  intro ty0 h j hj
  have e : ty0 j = ety1 j := Option.some.inj ((h j hj).symm.trans (et1.1 j hj))
  rw [e]
  exact en_of (by decide +kernel) j hj
set_option maxRecDepth 100000 in
set_option maxHeartbeats 4000000 in
theorem en2 (g : ed_g) (k : Nat) : ∀ (ty0 : Nat → FieldType), (∀ j, j < 7 → parseFieldDescriptor (eT2 j).2.2.1 = some (ty0 j)) → ∀ j, j < 7 → defaultValue (ty0 j) = vp_V (([.inl none, .inl none, .inl none, .inl none, .inl none, .inl none, .inl none] : List ed_f).mapIdx (fun i f => ed_cv g (ed_fv (fun _ _ => 0) (fun _ _ => 0) k i f))) j := by
  intro ty0 h j hj
  have e : ty0 j = ety2 j := Option.some.inj ((h j hj).symm.trans (et2.1 j hj))
  rw [e]
  exact en_of (by decide +kernel) j hj
set_option maxRecDepth 100000 in
set_option maxHeartbeats 4000000 in
theorem en3 (g : ed_g) (k : Nat) : ∀ (ty0 : Nat → FieldType), (∀ j, j < 13 → parseFieldDescriptor (eT3 j).2.2.1 = some (ty0 j)) → ∀ j, j < 13 → defaultValue (ty0 j) = vp_V (([.inl none, .inl none, .inl none, .inl none, .inl none, .inl none, .inl none, .inl none, .inl none, .inl none, .inl none, .inl none, .inl none] : List ed_f).mapIdx (fun i f => ed_cv g (ed_fv (fun _ _ => 0) (fun _ _ => 0) k i f))) j := by
  intro ty0 h j hj
  have e : ty0 j = ety3 j := Option.some.inj ((h j hj).symm.trans (et3.1 j hj))
  rw [e]
  exact en_of (by decide +kernel) j hj
set_option maxRecDepth 100000 in
set_option maxHeartbeats 4000000 in
theorem en4 (g : ed_g) (k : Nat) : ∀ (ty0 : Nat → FieldType), (∀ j, j < 4 → parseFieldDescriptor (eT4 j).2.2.1 = some (ty0 j)) → ∀ j, j < 4 → defaultValue (ty0 j) = vp_V (([.inl none, .inl none, .inl none, .inl none] : List ed_f).mapIdx (fun i f => ed_cv g (ed_fv (fun _ _ => 0) (fun _ _ => 0) k i f))) j := by
  intro ty0 h j hj
  have e : ty0 j = ety4 j := Option.some.inj ((h j hj).symm.trans (et4.1 j hj))
  rw [e]
  exact en_of (by decide +kernel) j hj
set_option maxRecDepth 100000 in
set_option maxHeartbeats 4000000 in
theorem en5 (g : ed_g) (k : Nat) : ∀ (ty0 : Nat → FieldType), (∀ j, j < 7 → parseFieldDescriptor (eT5 j).2.2.1 = some (ty0 j)) → ∀ j, j < 7 → defaultValue (ty0 j) = vp_V (([.inl none, .inl none, .inl none, .inl none, .inl none, .inl none, .inr true] : List ed_f).mapIdx (fun i f => ed_cv g (ed_fv (fun _ _ => 0) (fun _ _ => 0) k i f))) j := by
  intro ty0 h j hj
  have e : ty0 j = ety5 j := Option.some.inj ((h j hj).symm.trans (et5.1 j hj))
  rw [e]
  exact en_of (by decide +kernel) j hj
set_option maxRecDepth 100000 in
set_option maxHeartbeats 4000000 in
theorem en6 (g : ed_g) (k : Nat) : ∀ (ty0 : Nat → FieldType), (∀ j, j < 2 → parseFieldDescriptor (eT6 j).2.2.1 = some (ty0 j)) → ∀ j, j < 2 → defaultValue (ty0 j) = vp_V (([.inl none, .inl none] : List ed_f).mapIdx (fun i f => ed_cv g (ed_fv (fun _ _ => 0) (fun _ _ => 0) k i f))) j := by
  intro ty0 h j hj
  have e : ty0 j = ety6 j := Option.some.inj ((h j hj).symm.trans (et6.1 j hj))
  rw [e]
  exact en_of (by decide +kernel) j hj
set_option maxRecDepth 100000 in
set_option maxHeartbeats 4000000 in
theorem en7 (g : ed_g) (k : Nat) : ∀ (ty0 : Nat → FieldType), (∀ j, j < 37 → parseFieldDescriptor (eT7 j).2.2.1 = some (ty0 j)) → ∀ j, j < 37 → defaultValue (ty0 j) = vp_V (([.inr false, .inr false, .inr false, .inr false, .inr false, .inl none, .inl none, .inl none, .inl none, .inl none, .inl none, .inl none, .inl none, .inl none, .inl none, .inl none, .inl none, .inl none, .inl none, .inl none, .inl none, .inl none, .inl none, .inl none, .inl none, .inl none, .inl none, .inl none, .inl none, .inl none, .inl none, .inl none, .inl none, .inl none, .inl none, .inl none, .inl none] : List ed_f).mapIdx (fun i f => ed_cv g (ed_fv (fun _ _ => 0) (fun _ _ => 0) k i f))) j := by
  intro ty0 h j hj
  have e : ty0 j = ety7 j := Option.some.inj ((h j hj).symm.trans (et7.1 j hj))
  rw [e]
  exact en_of (by decide +kernel) j hj
set_option maxRecDepth 100000 in
set_option maxHeartbeats 4000000 in
theorem cP_init {g : ed_g} {l : Launch} (hl : l.stackTraces = false) {post : ed_post} (hn : post (.inl none) (true, [.inl (0, [.inl none, .inl none, .inl none, .inl none, .inl none, .inr false, .inr false, .inr false]), .inl (1, [.inr false, .inl (some 2), .inl (some 3), .inl (some 4), .inl (some 5)]), .inr (0, 41, 0), .inr (2, 41, 0), .inr (2, 41, 0), .inr (2, 41, 0)]) (fun _ _ => 0) (fun _ _ => 0)) : ed_Ct g l mP_init 2 4 164 [.ref 1] (true, [.inl (0, [.inl none, .inl none, .inl none, .inl none, .inl none, .inr false, .inr false, .inr false]), .inl (1, [.inr false, .inl none, .inl none, .inl none, .inl none])]) (fun _ _ => 0) (fun _ _ => 0) post := by
  refine ed_Ct.of hl rfl (Nat.le_of_ble_eq_true rfl) (fun x _ C => ?_)
  show Gd g x post _ _ _ _ _ _ _ _ 0 [(0, _)] []
  refine r_ald C dP_init_0 rfl ?_
  refine r_obj C dP_init_1 (tb1 29 rfl) (tb1 22 rfl) (tb1 23 rfl) rfl rfl ⟨(Nat.le_of_ble_eq_true rfl), (Nat.le_of_ble_eq_true rfl)⟩ ?_
  refine r_ald C dP_init_4 rfl ?_
  refine r_ik C dP_init_5 ?_
  refine r_newa (N := 41) (k := 2) C dP_init_7 rfl (Or.inl ⟨rfl, rfl⟩) (tb1 54 rfl) (by decide) (fun _ => rfl) (fun _ => rfl) ⟨(Nat.le_of_ble_eq_true rfl), (Nat.le_of_ble_eq_true rfl)⟩ rfl ?_
  refine r_putR C dP_init_9 rfl rfl (by decide) (fun q hq => by cases hq; exact ⟨rfl, rfl, .array (.int), by decide +kernel, rfl, rfl⟩) rfl ?_
  refine r_ald C dP_init_12 rfl ?_
  refine r_ik C dP_init_13 ?_
  refine r_newa (N := 41) (k := 3) C dP_init_15 rfl (Or.inr (Or.inr ⟨rfl, rfl⟩)) (tb1 55 rfl) (by decide) (fun _ => rfl) (fun _ => rfl) ⟨(Nat.le_of_ble_eq_true rfl), (Nat.le_of_ble_eq_true rfl)⟩ rfl ?_
  refine r_putR C dP_init_17 rfl rfl (by decide) (fun q hq => by cases hq; exact ⟨rfl, rfl, .array (.long), by decide +kernel, rfl, rfl⟩) rfl ?_
  refine r_ald C dP_init_20 rfl ?_
  refine r_ik C dP_init_21 ?_
  refine r_newa (N := 41) (k := 4) C dP_init_23 rfl (Or.inr (Or.inr ⟨rfl, rfl⟩)) (tb1 55 rfl) (by decide) (fun _ => rfl) (fun _ => rfl) ⟨(Nat.le_of_ble_eq_true rfl), (Nat.le_of_ble_eq_true rfl)⟩ rfl ?_
  refine r_putR C dP_init_25 rfl rfl (by decide) (fun q hq => by cases hq; exact ⟨rfl, rfl, .array (.long), by decide +kernel, rfl, rfl⟩) rfl ?_
  refine r_ald C dP_init_28 rfl ?_
  refine r_ik C dP_init_29 ?_
  refine r_newa (N := 41) (k := 5) C dP_init_31 rfl (Or.inr (Or.inr ⟨rfl, rfl⟩)) (tb1 55 rfl) (by decide) (fun _ => rfl) (fun _ => rfl) ⟨(Nat.le_of_ble_eq_true rfl), (Nat.le_of_ble_eq_true rfl)⟩ rfl ?_
  refine r_putR C dP_init_33 rfl rfl (by decide) (fun q hq => by cases hq; exact ⟨rfl, rfl, .array (.long), by decide +kernel, rfl, rfl⟩) rfl ?_
  exact r_vret C dP_init_36 rfl (Nat.le_of_ble_eq_true rfl) (Nat.le_of_ble_eq_true rfl) hn
set_option maxRecDepth 100000 in
set_option maxHeartbeats 4000000 in
theorem cA_init {g : ed_g} {l : Launch} (hl : l.stackTraces = false) {post : ed_post} (hn : post (.inl none) (true, [.inl (0, [.inl (some 1), .inl none, .inl none, .inl none, .inl none, .inr false, .inr false, .inr false]), .inl (1, [.inr false, .inl (some 2), .inl (some 3), .inl (some 4), .inl (some 5)]), .inr (0, 41, 0), .inr (2, 41, 0), .inr (2, 41, 0), .inr (2, 41, 0), .inl (2, [.inl (some 7), .inl (some 8), .inl (some 9), .inl (some 10), .inl (some 11), .inl (some 12), .inl (some 13)]), .inr (1, 41, 0), .inr (2, 41, 0), .inr (1, 41, 0), .inr (1, 41, 0), .inr (2, 41, 0), .inr (0, 41, 0), .inr (0, 41, 0)]) (fun _ _ => 0) (fun _ _ => 0)) : ed_Ct g l mA_init 2 7 287 [.ref 6] (true, [.inl (0, [.inl (some 1), .inl none, .inl none, .inl none, .inl none, .inr false, .inr false, .inr false]), .inl (1, [.inr false, .inl (some 2), .inl (some 3), .inl (some 4), .inl (some 5)]), .inr (0, 41, 0), .inr (2, 41, 0), .inr (2, 41, 0), .inr (2, 41, 0), .inl (2, [.inl none, .inl none, .inl none, .inl none, .inl none, .inl none, .inl none])]) (fun _ _ => 0) (fun _ _ => 0) post := by
  refine ed_Ct.of hl rfl (Nat.le_of_ble_eq_true rfl) (fun x _ C => ?_)
  show Gd g x post _ _ _ _ _ _ _ _ 0 [(0, _)] []
  refine r_ald C dA_init_0 rfl ?_
  refine r_obj C dA_init_1 (tb1 61 rfl) (tb1 22 rfl) (tb1 23 rfl) rfl rfl ⟨(Nat.le_of_ble_eq_true rfl), (Nat.le_of_ble_eq_true rfl)⟩ ?_
  refine r_ald C dA_init_4 rfl ?_
  refine r_ik C dA_init_5 ?_
  refine r_newa (N := 41) (k := 7) C dA_init_7 rfl (Or.inr (Or.inl ⟨rfl, rfl⟩)) (tb1 94 rfl) (by decide) (fun _ => rfl) (fun _ => rfl) ⟨(Nat.le_of_ble_eq_true rfl), (Nat.le_of_ble_eq_true rfl)⟩ rfl ?_
  refine r_putR C dA_init_9 rfl rfl (by decide) (fun q hq => by cases hq; exact ⟨rfl, rfl, .array (.boolean), by decide +kernel, rfl, rfl⟩) rfl ?_
  refine r_ald C dA_init_12 rfl ?_
  refine r_ik C dA_init_13 ?_
  refine r_newa (N := 41) (k := 8) C dA_init_15 rfl (Or.inr (Or.inr ⟨rfl, rfl⟩)) (tb1 55 rfl) (by decide) (fun _ => rfl) (fun _ => rfl) ⟨(Nat.le_of_ble_eq_true rfl), (Nat.le_of_ble_eq_true rfl)⟩ rfl ?_
  refine r_putR C dA_init_17 rfl rfl (by decide) (fun q hq => by cases hq; exact ⟨rfl, rfl, .array (.long), by decide +kernel, rfl, rfl⟩) rfl ?_
  refine r_ald C dA_init_20 rfl ?_
  refine r_ik C dA_init_21 ?_
  refine r_newa (N := 41) (k := 9) C dA_init_23 rfl (Or.inr (Or.inl ⟨rfl, rfl⟩)) (tb1 94 rfl) (by decide) (fun _ => rfl) (fun _ => rfl) ⟨(Nat.le_of_ble_eq_true rfl), (Nat.le_of_ble_eq_true rfl)⟩ rfl ?_
  refine r_putR C dA_init_25 rfl rfl (by decide) (fun q hq => by cases hq; exact ⟨rfl, rfl, .array (.boolean), by decide +kernel, rfl, rfl⟩) rfl ?_
  refine r_ald C dA_init_28 rfl ?_
  refine r_ik C dA_init_29 ?_
  refine r_newa (N := 41) (k := 10) C dA_init_31 rfl (Or.inr (Or.inl ⟨rfl, rfl⟩)) (tb1 94 rfl) (by decide) (fun _ => rfl) (fun _ => rfl) ⟨(Nat.le_of_ble_eq_true rfl), (Nat.le_of_ble_eq_true rfl)⟩ rfl ?_
  refine r_putR C dA_init_33 rfl rfl (by decide) (fun q hq => by cases hq; exact ⟨rfl, rfl, .array (.boolean), by decide +kernel, rfl, rfl⟩) rfl ?_
  refine r_ald C dA_init_36 rfl ?_
  refine r_ik C dA_init_37 ?_
  refine r_newa (N := 41) (k := 11) C dA_init_39 rfl (Or.inr (Or.inr ⟨rfl, rfl⟩)) (tb1 55 rfl) (by decide) (fun _ => rfl) (fun _ => rfl) ⟨(Nat.le_of_ble_eq_true rfl), (Nat.le_of_ble_eq_true rfl)⟩ rfl ?_
  refine r_putR C dA_init_41 rfl rfl (by decide) (fun q hq => by cases hq; exact ⟨rfl, rfl, .array (.long), by decide +kernel, rfl, rfl⟩) rfl ?_
  refine r_ald C dA_init_44 rfl ?_
  refine r_ik C dA_init_45 ?_
  refine r_newa (N := 41) (k := 12) C dA_init_47 rfl (Or.inl ⟨rfl, rfl⟩) (tb1 54 rfl) (by decide) (fun _ => rfl) (fun _ => rfl) ⟨(Nat.le_of_ble_eq_true rfl), (Nat.le_of_ble_eq_true rfl)⟩ rfl ?_
  refine r_putR C dA_init_49 rfl rfl (by decide) (fun q hq => by cases hq; exact ⟨rfl, rfl, .array (.int), by decide +kernel, rfl, rfl⟩) rfl ?_
  refine r_ald C dA_init_52 rfl ?_
  refine r_ik C dA_init_53 ?_
  refine r_newa (N := 41) (k := 13) C dA_init_55 rfl (Or.inl ⟨rfl, rfl⟩) (tb1 54 rfl) (by decide) (fun _ => rfl) (fun _ => rfl) ⟨(Nat.le_of_ble_eq_true rfl), (Nat.le_of_ble_eq_true rfl)⟩ rfl ?_
  refine r_putR C dA_init_57 rfl rfl (by decide) (fun q hq => by cases hq; exact ⟨rfl, rfl, .array (.int), by decide +kernel, rfl, rfl⟩) rfl ?_
  exact r_vret C dA_init_60 rfl (Nat.le_of_ble_eq_true rfl) (Nat.le_of_ble_eq_true rfl) hn
set_option maxRecDepth 100000 in
set_option maxHeartbeats 4000000 in
theorem cC_init {g : ed_g} {l : Launch} (hl : l.stackTraces = false) {post : ed_post} (hn : post (.inl none) (true, [.inl (0, [.inl (some 1), .inl (some 6), .inl none, .inl none, .inl none, .inr false, .inr false, .inr false]), .inl (1, [.inr false, .inl (some 2), .inl (some 3), .inl (some 4), .inl (some 5)]), .inr (0, 41, 0), .inr (2, 41, 0), .inr (2, 41, 0), .inr (2, 41, 0), .inl (2, [.inl (some 7), .inl (some 8), .inl (some 9), .inl (some 10), .inl (some 11), .inl (some 12), .inl (some 13)]), .inr (1, 41, 0), .inr (2, 41, 0), .inr (1, 41, 0), .inr (1, 41, 0), .inr (2, 41, 0), .inr (0, 41, 0), .inr (0, 41, 0), .inl (3, [.inl (some 15), .inl (some 16), .inl (some 17), .inl (some 18), .inl (some 19), .inl (some 61), .inl (some 62), .inl (some 63), .inl (some 64), .inl (some 65), .inl (some 66), .inl (some 67), .inl (some 68)]), .inr (0, 41, 0), .inr (2, 41, 0), .inr (0, 41, 0), .inr (1, 41, 0), .inr (3, 41, 20), .inr (0, 5, 0), .inr (0, 5, 0), .inr (0, 5, 0), .inr (0, 5, 0), .inr (0, 5, 0), .inr (0, 5, 0), .inr (0, 5, 0), .inr (0, 5, 0), .inr (0, 5, 0), .inr (0, 5, 0), .inr (0, 5, 0), .inr (0, 5, 0), .inr (0, 5, 0), .inr (0, 5, 0), .inr (0, 5, 0), .inr (0, 5, 0), .inr (0, 5, 0), .inr (0, 5, 0), .inr (0, 5, 0), .inr (0, 5, 0), .inr (0, 5, 0), .inr (0, 5, 0), .inr (0, 5, 0), .inr (0, 5, 0), .inr (0, 5, 0), .inr (0, 5, 0), .inr (0, 5, 0), .inr (0, 5, 0), .inr (0, 5, 0), .inr (0, 5, 0), .inr (0, 5, 0), .inr (0, 5, 0), .inr (0, 5, 0), .inr (0, 5, 0), .inr (0, 5, 0), .inr (0, 5, 0), .inr (0, 5, 0), .inr (0, 5, 0), .inr (0, 5, 0), .inr (0, 5, 0), .inr (0, 5, 0), .inr (0, 41, 0), .inr (0, 41, 0), .inr (2, 41, 0), .inr (2, 41, 0), .inr (2, 41, 0), .inr (2, 41, 0), .inr (2, 41, 0), .inr (2, 41, 0)]) (fun _ _ => 0) (fun _ _ => 0)) : ed_Ct g l mC_init 2 54 738 [.ref 14] (true, [.inl (0, [.inl (some 1), .inl (some 6), .inl none, .inl none, .inl none, .inr false, .inr false, .inr false]), .inl (1, [.inr false, .inl (some 2), .inl (some 3), .inl (some 4), .inl (some 5)]), .inr (0, 41, 0), .inr (2, 41, 0), .inr (2, 41, 0), .inr (2, 41, 0), .inl (2, [.inl (some 7), .inl (some 8), .inl (some 9), .inl (some 10), .inl (some 11), .inl (some 12), .inl (some 13)]), .inr (1, 41, 0), .inr (2, 41, 0), .inr (1, 41, 0), .inr (1, 41, 0), .inr (2, 41, 0), .inr (0, 41, 0), .inr (0, 41, 0), .inl (3, [.inl none, .inl none, .inl none, .inl none, .inl none, .inl none, .inl none, .inl none, .inl none, .inl none, .inl none, .inl none, .inl none])]) (fun _ _ => 0) (fun _ _ => 0) post := by
  refine ed_Ct.of hl rfl (Nat.le_of_ble_eq_true rfl) (fun x _ C => ?_)
  show Gd g x post _ _ _ _ _ _ _ _ 0 [(0, _)] []
  refine r_ald C dC_init_0 rfl ?_
  refine r_obj C dC_init_1 (tb1 100 rfl) (tb1 22 rfl) (tb1 23 rfl) rfl rfl ⟨(Nat.le_of_ble_eq_true rfl), (Nat.le_of_ble_eq_true rfl)⟩ ?_
  refine r_ald C dC_init_4 rfl ?_
  refine r_ik C dC_init_5 ?_
  refine r_newa (N := 41) (k := 15) C dC_init_7 rfl (Or.inl ⟨rfl, rfl⟩) (tb1 54 rfl) (by decide) (fun _ => rfl) (fun _ => rfl) ⟨(Nat.le_of_ble_eq_true rfl), (Nat.le_of_ble_eq_true rfl)⟩ rfl ?_
  refine r_putR C dC_init_9 rfl rfl (by decide) (fun q hq => by cases hq; exact ⟨rfl, rfl, .array (.int), by decide +kernel, rfl, rfl⟩) rfl ?_
  refine r_ald C dC_init_12 rfl ?_
  refine r_ik C dC_init_13 ?_
  refine r_newa (N := 41) (k := 16) C dC_init_15 rfl (Or.inr (Or.inr ⟨rfl, rfl⟩)) (tb1 55 rfl) (by decide) (fun _ => rfl) (fun _ => rfl) ⟨(Nat.le_of_ble_eq_true rfl), (Nat.le_of_ble_eq_true rfl)⟩ rfl ?_
  refine r_putR C dC_init_17 rfl rfl (by decide) (fun q hq => by cases hq; exact ⟨rfl, rfl, .array (.long), by decide +kernel, rfl, rfl⟩) rfl ?_
  refine r_ald C dC_init_20 rfl ?_
  refine r_ik C dC_init_21 ?_
  refine r_newa (N := 41) (k := 17) C dC_init_23 rfl (Or.inl ⟨rfl, rfl⟩) (tb1 54 rfl) (by decide) (fun _ => rfl) (fun _ => rfl) ⟨(Nat.le_of_ble_eq_true rfl), (Nat.le_of_ble_eq_true rfl)⟩ rfl ?_
  refine r_putR C dC_init_25 rfl rfl (by decide) (fun q hq => by cases hq; exact ⟨rfl, rfl, .array (.int), by decide +kernel, rfl, rfl⟩) rfl ?_
  refine r_ald C dC_init_28 rfl ?_
  refine r_ik C dC_init_29 ?_
  refine r_newa (N := 41) (k := 18) C dC_init_31 rfl (Or.inr (Or.inl ⟨rfl, rfl⟩)) (tb1 94 rfl) (by decide) (fun _ => rfl) (fun _ => rfl) ⟨(Nat.le_of_ble_eq_true rfl), (Nat.le_of_ble_eq_true rfl)⟩ rfl ?_
  refine r_putR C dC_init_33 rfl rfl (by decide) (fun q hq => by cases hq; exact ⟨rfl, rfl, .array (.boolean), by decide +kernel, rfl, rfl⟩) rfl ?_
  refine r_ald C dC_init_36 rfl ?_
  refine r_ik C dC_init_37 ?_
  refine r_ik C dC_init_39 ?_
  refine r_multi (N := 41) (K := 5) (k := 19) C dC_init_40 rfl (tb1 101 rfl) (tb1 54 rfl) (by decide) (by decide) (fun _ _ => rfl) ⟨(Nat.le_of_ble_eq_true rfl), (Nat.le_of_ble_eq_true rfl)⟩ rfl ?_
  refine r_putR C dC_init_44 rfl rfl (by decide) (fun q hq => by cases hq; exact ⟨rfl, rfl, .array (.array (.int)), by decide +kernel, rfl, rfl⟩) rfl ?_
  refine r_ald C dC_init_47 rfl ?_
  refine r_ik C dC_init_48 ?_
  refine r_newa (N := 41) (k := 61) C dC_init_50 rfl (Or.inl ⟨rfl, rfl⟩) (tb1 54 rfl) (by decide) (fun _ => rfl) (fun _ => rfl) ⟨(Nat.le_of_ble_eq_true rfl), (Nat.le_of_ble_eq_true rfl)⟩ rfl ?_
  refine r_putR C dC_init_52 rfl rfl (by decide) (fun q hq => by cases hq; exact ⟨rfl, rfl, .array (.int), by decide +kernel, rfl, rfl⟩) rfl ?_
  refine r_ald C dC_init_55 rfl ?_
  refine r_ik C dC_init_56 ?_
  refine r_newa (N := 41) (k := 62) C dC_init_58 rfl (Or.inl ⟨rfl, rfl⟩) (tb1 54 rfl) (by decide) (fun _ => rfl) (fun _ => rfl) ⟨(Nat.le_of_ble_eq_true rfl), (Nat.le_of_ble_eq_true rfl)⟩ rfl ?_
  refine r_putR C dC_init_60 rfl rfl (by decide) (fun q hq => by cases hq; exact ⟨rfl, rfl, .array (.int), by decide +kernel, rfl, rfl⟩) rfl ?_
  refine r_ald C dC_init_63 rfl ?_
  refine r_ik C dC_init_64 ?_
  refine r_newa (N := 41) (k := 63) C dC_init_66 rfl (Or.inr (Or.inr ⟨rfl, rfl⟩)) (tb1 55 rfl) (by decide) (fun _ => rfl) (fun _ => rfl) ⟨(Nat.le_of_ble_eq_true rfl), (Nat.le_of_ble_eq_true rfl)⟩ rfl ?_
  refine r_putR C dC_init_68 rfl rfl (by decide) (fun q hq => by cases hq; exact ⟨rfl, rfl, .array (.long), by decide +kernel, rfl, rfl⟩) rfl ?_
  refine r_ald C dC_init_71 rfl ?_
  refine r_ik C dC_init_72 ?_
  refine r_newa (N := 41) (k := 64) C dC_init_74 rfl (Or.inr (Or.inr ⟨rfl, rfl⟩)) (tb1 55 rfl) (by decide) (fun _ => rfl) (fun _ => rfl) ⟨(Nat.le_of_ble_eq_true rfl), (Nat.le_of_ble_eq_true rfl)⟩ rfl ?_
  refine r_putR C dC_init_76 rfl rfl (by decide) (fun q hq => by cases hq; exact ⟨rfl, rfl, .array (.long), by decide +kernel, rfl, rfl⟩) rfl ?_
  refine r_ald C dC_init_79 rfl ?_
  refine r_ik C dC_init_80 ?_
  refine r_newa (N := 41) (k := 65) C dC_init_82 rfl (Or.inr (Or.inr ⟨rfl, rfl⟩)) (tb1 55 rfl) (by decide) (fun _ => rfl) (fun _ => rfl) ⟨(Nat.le_of_ble_eq_true rfl), (Nat.le_of_ble_eq_true rfl)⟩ rfl ?_
  refine r_putR C dC_init_84 rfl rfl (by decide) (fun q hq => by cases hq; exact ⟨rfl, rfl, .array (.long), by decide +kernel, rfl, rfl⟩) rfl ?_
  refine r_ald C dC_init_87 rfl ?_
  refine r_ik C dC_init_88 ?_
  refine r_newa (N := 41) (k := 66) C dC_init_90 rfl (Or.inr (Or.inr ⟨rfl, rfl⟩)) (tb1 55 rfl) (by decide) (fun _ => rfl) (fun _ => rfl) ⟨(Nat.le_of_ble_eq_true rfl), (Nat.le_of_ble_eq_true rfl)⟩ rfl ?_
  refine r_putR C dC_init_92 rfl rfl (by decide) (fun q hq => by cases hq; exact ⟨rfl, rfl, .array (.long), by decide +kernel, rfl, rfl⟩) rfl ?_
  refine r_ald C dC_init_95 rfl ?_
  refine r_ik C dC_init_96 ?_
  refine r_newa (N := 41) (k := 67) C dC_init_98 rfl (Or.inr (Or.inr ⟨rfl, rfl⟩)) (tb1 55 rfl) (by decide) (fun _ => rfl) (fun _ => rfl) ⟨(Nat.le_of_ble_eq_true rfl), (Nat.le_of_ble_eq_true rfl)⟩ rfl ?_
  refine r_putR C dC_init_100 rfl rfl (by decide) (fun q hq => by cases hq; exact ⟨rfl, rfl, .array (.long), by decide +kernel, rfl, rfl⟩) rfl ?_
  refine r_ald C dC_init_103 rfl ?_
  refine r_ik C dC_init_104 ?_
  refine r_newa (N := 41) (k := 68) C dC_init_106 rfl (Or.inr (Or.inr ⟨rfl, rfl⟩)) (tb1 55 rfl) (by decide) (fun _ => rfl) (fun _ => rfl) ⟨(Nat.le_of_ble_eq_true rfl), (Nat.le_of_ble_eq_true rfl)⟩ rfl ?_
  refine r_putR C dC_init_108 rfl rfl (by decide) (fun q hq => by cases hq; exact ⟨rfl, rfl, .array (.long), by decide +kernel, rfl, rfl⟩) rfl ?_
  exact r_vret C dC_init_111 rfl (Nat.le_of_ble_eq_true rfl) (Nat.le_of_ble_eq_true rfl) hn
set_option maxRecDepth 100000 in
set_option maxHeartbeats 4000000 in
theorem cB_init {g : ed_g} {l : Launch} (hl : l.stackTraces = false) {post : ed_post} (hn : post (.inl none) (true, [.inl (0, [.inl (some 1), .inl (some 6), .inl (some 14), .inl none, .inl none, .inr false, .inr false, .inr false]), .inl (1, [.inr false, .inl (some 2), .inl (some 3), .inl (some 4), .inl (some 5)]), .inr (0, 41, 0), .inr (2, 41, 0), .inr (2, 41, 0), .inr (2, 41, 0), .inl (2, [.inl (some 7), .inl (some 8), .inl (some 9), .inl (some 10), .inl (some 11), .inl (some 12), .inl (some 13)]), .inr (1, 41, 0), .inr (2, 41, 0), .inr (1, 41, 0), .inr (1, 41, 0), .inr (2, 41, 0), .inr (0, 41, 0), .inr (0, 41, 0), .inl (3, [.inl (some 15), .inl (some 16), .inl (some 17), .inl (some 18), .inl (some 19), .inl (some 61), .inl (some 62), .inl (some 63), .inl (some 64), .inl (some 65), .inl (some 66), .inl (some 67), .inl (some 68)]), .inr (0, 41, 0), .inr (2, 41, 0), .inr (0, 41, 0), .inr (1, 41, 0), .inr (3, 41, 20), .inr (0, 5, 0), .inr (0, 5, 0), .inr (0, 5, 0), .inr (0, 5, 0), .inr (0, 5, 0), .inr (0, 5, 0), .inr (0, 5, 0), .inr (0, 5, 0), .inr (0, 5, 0), .inr (0, 5, 0), .inr (0, 5, 0), .inr (0, 5, 0), .inr (0, 5, 0), .inr (0, 5, 0), .inr (0, 5, 0), .inr (0, 5, 0), .inr (0, 5, 0), .inr (0, 5, 0), .inr (0, 5, 0), .inr (0, 5, 0), .inr (0, 5, 0), .inr (0, 5, 0), .inr (0, 5, 0), .inr (0, 5, 0), .inr (0, 5, 0), .inr (0, 5, 0), .inr (0, 5, 0), .inr (0, 5, 0), .inr (0, 5, 0), .inr (0, 5, 0), .inr (0, 5, 0), .inr (0, 5, 0), .inr (0, 5, 0), .inr (0, 5, 0), .inr (0, 5, 0), .inr (0, 5, 0), .inr (0, 5, 0), .inr (0, 5, 0), .inr (0, 5, 0), .inr (0, 5, 0), .inr (0, 5, 0), .inr (0, 41, 0), .inr (0, 41, 0), .inr (2, 41, 0), .inr (2, 41, 0), .inr (2, 41, 0), .inr (2, 41, 0), .inr (2, 41, 0), .inr (2, 41, 0), .inl (4, [.inl (some 70), .inl (some 71), .inl (some 72), .inl (some 73)]), .inr (2, 41, 0), .inr (0, 41, 0), .inr (2, 41, 0), .inr (2, 41, 0)]) (fun _ _ => 0) (fun _ _ => 0)) : ed_Ct g l mB_init 2 4 164 [.ref 69] (true, [.inl (0, [.inl (some 1), .inl (some 6), .inl (some 14), .inl none, .inl none, .inr false, .inr false, .inr false]), .inl (1, [.inr false, .inl (some 2), .inl (some 3), .inl (some 4), .inl (some 5)]), .inr (0, 41, 0), .inr (2, 41, 0), .inr (2, 41, 0), .inr (2, 41, 0), .inl (2, [.inl (some 7), .inl (some 8), .inl (some 9), .inl (some 10), .inl (some 11), .inl (some 12), .inl (some 13)]), .inr (1, 41, 0), .inr (2, 41, 0), .inr (1, 41, 0), .inr (1, 41, 0), .inr (2, 41, 0), .inr (0, 41, 0), .inr (0, 41, 0), .inl (3, [.inl (some 15), .inl (some 16), .inl (some 17), .inl (some 18), .inl (some 19), .inl (some 61), .inl (some 62), .inl (some 63), .inl (some 64), .inl (some 65), .inl (some 66), .inl (some 67), .inl (some 68)]), .inr (0, 41, 0), .inr (2, 41, 0), .inr (0, 41, 0), .inr (1, 41, 0), .inr (3, 41, 20), .inr (0, 5, 0), .inr (0, 5, 0), .inr (0, 5, 0), .inr (0, 5, 0), .inr (0, 5, 0), .inr (0, 5, 0), .inr (0, 5, 0), .inr (0, 5, 0), .inr (0, 5, 0), .inr (0, 5, 0), .inr (0, 5, 0), .inr (0, 5, 0), .inr (0, 5, 0), .inr (0, 5, 0), .inr (0, 5, 0), .inr (0, 5, 0), .inr (0, 5, 0), .inr (0, 5, 0), .inr (0, 5, 0), .inr (0, 5, 0), .inr (0, 5, 0), .inr (0, 5, 0), .inr (0, 5, 0), .inr (0, 5, 0), .inr (0, 5, 0), .inr (0, 5, 0), .inr (0, 5, 0), .inr (0, 5, 0), .inr (0, 5, 0), .inr (0, 5, 0), .inr (0, 5, 0), .inr (0, 5, 0), .inr (0, 5, 0), .inr (0, 5, 0), .inr (0, 5, 0), .inr (0, 5, 0), .inr (0, 5, 0), .inr (0, 5, 0), .inr (0, 5, 0), .inr (0, 5, 0), .inr (0, 5, 0), .inr (0, 41, 0), .inr (0, 41, 0), .inr (2, 41, 0), .inr (2, 41, 0), .inr (2, 41, 0), .inr (2, 41, 0), .inr (2, 41, 0), .inr (2, 41, 0), .inl (4, [.inl none, .inl none, .inl none, .inl none])]) (fun _ _ => 0) (fun _ _ => 0) post := by
  refine ed_Ct.of hl rfl (Nat.le_of_ble_eq_true rfl) (fun x _ C => ?_)
  show Gd g x post _ _ _ _ _ _ _ _ 0 [(0, _)] []
  refine r_ald C dB_init_0 rfl ?_
  refine r_obj C dB_init_1 (tb1 169 rfl) (tb1 22 rfl) (tb1 23 rfl) rfl rfl ⟨(Nat.le_of_ble_eq_true rfl), (Nat.le_of_ble_eq_true rfl)⟩ ?_
  refine r_ald C dB_init_4 rfl ?_
  refine r_ik C dB_init_5 ?_
  refine r_newa (N := 41) (k := 70) C dB_init_7 rfl (Or.inr (Or.inr ⟨rfl, rfl⟩)) (tb1 55 rfl) (by decide) (fun _ => rfl) (fun _ => rfl) ⟨(Nat.le_of_ble_eq_true rfl), (Nat.le_of_ble_eq_true rfl)⟩ rfl ?_
  refine r_putR C dB_init_9 rfl rfl (by decide) (fun q hq => by cases hq; exact ⟨rfl, rfl, .array (.long), by decide +kernel, rfl, rfl⟩) rfl ?_
  refine r_ald C dB_init_12 rfl ?_
  refine r_ik C dB_init_13 ?_
  refine r_newa (N := 41) (k := 71) C dB_init_15 rfl (Or.inl ⟨rfl, rfl⟩) (tb1 54 rfl) (by decide) (fun _ => rfl) (fun _ => rfl) ⟨(Nat.le_of_ble_eq_true rfl), (Nat.le_of_ble_eq_true rfl)⟩ rfl ?_
  refine r_putR C dB_init_17 rfl rfl (by decide) (fun q hq => by cases hq; exact ⟨rfl, rfl, .array (.int), by decide +kernel, rfl, rfl⟩) rfl ?_
  refine r_ald C dB_init_20 rfl ?_
  refine r_ik C dB_init_21 ?_
  refine r_newa (N := 41) (k := 72) C dB_init_23 rfl (Or.inr (Or.inr ⟨rfl, rfl⟩)) (tb1 55 rfl) (by decide) (fun _ => rfl) (fun _ => rfl) ⟨(Nat.le_of_ble_eq_true rfl), (Nat.le_of_ble_eq_true rfl)⟩ rfl ?_
  refine r_putR C dB_init_25 rfl rfl (by decide) (fun q hq => by cases hq; exact ⟨rfl, rfl, .array (.long), by decide +kernel, rfl, rfl⟩) rfl ?_
  refine r_ald C dB_init_28 rfl ?_
  refine r_ik C dB_init_29 ?_
  refine r_newa (N := 41) (k := 73) C dB_init_31 rfl (Or.inr (Or.inr ⟨rfl, rfl⟩)) (tb1 55 rfl) (by decide) (fun _ => rfl) (fun _ => rfl) ⟨(Nat.le_of_ble_eq_true rfl), (Nat.le_of_ble_eq_true rfl)⟩ rfl ?_
  refine r_putR C dB_init_33 rfl rfl (by decide) (fun q hq => by cases hq; exact ⟨rfl, rfl, .array (.long), by decide +kernel, rfl, rfl⟩) rfl ?_
  exact r_vret C dB_init_36 rfl (Nat.le_of_ble_eq_true rfl) (Nat.le_of_ble_eq_true rfl) hn
set_option maxRecDepth 100000 in
set_option maxHeartbeats 4000000 in
theorem cT_init {g : ed_g} {l : Launch} (hl : l.stackTraces = false) {post : ed_post} (hn : post (.inl none) (true, [.inl (0, [.inl (some 1), .inl (some 6), .inl (some 14), .inl (some 69), .inl none, .inr false, .inr false, .inr false]), .inl (1, [.inr false, .inl (some 2), .inl (some 3), .inl (some 4), .inl (some 5)]), .inr (0, 41, 0), .inr (2, 41, 0), .inr (2, 41, 0), .inr (2, 41, 0), .inl (2, [.inl (some 7), .inl (some 8), .inl (some 9), .inl (some 10), .inl (some 11), .inl (some 12), .inl (some 13)]), .inr (1, 41, 0), .inr (2, 41, 0), .inr (1, 41, 0), .inr (1, 41, 0), .inr (2, 41, 0), .inr (0, 41, 0), .inr (0, 41, 0), .inl (3, [.inl (some 15), .inl (some 16), .inl (some 17), .inl (some 18), .inl (some 19), .inl (some 61), .inl (some 62), .inl (some 63), .inl (some 64), .inl (some 65), .inl (some 66), .inl (some 67), .inl (some 68)]), .inr (0, 41, 0), .inr (2, 41, 0), .inr (0, 41, 0), .inr (1, 41, 0), .inr (3, 41, 20), .inr (0, 5, 0), .inr (0, 5, 0), .inr (0, 5, 0), .inr (0, 5, 0), .inr (0, 5, 0), .inr (0, 5, 0), .inr (0, 5, 0), .inr (0, 5, 0), .inr (0, 5, 0), .inr (0, 5, 0), .inr (0, 5, 0), .inr (0, 5, 0), .inr (0, 5, 0), .inr (0, 5, 0), .inr (0, 5, 0), .inr (0, 5, 0), .inr (0, 5, 0), .inr (0, 5, 0), .inr (0, 5, 0), .inr (0, 5, 0), .inr (0, 5, 0), .inr (0, 5, 0), .inr (0, 5, 0), .inr (0, 5, 0), .inr (0, 5, 0), .inr (0, 5, 0), .inr (0, 5, 0), .inr (0, 5, 0), .inr (0, 5, 0), .inr (0, 5, 0), .inr (0, 5, 0), .inr (0, 5, 0), .inr (0, 5, 0), .inr (0, 5, 0), .inr (0, 5, 0), .inr (0, 5, 0), .inr (0, 5, 0), .inr (0, 5, 0), .inr (0, 5, 0), .inr (0, 5, 0), .inr (0, 5, 0), .inr (0, 41, 0), .inr (0, 41, 0), .inr (2, 41, 0), .inr (2, 41, 0), .inr (2, 41, 0), .inr (2, 41, 0), .inr (2, 41, 0), .inr (2, 41, 0), .inl (4, [.inl (some 70), .inl (some 71), .inl (some 72), .inl (some 73)]), .inr (2, 41, 0), .inr (0, 41, 0), .inr (2, 41, 0), .inr (2, 41, 0), .inl (5, [.inl none, .inl none, .inl none, .inl none, .inl none, .inl none, .inr true]), .inl (6, [.inl (some 76), .inl (some 77)]), .inr (2, 41, 0), .inr (2, 41, 0)]) (fun _ _ => 0) (fun _ _ => 0)) : ed_Ct g l mT_init 1 2 82 [.ref 75] (true, [.inl (0, [.inl (some 1), .inl (some 6), .inl (some 14), .inl (some 69), .inl none, .inr false, .inr false, .inr false]), .inl (1, [.inr false, .inl (some 2), .inl (some 3), .inl (some 4), .inl (some 5)]), .inr (0, 41, 0), .inr (2, 41, 0), .inr (2, 41, 0), .inr (2, 41, 0), .inl (2, [.inl (some 7), .inl (some 8), .inl (some 9), .inl (some 10), .inl (some 11), .inl (some 12), .inl (some 13)]), .inr (1, 41, 0), .inr (2, 41, 0), .inr (1, 41, 0), .inr (1, 41, 0), .inr (2, 41, 0), .inr (0, 41, 0), .inr (0, 41, 0), .inl (3, [.inl (some 15), .inl (some 16), .inl (some 17), .inl (some 18), .inl (some 19), .inl (some 61), .inl (some 62), .inl (some 63), .inl (some 64), .inl (some 65), .inl (some 66), .inl (some 67), .inl (some 68)]), .inr (0, 41, 0), .inr (2, 41, 0), .inr (0, 41, 0), .inr (1, 41, 0), .inr (3, 41, 20), .inr (0, 5, 0), .inr (0, 5, 0), .inr (0, 5, 0), .inr (0, 5, 0), .inr (0, 5, 0), .inr (0, 5, 0), .inr (0, 5, 0), .inr (0, 5, 0), .inr (0, 5, 0), .inr (0, 5, 0), .inr (0, 5, 0), .inr (0, 5, 0), .inr (0, 5, 0), .inr (0, 5, 0), .inr (0, 5, 0), .inr (0, 5, 0), .inr (0, 5, 0), .inr (0, 5, 0), .inr (0, 5, 0), .inr (0, 5, 0), .inr (0, 5, 0), .inr (0, 5, 0), .inr (0, 5, 0), .inr (0, 5, 0), .inr (0, 5, 0), .inr (0, 5, 0), .inr (0, 5, 0), .inr (0, 5, 0), .inr (0, 5, 0), .inr (0, 5, 0), .inr (0, 5, 0), .inr (0, 5, 0), .inr (0, 5, 0), .inr (0, 5, 0), .inr (0, 5, 0), .inr (0, 5, 0), .inr (0, 5, 0), .inr (0, 5, 0), .inr (0, 5, 0), .inr (0, 5, 0), .inr (0, 5, 0), .inr (0, 41, 0), .inr (0, 41, 0), .inr (2, 41, 0), .inr (2, 41, 0), .inr (2, 41, 0), .inr (2, 41, 0), .inr (2, 41, 0), .inr (2, 41, 0), .inl (4, [.inl (some 70), .inl (some 71), .inl (some 72), .inl (some 73)]), .inr (2, 41, 0), .inr (0, 41, 0), .inr (2, 41, 0), .inr (2, 41, 0), .inl (5, [.inl none, .inl none, .inl none, .inl none, .inl none, .inl none, .inr true]), .inl (6, [.inl none, .inl none])]) (fun _ _ => 0) (fun _ _ => 0) post := by
  refine ed_Ct.of hl rfl (Nat.le_of_ble_eq_true rfl) (fun x _ C => ?_)
  show Gd g x post _ _ _ _ _ _ _ _ 0 [(0, _)] []
  refine r_ald C dT_init_0 rfl ?_
  refine r_obj C dT_init_1 (tb1 201 rfl) (tb1 22 rfl) (tb1 23 rfl) rfl rfl ⟨(Nat.le_of_ble_eq_true rfl), (Nat.le_of_ble_eq_true rfl)⟩ ?_
  refine r_ald C dT_init_4 rfl ?_
  refine r_ik C dT_init_5 ?_
  refine r_newa (N := 41) (k := 76) C dT_init_7 rfl (Or.inr (Or.inr ⟨rfl, rfl⟩)) (tb1 55 rfl) (by decide) (fun _ => rfl) (fun _ => rfl) ⟨(Nat.le_of_ble_eq_true rfl), (Nat.le_of_ble_eq_true rfl)⟩ rfl ?_
  refine r_putR C dT_init_9 rfl rfl (by decide) (fun q hq => by cases hq; exact ⟨rfl, rfl, .array (.long), by decide +kernel, rfl, rfl⟩) rfl ?_
  refine r_ald C dT_init_12 rfl ?_
  refine r_ik C dT_init_13 ?_
  refine r_newa (N := 41) (k := 77) C dT_init_15 rfl (Or.inr (Or.inr ⟨rfl, rfl⟩)) (tb1 55 rfl) (by decide) (fun _ => rfl) (fun _ => rfl) ⟨(Nat.le_of_ble_eq_true rfl), (Nat.le_of_ble_eq_true rfl)⟩ rfl ?_
  refine r_putR C dT_init_17 rfl rfl (by decide) (fun q hq => by cases hq; exact ⟨rfl, rfl, .array (.long), by decide +kernel, rfl, rfl⟩) rfl ?_
  exact r_vret C dT_init_20 rfl (Nat.le_of_ble_eq_true rfl) (Nat.le_of_ble_eq_true rfl) hn
set_option maxRecDepth 100000 in
set_option maxHeartbeats 4000000 in
theorem cS_init {g : ed_g} {l : Launch} (hl : l.stackTraces = false) {post : ed_post} (hn : post (.inl none) (true, [.inl (0, [.inl (some 1), .inl (some 6), .inl (some 14), .inl (some 69), .inl none, .inr false, .inr false, .inr false]), .inl (1, [.inr false, .inl (some 2), .inl (some 3), .inl (some 4), .inl (some 5)]), .inr (0, 41, 0), .inr (2, 41, 0), .inr (2, 41, 0), .inr (2, 41, 0), .inl (2, [.inl (some 7), .inl (some 8), .inl (some 9), .inl (some 10), .inl (some 11), .inl (some 12), .inl (some 13)]), .inr (1, 41, 0), .inr (2, 41, 0), .inr (1, 41, 0), .inr (1, 41, 0), .inr (2, 41, 0), .inr (0, 41, 0), .inr (0, 41, 0), .inl (3, [.inl (some 15), .inl (some 16), .inl (some 17), .inl (some 18), .inl (some 19), .inl (some 61), .inl (some 62), .inl (some 63), .inl (some 64), .inl (some 65), .inl (some 66), .inl (some 67), .inl (some 68)]), .inr (0, 41, 0), .inr (2, 41, 0), .inr (0, 41, 0), .inr (1, 41, 0), .inr (3, 41, 20), .inr (0, 5, 0), .inr (0, 5, 0), .inr (0, 5, 0), .inr (0, 5, 0), .inr (0, 5, 0), .inr (0, 5, 0), .inr (0, 5, 0), .inr (0, 5, 0), .inr (0, 5, 0), .inr (0, 5, 0), .inr (0, 5, 0), .inr (0, 5, 0), .inr (0, 5, 0), .inr (0, 5, 0), .inr (0, 5, 0), .inr (0, 5, 0), .inr (0, 5, 0), .inr (0, 5, 0), .inr (0, 5, 0), .inr (0, 5, 0), .inr (0, 5, 0), .inr (0, 5, 0), .inr (0, 5, 0), .inr (0, 5, 0), .inr (0, 5, 0), .inr (0, 5, 0), .inr (0, 5, 0), .inr (0, 5, 0), .inr (0, 5, 0), .inr (0, 5, 0), .inr (0, 5, 0), .inr (0, 5, 0), .inr (0, 5, 0), .inr (0, 5, 0), .inr (0, 5, 0), .inr (0, 5, 0), .inr (0, 5, 0), .inr (0, 5, 0), .inr (0, 5, 0), .inr (0, 5, 0), .inr (0, 5, 0), .inr (0, 41, 0), .inr (0, 41, 0), .inr (2, 41, 0), .inr (2, 41, 0), .inr (2, 41, 0), .inr (2, 41, 0), .inr (2, 41, 0), .inr (2, 41, 0), .inl (4, [.inl (some 70), .inl (some 71), .inl (some 72), .inl (some 73)]), .inr (2, 41, 0), .inr (0, 41, 0), .inr (2, 41, 0), .inr (2, 41, 0), .inl (5, [.inl (some 1), .inl (some 6), .inl (some 14), .inl (some 69), .inl (some 75), .inl (some 78), .inr true]), .inl (6, [.inl (some 76), .inl (some 77)]), .inr (2, 41, 0), .inr (2, 41, 0), .inr (2, 8, 0)]) (fun _ _ => 0) (fun _ _ => 0)) : ed_Ct g l mS_init 2 4 92 [.ref 74, .ref 1, .ref 6, .ref 14, .ref 69] (true, [.inl (0, [.inl (some 1), .inl (some 6), .inl (some 14), .inl (some 69), .inl none, .inr false, .inr false, .inr false]), .inl (1, [.inr false, .inl (some 2), .inl (some 3), .inl (some 4), .inl (some 5)]), .inr (0, 41, 0), .inr (2, 41, 0), .inr (2, 41, 0), .inr (2, 41, 0), .inl (2, [.inl (some 7), .inl (some 8), .inl (some 9), .inl (some 10), .inl (some 11), .inl (some 12), .inl (some 13)]), .inr (1, 41, 0), .inr (2, 41, 0), .inr (1, 41, 0), .inr (1, 41, 0), .inr (2, 41, 0), .inr (0, 41, 0), .inr (0, 41, 0), .inl (3, [.inl (some 15), .inl (some 16), .inl (some 17), .inl (some 18), .inl (some 19), .inl (some 61), .inl (some 62), .inl (some 63), .inl (some 64), .inl (some 65), .inl (some 66), .inl (some 67), .inl (some 68)]), .inr (0, 41, 0), .inr (2, 41, 0), .inr (0, 41, 0), .inr (1, 41, 0), .inr (3, 41, 20), .inr (0, 5, 0), .inr (0, 5, 0), .inr (0, 5, 0), .inr (0, 5, 0), .inr (0, 5, 0), .inr (0, 5, 0), .inr (0, 5, 0), .inr (0, 5, 0), .inr (0, 5, 0), .inr (0, 5, 0), .inr (0, 5, 0), .inr (0, 5, 0), .inr (0, 5, 0), .inr (0, 5, 0), .inr (0, 5, 0), .inr (0, 5, 0), .inr (0, 5, 0), .inr (0, 5, 0), .inr (0, 5, 0), .inr (0, 5, 0), .inr (0, 5, 0), .inr (0, 5, 0), .inr (0, 5, 0), .inr (0, 5, 0), .inr (0, 5, 0), .inr (0, 5, 0), .inr (0, 5, 0), .inr (0, 5, 0), .inr (0, 5, 0), .inr (0, 5, 0), .inr (0, 5, 0), .inr (0, 5, 0), .inr (0, 5, 0), .inr (0, 5, 0), .inr (0, 5, 0), .inr (0, 5, 0), .inr (0, 5, 0), .inr (0, 5, 0), .inr (0, 5, 0), .inr (0, 5, 0), .inr (0, 5, 0), .inr (0, 41, 0), .inr (0, 41, 0), .inr (2, 41, 0), .inr (2, 41, 0), .inr (2, 41, 0), .inr (2, 41, 0), .inr (2, 41, 0), .inr (2, 41, 0), .inl (4, [.inl (some 70), .inl (some 71), .inl (some 72), .inl (some 73)]), .inr (2, 41, 0), .inr (0, 41, 0), .inr (2, 41, 0), .inr (2, 41, 0), .inl (5, [.inl none, .inl none, .inl none, .inl none, .inl none, .inl none, .inr true])]) (fun _ _ => 0) (fun _ _ => 0) post := by
  refine ed_Ct.of hl rfl (Nat.le_of_ble_eq_true rfl) (fun x _ C => ?_)
  show Gd g x post _ _ _ _ _ _ _ _ 0 [(0, _), (1, _), (2, _), (3, _), (4, _)] []
  refine r_ald C dS_init_0 rfl ?_
  refine r_obj C dS_init_1 (tb1 195 rfl) (tb1 22 rfl) (tb1 23 rfl) rfl rfl ⟨(Nat.le_of_ble_eq_true rfl), (Nat.le_of_ble_eq_true rfl)⟩ ?_
  refine r_ald C dS_init_4 rfl ?_
  refine r_new (ci := 6) (k := 75) (r := ("EstateDesk$Split", eT6, 2)) C dS_init_5 rfl rfl (tb1 196 rfl) (tb1 197 rfl) (tb1 7 rfl) [.inl none, .inl none] (en6 g _) ⟨(Nat.le_of_ble_eq_true rfl), (Nat.le_of_ble_eq_true rfl)⟩ rfl ?_
  refine r_dup C dS_init_8 rfl ?_
  refine r_callI C lzT_init ⟨11, dS_init_9.1, rfl, Or.inr ⟨"EstateDesk", tb1 198 rfl⟩, tb1 199 rfl, rfl, rfl⟩ 75 [] [_, _] rfl rfl (Nat.le_of_ble_eq_true rfl) ⟨(Nat.le_of_ble_eq_true rfl), (Nat.le_of_ble_eq_true rfl), (Nat.le_of_ble_eq_true rfl), (Nat.le_of_ble_eq_true rfl)⟩ rfl (cT_init C.2.2.2.2.2.1 ?_)
  refine r_putR C dS_init_12 rfl rfl (by decide) (fun q hq => by cases hq; exact ⟨rfl, rfl, .object "EstateDesk$Split", by decide +kernel, rfl, rfl⟩) rfl ?_
  refine r_ald C dS_init_15 rfl ?_
  refine r_ik C dS_init_16 ?_
  refine r_newa (N := 8) (k := 78) C dS_init_18 rfl (Or.inr (Or.inr ⟨rfl, rfl⟩)) (tb1 55 rfl) (by decide) (fun _ => rfl) (fun _ => rfl) ⟨(Nat.le_of_ble_eq_true rfl), (Nat.le_of_ble_eq_true rfl)⟩ rfl ?_
  refine r_putR C dS_init_20 rfl rfl (by decide) (fun q hq => by cases hq; exact ⟨rfl, rfl, .array (.long), by decide +kernel, rfl, rfl⟩) rfl ?_
  refine r_ald C dS_init_23 rfl ?_
  refine r_ald C dS_init_24 rfl ?_
  refine r_putR C dS_init_25 rfl rfl (by decide) (fun q hq => by cases hq; exact ⟨rfl, rfl, .object "EstateDesk$Persons", by decide +kernel, rfl, rfl⟩) rfl ?_
  refine r_ald C dS_init_28 rfl ?_
  refine r_ald C dS_init_29 rfl ?_
  refine r_putR C dS_init_30 rfl rfl (by decide) (fun q hq => by cases hq; exact ⟨rfl, rfl, .object "EstateDesk$Assets", by decide +kernel, rfl, rfl⟩) rfl ?_
  refine r_ald C dS_init_33 rfl ?_
  refine r_ald C dS_init_34 rfl ?_
  refine r_putR C dS_init_35 rfl rfl (by decide) (fun q hq => by cases hq; exact ⟨rfl, rfl, .object "EstateDesk$Clauses", by decide +kernel, rfl, rfl⟩) rfl ?_
  refine r_ald C dS_init_38 rfl ?_
  refine r_ald C dS_init_39 rfl ?_
  refine r_putR C dS_init_41 rfl rfl (by decide) (fun q hq => by cases hq; exact ⟨rfl, rfl, .object "EstateDesk$Debts", by decide +kernel, rfl, rfl⟩) rfl ?_
  exact r_vret C dS_init_44 rfl (Nat.le_of_ble_eq_true rfl) (Nat.le_of_ble_eq_true rfl) hn
set_option maxRecDepth 100000 in
set_option maxHeartbeats 4000000 in
theorem cD_init {g : ed_g} {l : Launch} (hl : l.stackTraces = false) {post : ed_post} (hn : post (.inl none) (true, [.inl (0, [.inl (some 1), .inl (some 6), .inl (some 14), .inl (some 69), .inl (some 74), .inr false, .inr false, .inr false]), .inl (1, [.inr false, .inl (some 2), .inl (some 3), .inl (some 4), .inl (some 5)]), .inr (0, 41, 0), .inr (2, 41, 0), .inr (2, 41, 0), .inr (2, 41, 0), .inl (2, [.inl (some 7), .inl (some 8), .inl (some 9), .inl (some 10), .inl (some 11), .inl (some 12), .inl (some 13)]), .inr (1, 41, 0), .inr (2, 41, 0), .inr (1, 41, 0), .inr (1, 41, 0), .inr (2, 41, 0), .inr (0, 41, 0), .inr (0, 41, 0), .inl (3, [.inl (some 15), .inl (some 16), .inl (some 17), .inl (some 18), .inl (some 19), .inl (some 61), .inl (some 62), .inl (some 63), .inl (some 64), .inl (some 65), .inl (some 66), .inl (some 67), .inl (some 68)]), .inr (0, 41, 0), .inr (2, 41, 0), .inr (0, 41, 0), .inr (1, 41, 0), .inr (3, 41, 20), .inr (0, 5, 0), .inr (0, 5, 0), .inr (0, 5, 0), .inr (0, 5, 0), .inr (0, 5, 0), .inr (0, 5, 0), .inr (0, 5, 0), .inr (0, 5, 0), .inr (0, 5, 0), .inr (0, 5, 0), .inr (0, 5, 0), .inr (0, 5, 0), .inr (0, 5, 0), .inr (0, 5, 0), .inr (0, 5, 0), .inr (0, 5, 0), .inr (0, 5, 0), .inr (0, 5, 0), .inr (0, 5, 0), .inr (0, 5, 0), .inr (0, 5, 0), .inr (0, 5, 0), .inr (0, 5, 0), .inr (0, 5, 0), .inr (0, 5, 0), .inr (0, 5, 0), .inr (0, 5, 0), .inr (0, 5, 0), .inr (0, 5, 0), .inr (0, 5, 0), .inr (0, 5, 0), .inr (0, 5, 0), .inr (0, 5, 0), .inr (0, 5, 0), .inr (0, 5, 0), .inr (0, 5, 0), .inr (0, 5, 0), .inr (0, 5, 0), .inr (0, 5, 0), .inr (0, 5, 0), .inr (0, 5, 0), .inr (0, 41, 0), .inr (0, 41, 0), .inr (2, 41, 0), .inr (2, 41, 0), .inr (2, 41, 0), .inr (2, 41, 0), .inr (2, 41, 0), .inr (2, 41, 0), .inl (4, [.inl (some 70), .inl (some 71), .inl (some 72), .inl (some 73)]), .inr (2, 41, 0), .inr (0, 41, 0), .inr (2, 41, 0), .inr (2, 41, 0), .inl (5, [.inl (some 1), .inl (some 6), .inl (some 14), .inl (some 69), .inl (some 75), .inl (some 78), .inr true]), .inl (6, [.inl (some 76), .inl (some 77)]), .inr (2, 41, 0), .inr (2, 41, 0), .inr (2, 8, 0)]) (fun _ _ => 0) (fun _ _ => 0)) : ed_Ct g l mD_init 3 78 1481 [.ref 0] (true, [.inl (0, [.inl none, .inl none, .inl none, .inl none, .inl none, .inr false, .inr false, .inr false])]) (fun _ _ => 0) (fun _ _ => 0) post := by
  refine ed_Ct.of hl rfl (Nat.le_of_ble_eq_true rfl) (fun x _ C => ?_)
  show Gd g x post _ _ _ _ _ _ _ _ 0 [(0, _)] []
  refine r_ald C dD_init_0 rfl ?_
  refine r_obj C dD_init_1 (tb1 21 rfl) (tb1 22 rfl) (tb1 23 rfl) rfl rfl ⟨(Nat.le_of_ble_eq_true rfl), (Nat.le_of_ble_eq_true rfl)⟩ ?_
  refine r_ald C dD_init_4 rfl ?_
  refine r_new (ci := 1) (k := 1) (r := ("EstateDesk$Persons", eT1, 5)) C dD_init_5 rfl rfl (tb1 24 rfl) (tb1 25 rfl) (tb1 2 rfl) [.inr false, .inl none, .inl none, .inl none, .inl none] (en1 g _) ⟨(Nat.le_of_ble_eq_true rfl), (Nat.le_of_ble_eq_true rfl)⟩ rfl ?_
  refine r_dup C dD_init_8 rfl ?_
  refine r_callI C lzP_init ⟨9, dD_init_9.1, rfl, Or.inr ⟨"EstateDesk", tb1 26 rfl⟩, tb1 27 rfl, rfl, rfl⟩ 1 [] [_, _] rfl rfl (Nat.le_of_ble_eq_true rfl) ⟨(Nat.le_of_ble_eq_true rfl), (Nat.le_of_ble_eq_true rfl), (Nat.le_of_ble_eq_true rfl), (Nat.le_of_ble_eq_true rfl)⟩ rfl (cP_init C.2.2.2.2.2.1 ?_)
  refine r_putR C dD_init_12 rfl rfl (by decide) (fun q hq => by cases hq; exact ⟨rfl, rfl, .object "EstateDesk$Persons", by decide +kernel, rfl, rfl⟩) rfl ?_
  refine r_ald C dD_init_15 rfl ?_
  refine r_new (ci := 2) (k := 6) (r := ("EstateDesk$Assets", eT2, 7)) C dD_init_16 rfl rfl (tb1 56 rfl) (tb1 57 rfl) (tb1 3 rfl) [.inl none, .inl none, .inl none, .inl none, .inl none, .inl none, .inl none] (en2 g _) ⟨(Nat.le_of_ble_eq_true rfl), (Nat.le_of_ble_eq_true rfl)⟩ rfl ?_
  refine r_dup C dD_init_19 rfl ?_
  refine r_callI C lzA_init ⟨18, dD_init_20.1, rfl, Or.inr ⟨"EstateDesk", tb1 58 rfl⟩, tb1 59 rfl, rfl, rfl⟩ 6 [] [_, _] rfl rfl (Nat.le_of_ble_eq_true rfl) ⟨(Nat.le_of_ble_eq_true rfl), (Nat.le_of_ble_eq_true rfl), (Nat.le_of_ble_eq_true rfl), (Nat.le_of_ble_eq_true rfl)⟩ rfl (cA_init C.2.2.2.2.2.1 ?_)
  refine r_putR C dD_init_23 rfl rfl (by decide) (fun q hq => by cases hq; exact ⟨rfl, rfl, .object "EstateDesk$Assets", by decide +kernel, rfl, rfl⟩) rfl ?_
  refine r_ald C dD_init_26 rfl ?_
  refine r_new (ci := 3) (k := 14) (r := ("EstateDesk$Clauses", eT3, 13)) C dD_init_27 rfl rfl (tb1 95 rfl) (tb1 96 rfl) (tb1 4 rfl) [.inl none, .inl none, .inl none, .inl none, .inl none, .inl none, .inl none, .inl none, .inl none, .inl none, .inl none, .inl none, .inl none] (en3 g _) ⟨(Nat.le_of_ble_eq_true rfl), (Nat.le_of_ble_eq_true rfl)⟩ rfl ?_
  refine r_dup C dD_init_30 rfl ?_
  refine r_callI C lzC_init ⟨25, dD_init_31.1, rfl, Or.inr ⟨"EstateDesk", tb1 97 rfl⟩, tb1 98 rfl, rfl, rfl⟩ 14 [] [_, _] rfl rfl (Nat.le_of_ble_eq_true rfl) ⟨(Nat.le_of_ble_eq_true rfl), (Nat.le_of_ble_eq_true rfl), (Nat.le_of_ble_eq_true rfl), (Nat.le_of_ble_eq_true rfl)⟩ rfl (cC_init C.2.2.2.2.2.1 ?_)
  refine r_putR C dD_init_34 rfl rfl (by decide) (fun q hq => by cases hq; exact ⟨rfl, rfl, .object "EstateDesk$Clauses", by decide +kernel, rfl, rfl⟩) rfl ?_
  refine r_ald C dD_init_37 rfl ?_
  refine r_new (ci := 4) (k := 69) (r := ("EstateDesk$Debts", eT4, 4)) C dD_init_38 rfl rfl (tb1 164 rfl) (tb1 165 rfl) (tb1 5 rfl) [.inl none, .inl none, .inl none, .inl none] (en4 g _) ⟨(Nat.le_of_ble_eq_true rfl), (Nat.le_of_ble_eq_true rfl)⟩ rfl ?_
  refine r_dup C dD_init_41 rfl ?_
  refine r_callI C lzB_init ⟨32, dD_init_42.1, rfl, Or.inr ⟨"EstateDesk", tb1 166 rfl⟩, tb1 167 rfl, rfl, rfl⟩ 69 [] [_, _] rfl rfl (Nat.le_of_ble_eq_true rfl) ⟨(Nat.le_of_ble_eq_true rfl), (Nat.le_of_ble_eq_true rfl), (Nat.le_of_ble_eq_true rfl), (Nat.le_of_ble_eq_true rfl)⟩ rfl (cB_init C.2.2.2.2.2.1 ?_)
  refine r_putR C dD_init_45 rfl rfl (by decide) (fun q hq => by cases hq; exact ⟨rfl, rfl, .object "EstateDesk$Debts", by decide +kernel, rfl, rfl⟩) rfl ?_
  refine r_ald C dD_init_48 rfl ?_
  refine r_new (ci := 5) (k := 74) (r := ("EstateDesk$Settling", eT5, 7)) C dD_init_49 rfl rfl (tb1 190 rfl) (tb1 191 rfl) (tb1 6 rfl) [.inl none, .inl none, .inl none, .inl none, .inl none, .inl none, .inr true] (en5 g _) ⟨(Nat.le_of_ble_eq_true rfl), (Nat.le_of_ble_eq_true rfl)⟩ rfl ?_
  refine r_dup C dD_init_52 rfl ?_
  refine r_ald C dD_init_53 rfl ?_
  refine r_getR C dD_init_54 rfl rfl ?_
  refine r_ald C dD_init_57 rfl ?_
  refine r_getR C dD_init_58 rfl rfl ?_
  refine r_ald C dD_init_61 rfl ?_
  refine r_getR C dD_init_62 rfl rfl ?_
  refine r_ald C dD_init_65 rfl ?_
  refine r_getR C dD_init_66 rfl rfl ?_
  refine r_callI C lzS_init ⟨39, dD_init_69.1, rfl, Or.inl (tb1 192 rfl), tb1 193 rfl, rfl, rfl⟩ 74 [_, _, _, _] [_, _] rfl rfl (Nat.le_of_ble_eq_true rfl) ⟨(Nat.le_of_ble_eq_true rfl), (Nat.le_of_ble_eq_true rfl), (Nat.le_of_ble_eq_true rfl), (Nat.le_of_ble_eq_true rfl)⟩ rfl (cS_init C.2.2.2.2.2.1 ?_)
  refine r_putR C dD_init_72 rfl rfl (by decide) (fun q hq => by cases hq; exact ⟨rfl, rfl, .object "EstateDesk$Settling", by decide +kernel, rfl, rfl⟩) rfl ?_
  exact r_vret C dD_init_75 rfl (Nat.le_of_ble_eq_true rfl) (Nat.le_of_ble_eq_true rfl) hn
set_option maxRecDepth 100000 in
set_option maxHeartbeats 4000000 in
theorem cM_init {g : ed_g} {l : Launch} (hl : l.stackTraces = false) {post : ed_post} (hn : post (.inl none) (true, [.inl (0, [.inl (some 1), .inl (some 6), .inl (some 14), .inl (some 69), .inl (some 74), .inr false, .inr false, .inr false]), .inl (1, [.inr false, .inl (some 2), .inl (some 3), .inl (some 4), .inl (some 5)]), .inr (0, 41, 0), .inr (2, 41, 0), .inr (2, 41, 0), .inr (2, 41, 0), .inl (2, [.inl (some 7), .inl (some 8), .inl (some 9), .inl (some 10), .inl (some 11), .inl (some 12), .inl (some 13)]), .inr (1, 41, 0), .inr (2, 41, 0), .inr (1, 41, 0), .inr (1, 41, 0), .inr (2, 41, 0), .inr (0, 41, 0), .inr (0, 41, 0), .inl (3, [.inl (some 15), .inl (some 16), .inl (some 17), .inl (some 18), .inl (some 19), .inl (some 61), .inl (some 62), .inl (some 63), .inl (some 64), .inl (some 65), .inl (some 66), .inl (some 67), .inl (some 68)]), .inr (0, 41, 0), .inr (2, 41, 0), .inr (0, 41, 0), .inr (1, 41, 0), .inr (3, 41, 20), .inr (0, 5, 0), .inr (0, 5, 0), .inr (0, 5, 0), .inr (0, 5, 0), .inr (0, 5, 0), .inr (0, 5, 0), .inr (0, 5, 0), .inr (0, 5, 0), .inr (0, 5, 0), .inr (0, 5, 0), .inr (0, 5, 0), .inr (0, 5, 0), .inr (0, 5, 0), .inr (0, 5, 0), .inr (0, 5, 0), .inr (0, 5, 0), .inr (0, 5, 0), .inr (0, 5, 0), .inr (0, 5, 0), .inr (0, 5, 0), .inr (0, 5, 0), .inr (0, 5, 0), .inr (0, 5, 0), .inr (0, 5, 0), .inr (0, 5, 0), .inr (0, 5, 0), .inr (0, 5, 0), .inr (0, 5, 0), .inr (0, 5, 0), .inr (0, 5, 0), .inr (0, 5, 0), .inr (0, 5, 0), .inr (0, 5, 0), .inr (0, 5, 0), .inr (0, 5, 0), .inr (0, 5, 0), .inr (0, 5, 0), .inr (0, 5, 0), .inr (0, 5, 0), .inr (0, 5, 0), .inr (0, 5, 0), .inr (0, 41, 0), .inr (0, 41, 0), .inr (2, 41, 0), .inr (2, 41, 0), .inr (2, 41, 0), .inr (2, 41, 0), .inr (2, 41, 0), .inr (2, 41, 0), .inl (4, [.inl (some 70), .inl (some 71), .inl (some 72), .inl (some 73)]), .inr (2, 41, 0), .inr (0, 41, 0), .inr (2, 41, 0), .inr (2, 41, 0), .inl (5, [.inl (some 1), .inl (some 6), .inl (some 14), .inl (some 69), .inl (some 75), .inl (some 78), .inr true]), .inl (6, [.inl (some 76), .inl (some 77)]), .inr (2, 41, 0), .inr (2, 41, 0), .inr (2, 8, 0), .inl (7, [.inr false, .inr false, .inr false, .inr false, .inr false, .inl (some 80), .inl (some 81), .inl (some 82), .inl (some 83), .inl (some 84), .inl (some 85), .inl (some 86), .inl (some 87), .inl (some 88), .inl (some 89), .inl (some 90), .inl (some 91), .inl (some 92), .inl (some 93), .inl (some 94), .inl (some 95), .inl (some 96), .inl (some 97), .inl (some 98), .inl (some 99), .inl (some 100), .inl (some 101), .inl (some 102), .inl (some 103), .inl (some 104), .inl (some 105), .inl (some 106), .inl (some 107), .inl (some 108), .inl (some 109), .inl (some 110), .inl (some 111)]), .inr (0, 41, 0), .inr (1, 41, 0), .inr (2, 41, 0), .inr (1, 41, 0), .inr (1, 41, 0), .inr (0, 41, 0), .inr (0, 41, 0), .inr (2, 41, 0), .inr (0, 41, 0), .inr (1, 41, 0), .inr (0, 205, 0), .inr (1, 41, 0), .inr (2, 41, 0), .inr (0, 41, 0), .inr (0, 41, 0), .inr (0, 41, 0), .inr (2, 41, 0), .inr (2, 41, 0), .inr (2, 41, 0), .inr (2, 41, 0), .inr (2, 41, 0), .inr (2, 41, 0), .inr (2, 41, 0), .inr (2, 41, 0), .inr (2, 41, 0), .inr (2, 41, 0), .inr (2, 41, 0), .inr (0, 41, 0), .inr (2, 8, 0), .inr (2, 41, 0), .inr (2, 41, 0), .inr (2, 41, 0)]) (fun _ _ => 0) (fun _ _ => 0)) : ed_Ct g l mM_init 3 32 1443 [.ref 79] (true, [.inl (0, [.inl (some 1), .inl (some 6), .inl (some 14), .inl (some 69), .inl (some 74), .inr false, .inr false, .inr false]), .inl (1, [.inr false, .inl (some 2), .inl (some 3), .inl (some 4), .inl (some 5)]), .inr (0, 41, 0), .inr (2, 41, 0), .inr (2, 41, 0), .inr (2, 41, 0), .inl (2, [.inl (some 7), .inl (some 8), .inl (some 9), .inl (some 10), .inl (some 11), .inl (some 12), .inl (some 13)]), .inr (1, 41, 0), .inr (2, 41, 0), .inr (1, 41, 0), .inr (1, 41, 0), .inr (2, 41, 0), .inr (0, 41, 0), .inr (0, 41, 0), .inl (3, [.inl (some 15), .inl (some 16), .inl (some 17), .inl (some 18), .inl (some 19), .inl (some 61), .inl (some 62), .inl (some 63), .inl (some 64), .inl (some 65), .inl (some 66), .inl (some 67), .inl (some 68)]), .inr (0, 41, 0), .inr (2, 41, 0), .inr (0, 41, 0), .inr (1, 41, 0), .inr (3, 41, 20), .inr (0, 5, 0), .inr (0, 5, 0), .inr (0, 5, 0), .inr (0, 5, 0), .inr (0, 5, 0), .inr (0, 5, 0), .inr (0, 5, 0), .inr (0, 5, 0), .inr (0, 5, 0), .inr (0, 5, 0), .inr (0, 5, 0), .inr (0, 5, 0), .inr (0, 5, 0), .inr (0, 5, 0), .inr (0, 5, 0), .inr (0, 5, 0), .inr (0, 5, 0), .inr (0, 5, 0), .inr (0, 5, 0), .inr (0, 5, 0), .inr (0, 5, 0), .inr (0, 5, 0), .inr (0, 5, 0), .inr (0, 5, 0), .inr (0, 5, 0), .inr (0, 5, 0), .inr (0, 5, 0), .inr (0, 5, 0), .inr (0, 5, 0), .inr (0, 5, 0), .inr (0, 5, 0), .inr (0, 5, 0), .inr (0, 5, 0), .inr (0, 5, 0), .inr (0, 5, 0), .inr (0, 5, 0), .inr (0, 5, 0), .inr (0, 5, 0), .inr (0, 5, 0), .inr (0, 5, 0), .inr (0, 5, 0), .inr (0, 41, 0), .inr (0, 41, 0), .inr (2, 41, 0), .inr (2, 41, 0), .inr (2, 41, 0), .inr (2, 41, 0), .inr (2, 41, 0), .inr (2, 41, 0), .inl (4, [.inl (some 70), .inl (some 71), .inl (some 72), .inl (some 73)]), .inr (2, 41, 0), .inr (0, 41, 0), .inr (2, 41, 0), .inr (2, 41, 0), .inl (5, [.inl (some 1), .inl (some 6), .inl (some 14), .inl (some 69), .inl (some 75), .inl (some 78), .inr true]), .inl (6, [.inl (some 76), .inl (some 77)]), .inr (2, 41, 0), .inr (2, 41, 0), .inr (2, 8, 0), .inl (7, [.inr false, .inr false, .inr false, .inr false, .inr false, .inl none, .inl none, .inl none, .inl none, .inl none, .inl none, .inl none, .inl none, .inl none, .inl none, .inl none, .inl none, .inl none, .inl none, .inl none, .inl none, .inl none, .inl none, .inl none, .inl none, .inl none, .inl none, .inl none, .inl none, .inl none, .inl none, .inl none, .inl none, .inl none, .inl none, .inl none, .inl none])]) (fun _ _ => 0) (fun _ _ => 0) post := by
  refine ed_Ct.of hl rfl (Nat.le_of_ble_eq_true rfl) (fun x _ C => ?_)
  show Gd g x post _ _ _ _ _ _ _ _ 0 [(0, _)] []
  refine r_ald C dM_init_0 rfl ?_
  refine r_obj C dM_init_1 (tb3 186 rfl) (tb1 22 rfl) (tb1 23 rfl) rfl rfl ⟨(Nat.le_of_ble_eq_true rfl), (Nat.le_of_ble_eq_true rfl)⟩ ?_
  refine r_ald C dM_init_4 rfl ?_
  refine r_ik C dM_init_5 ?_
  refine r_newa (N := 41) (k := 80) C dM_init_7 rfl (Or.inl ⟨rfl, rfl⟩) (tb1 54 rfl) (by decide) (fun _ => rfl) (fun _ => rfl) ⟨(Nat.le_of_ble_eq_true rfl), (Nat.le_of_ble_eq_true rfl)⟩ rfl ?_
  refine r_putR C dM_init_9 rfl rfl (by decide) (fun q hq => by cases hq; exact ⟨rfl, rfl, .array (.int), by decide +kernel, rfl, rfl⟩) rfl ?_
  refine r_ald C dM_init_12 rfl ?_
  refine r_ik C dM_init_13 ?_
  refine r_newa (N := 41) (k := 81) C dM_init_15 rfl (Or.inr (Or.inl ⟨rfl, rfl⟩)) (tb1 94 rfl) (by decide) (fun _ => rfl) (fun _ => rfl) ⟨(Nat.le_of_ble_eq_true rfl), (Nat.le_of_ble_eq_true rfl)⟩ rfl ?_
  refine r_putR C dM_init_17 rfl rfl (by decide) (fun q hq => by cases hq; exact ⟨rfl, rfl, .array (.boolean), by decide +kernel, rfl, rfl⟩) rfl ?_
  refine r_ald C dM_init_20 rfl ?_
  refine r_ik C dM_init_21 ?_
  refine r_newa (N := 41) (k := 82) C dM_init_23 rfl (Or.inr (Or.inr ⟨rfl, rfl⟩)) (tb1 55 rfl) (by decide) (fun _ => rfl) (fun _ => rfl) ⟨(Nat.le_of_ble_eq_true rfl), (Nat.le_of_ble_eq_true rfl)⟩ rfl ?_
  refine r_putR C dM_init_25 rfl rfl (by decide) (fun q hq => by cases hq; exact ⟨rfl, rfl, .array (.long), by decide +kernel, rfl, rfl⟩) rfl ?_
  refine r_ald C dM_init_28 rfl ?_
  refine r_ik C dM_init_29 ?_
  refine r_newa (N := 41) (k := 83) C dM_init_31 rfl (Or.inr (Or.inl ⟨rfl, rfl⟩)) (tb1 94 rfl) (by decide) (fun _ => rfl) (fun _ => rfl) ⟨(Nat.le_of_ble_eq_true rfl), (Nat.le_of_ble_eq_true rfl)⟩ rfl ?_
  refine r_putR C dM_init_33 rfl rfl (by decide) (fun q hq => by cases hq; exact ⟨rfl, rfl, .array (.boolean), by decide +kernel, rfl, rfl⟩) rfl ?_
  refine r_ald C dM_init_36 rfl ?_
  refine r_ik C dM_init_37 ?_
  refine r_newa (N := 41) (k := 84) C dM_init_39 rfl (Or.inr (Or.inl ⟨rfl, rfl⟩)) (tb1 94 rfl) (by decide) (fun _ => rfl) (fun _ => rfl) ⟨(Nat.le_of_ble_eq_true rfl), (Nat.le_of_ble_eq_true rfl)⟩ rfl ?_
  refine r_putR C dM_init_41 rfl rfl (by decide) (fun q hq => by cases hq; exact ⟨rfl, rfl, .array (.boolean), by decide +kernel, rfl, rfl⟩) rfl ?_
  refine r_ald C dM_init_44 rfl ?_
  refine r_ik C dM_init_45 ?_
  refine r_newa (N := 41) (k := 85) C dM_init_47 rfl (Or.inl ⟨rfl, rfl⟩) (tb1 54 rfl) (by decide) (fun _ => rfl) (fun _ => rfl) ⟨(Nat.le_of_ble_eq_true rfl), (Nat.le_of_ble_eq_true rfl)⟩ rfl ?_
  refine r_putR C dM_init_49 rfl rfl (by decide) (fun q hq => by cases hq; exact ⟨rfl, rfl, .array (.int), by decide +kernel, rfl, rfl⟩) rfl ?_
  refine r_ald C dM_init_52 rfl ?_
  refine r_ik C dM_init_53 ?_
  refine r_newa (N := 41) (k := 86) C dM_init_55 rfl (Or.inl ⟨rfl, rfl⟩) (tb1 54 rfl) (by decide) (fun _ => rfl) (fun _ => rfl) ⟨(Nat.le_of_ble_eq_true rfl), (Nat.le_of_ble_eq_true rfl)⟩ rfl ?_
  refine r_putR C dM_init_57 rfl rfl (by decide) (fun q hq => by cases hq; exact ⟨rfl, rfl, .array (.int), by decide +kernel, rfl, rfl⟩) rfl ?_
  refine r_ald C dM_init_60 rfl ?_
  refine r_ik C dM_init_61 ?_
  refine r_newa (N := 41) (k := 87) C dM_init_63 rfl (Or.inr (Or.inr ⟨rfl, rfl⟩)) (tb1 55 rfl) (by decide) (fun _ => rfl) (fun _ => rfl) ⟨(Nat.le_of_ble_eq_true rfl), (Nat.le_of_ble_eq_true rfl)⟩ rfl ?_
  refine r_putR C dM_init_65 rfl rfl (by decide) (fun q hq => by cases hq; exact ⟨rfl, rfl, .array (.long), by decide +kernel, rfl, rfl⟩) rfl ?_
  refine r_ald C dM_init_68 rfl ?_
  refine r_ik C dM_init_69 ?_
  refine r_newa (N := 41) (k := 88) C dM_init_71 rfl (Or.inl ⟨rfl, rfl⟩) (tb1 54 rfl) (by decide) (fun _ => rfl) (fun _ => rfl) ⟨(Nat.le_of_ble_eq_true rfl), (Nat.le_of_ble_eq_true rfl)⟩ rfl ?_
  refine r_putR C dM_init_73 rfl rfl (by decide) (fun q hq => by cases hq; exact ⟨rfl, rfl, .array (.int), by decide +kernel, rfl, rfl⟩) rfl ?_
  refine r_ald C dM_init_76 rfl ?_
  refine r_ik C dM_init_77 ?_
  refine r_newa (N := 41) (k := 89) C dM_init_79 rfl (Or.inr (Or.inl ⟨rfl, rfl⟩)) (tb1 94 rfl) (by decide) (fun _ => rfl) (fun _ => rfl) ⟨(Nat.le_of_ble_eq_true rfl), (Nat.le_of_ble_eq_true rfl)⟩ rfl ?_
  refine r_putR C dM_init_81 rfl rfl (by decide) (fun q hq => by cases hq; exact ⟨rfl, rfl, .array (.boolean), by decide +kernel, rfl, rfl⟩) rfl ?_
  refine r_ald C dM_init_84 rfl ?_
  refine r_ik C dM_init_85 ?_
  refine r_newa (N := 205) (k := 90) C dM_init_88 rfl (Or.inl ⟨rfl, rfl⟩) (tb1 54 rfl) (by decide) (fun _ => rfl) (fun _ => rfl) ⟨(Nat.le_of_ble_eq_true rfl), (Nat.le_of_ble_eq_true rfl)⟩ rfl ?_
  refine r_putR C dM_init_90 rfl rfl (by decide) (fun q hq => by cases hq; exact ⟨rfl, rfl, .array (.int), by decide +kernel, rfl, rfl⟩) rfl ?_
  refine r_ald C dM_init_93 rfl ?_
  refine r_ik C dM_init_94 ?_
  refine r_newa (N := 41) (k := 91) C dM_init_96 rfl (Or.inr (Or.inl ⟨rfl, rfl⟩)) (tb1 94 rfl) (by decide) (fun _ => rfl) (fun _ => rfl) ⟨(Nat.le_of_ble_eq_true rfl), (Nat.le_of_ble_eq_true rfl)⟩ rfl ?_
  refine r_putR C dM_init_98 rfl rfl (by decide) (fun q hq => by cases hq; exact ⟨rfl, rfl, .array (.boolean), by decide +kernel, rfl, rfl⟩) rfl ?_
  refine r_ald C dM_init_101 rfl ?_
  refine r_ik C dM_init_102 ?_
  refine r_newa (N := 41) (k := 92) C dM_init_104 rfl (Or.inr (Or.inr ⟨rfl, rfl⟩)) (tb1 55 rfl) (by decide) (fun _ => rfl) (fun _ => rfl) ⟨(Nat.le_of_ble_eq_true rfl), (Nat.le_of_ble_eq_true rfl)⟩ rfl ?_
  refine r_putR C dM_init_106 rfl rfl (by decide) (fun q hq => by cases hq; exact ⟨rfl, rfl, .array (.long), by decide +kernel, rfl, rfl⟩) rfl ?_
  refine r_ald C dM_init_109 rfl ?_
  refine r_ik C dM_init_110 ?_
  refine r_newa (N := 41) (k := 93) C dM_init_112 rfl (Or.inl ⟨rfl, rfl⟩) (tb1 54 rfl) (by decide) (fun _ => rfl) (fun _ => rfl) ⟨(Nat.le_of_ble_eq_true rfl), (Nat.le_of_ble_eq_true rfl)⟩ rfl ?_
  refine r_putR C dM_init_114 rfl rfl (by decide) (fun q hq => by cases hq; exact ⟨rfl, rfl, .array (.int), by decide +kernel, rfl, rfl⟩) rfl ?_
  refine r_ald C dM_init_117 rfl ?_
  refine r_ik C dM_init_118 ?_
  refine r_newa (N := 41) (k := 94) C dM_init_120 rfl (Or.inl ⟨rfl, rfl⟩) (tb1 54 rfl) (by decide) (fun _ => rfl) (fun _ => rfl) ⟨(Nat.le_of_ble_eq_true rfl), (Nat.le_of_ble_eq_true rfl)⟩ rfl ?_
  refine r_putR C dM_init_122 rfl rfl (by decide) (fun q hq => by cases hq; exact ⟨rfl, rfl, .array (.int), by decide +kernel, rfl, rfl⟩) rfl ?_
  refine r_ald C dM_init_125 rfl ?_
  refine r_ik C dM_init_126 ?_
  refine r_newa (N := 41) (k := 95) C dM_init_128 rfl (Or.inl ⟨rfl, rfl⟩) (tb1 54 rfl) (by decide) (fun _ => rfl) (fun _ => rfl) ⟨(Nat.le_of_ble_eq_true rfl), (Nat.le_of_ble_eq_true rfl)⟩ rfl ?_
  refine r_putR C dM_init_130 rfl rfl (by decide) (fun q hq => by cases hq; exact ⟨rfl, rfl, .array (.int), by decide +kernel, rfl, rfl⟩) rfl ?_
  refine r_ald C dM_init_133 rfl ?_
  refine r_ik C dM_init_134 ?_
  refine r_newa (N := 41) (k := 96) C dM_init_136 rfl (Or.inr (Or.inr ⟨rfl, rfl⟩)) (tb1 55 rfl) (by decide) (fun _ => rfl) (fun _ => rfl) ⟨(Nat.le_of_ble_eq_true rfl), (Nat.le_of_ble_eq_true rfl)⟩ rfl ?_
  refine r_putR C dM_init_138 rfl rfl (by decide) (fun q hq => by cases hq; exact ⟨rfl, rfl, .array (.long), by decide +kernel, rfl, rfl⟩) rfl ?_
  refine r_ald C dM_init_141 rfl ?_
  refine r_ik C dM_init_142 ?_
  refine r_newa (N := 41) (k := 97) C dM_init_144 rfl (Or.inr (Or.inr ⟨rfl, rfl⟩)) (tb1 55 rfl) (by decide) (fun _ => rfl) (fun _ => rfl) ⟨(Nat.le_of_ble_eq_true rfl), (Nat.le_of_ble_eq_true rfl)⟩ rfl ?_
  refine r_putR C dM_init_146 rfl rfl (by decide) (fun q hq => by cases hq; exact ⟨rfl, rfl, .array (.long), by decide +kernel, rfl, rfl⟩) rfl ?_
  refine r_ald C dM_init_149 rfl ?_
  refine r_ik C dM_init_150 ?_
  refine r_newa (N := 41) (k := 98) C dM_init_152 rfl (Or.inr (Or.inr ⟨rfl, rfl⟩)) (tb1 55 rfl) (by decide) (fun _ => rfl) (fun _ => rfl) ⟨(Nat.le_of_ble_eq_true rfl), (Nat.le_of_ble_eq_true rfl)⟩ rfl ?_
  refine r_putR C dM_init_154 rfl rfl (by decide) (fun q hq => by cases hq; exact ⟨rfl, rfl, .array (.long), by decide +kernel, rfl, rfl⟩) rfl ?_
  refine r_ald C dM_init_157 rfl ?_
  refine r_ik C dM_init_158 ?_
  refine r_newa (N := 41) (k := 99) C dM_init_160 rfl (Or.inr (Or.inr ⟨rfl, rfl⟩)) (tb1 55 rfl) (by decide) (fun _ => rfl) (fun _ => rfl) ⟨(Nat.le_of_ble_eq_true rfl), (Nat.le_of_ble_eq_true rfl)⟩ rfl ?_
  refine r_putR C dM_init_162 rfl rfl (by decide) (fun q hq => by cases hq; exact ⟨rfl, rfl, .array (.long), by decide +kernel, rfl, rfl⟩) rfl ?_
  refine r_ald C dM_init_165 rfl ?_
  refine r_ik C dM_init_166 ?_
  refine r_newa (N := 41) (k := 100) C dM_init_168 rfl (Or.inr (Or.inr ⟨rfl, rfl⟩)) (tb1 55 rfl) (by decide) (fun _ => rfl) (fun _ => rfl) ⟨(Nat.le_of_ble_eq_true rfl), (Nat.le_of_ble_eq_true rfl)⟩ rfl ?_
  refine r_putR C dM_init_170 rfl rfl (by decide) (fun q hq => by cases hq; exact ⟨rfl, rfl, .array (.long), by decide +kernel, rfl, rfl⟩) rfl ?_
  refine r_ald C dM_init_173 rfl ?_
  refine r_ik C dM_init_174 ?_
  refine r_newa (N := 41) (k := 101) C dM_init_176 rfl (Or.inr (Or.inr ⟨rfl, rfl⟩)) (tb1 55 rfl) (by decide) (fun _ => rfl) (fun _ => rfl) ⟨(Nat.le_of_ble_eq_true rfl), (Nat.le_of_ble_eq_true rfl)⟩ rfl ?_
  refine r_putR C dM_init_178 rfl rfl (by decide) (fun q hq => by cases hq; exact ⟨rfl, rfl, .array (.long), by decide +kernel, rfl, rfl⟩) rfl ?_
  refine r_ald C dM_init_181 rfl ?_
  refine r_ik C dM_init_182 ?_
  refine r_newa (N := 41) (k := 102) C dM_init_184 rfl (Or.inr (Or.inr ⟨rfl, rfl⟩)) (tb1 55 rfl) (by decide) (fun _ => rfl) (fun _ => rfl) ⟨(Nat.le_of_ble_eq_true rfl), (Nat.le_of_ble_eq_true rfl)⟩ rfl ?_
  refine r_putR C dM_init_186 rfl rfl (by decide) (fun q hq => by cases hq; exact ⟨rfl, rfl, .array (.long), by decide +kernel, rfl, rfl⟩) rfl ?_
  refine r_ald C dM_init_189 rfl ?_
  refine r_ik C dM_init_190 ?_
  refine r_newa (N := 41) (k := 103) C dM_init_192 rfl (Or.inr (Or.inr ⟨rfl, rfl⟩)) (tb1 55 rfl) (by decide) (fun _ => rfl) (fun _ => rfl) ⟨(Nat.le_of_ble_eq_true rfl), (Nat.le_of_ble_eq_true rfl)⟩ rfl ?_
  refine r_putR C dM_init_194 rfl rfl (by decide) (fun q hq => by cases hq; exact ⟨rfl, rfl, .array (.long), by decide +kernel, rfl, rfl⟩) rfl ?_
  refine r_ald C dM_init_197 rfl ?_
  refine r_ik C dM_init_198 ?_
  refine r_newa (N := 41) (k := 104) C dM_init_200 rfl (Or.inr (Or.inr ⟨rfl, rfl⟩)) (tb1 55 rfl) (by decide) (fun _ => rfl) (fun _ => rfl) ⟨(Nat.le_of_ble_eq_true rfl), (Nat.le_of_ble_eq_true rfl)⟩ rfl ?_
  refine r_putR C dM_init_202 rfl rfl (by decide) (fun q hq => by cases hq; exact ⟨rfl, rfl, .array (.long), by decide +kernel, rfl, rfl⟩) rfl ?_
  refine r_ald C dM_init_205 rfl ?_
  refine r_ik C dM_init_206 ?_
  refine r_newa (N := 41) (k := 105) C dM_init_208 rfl (Or.inr (Or.inr ⟨rfl, rfl⟩)) (tb1 55 rfl) (by decide) (fun _ => rfl) (fun _ => rfl) ⟨(Nat.le_of_ble_eq_true rfl), (Nat.le_of_ble_eq_true rfl)⟩ rfl ?_
  refine r_putR C dM_init_210 rfl rfl (by decide) (fun q hq => by cases hq; exact ⟨rfl, rfl, .array (.long), by decide +kernel, rfl, rfl⟩) rfl ?_
  refine r_ald C dM_init_213 rfl ?_
  refine r_ik C dM_init_214 ?_
  refine r_newa (N := 41) (k := 106) C dM_init_216 rfl (Or.inr (Or.inr ⟨rfl, rfl⟩)) (tb1 55 rfl) (by decide) (fun _ => rfl) (fun _ => rfl) ⟨(Nat.le_of_ble_eq_true rfl), (Nat.le_of_ble_eq_true rfl)⟩ rfl ?_
  refine r_putR C dM_init_218 rfl rfl (by decide) (fun q hq => by cases hq; exact ⟨rfl, rfl, .array (.long), by decide +kernel, rfl, rfl⟩) rfl ?_
  refine r_ald C dM_init_221 rfl ?_
  refine r_ik C dM_init_222 ?_
  refine r_newa (N := 41) (k := 107) C dM_init_224 rfl (Or.inl ⟨rfl, rfl⟩) (tb1 54 rfl) (by decide) (fun _ => rfl) (fun _ => rfl) ⟨(Nat.le_of_ble_eq_true rfl), (Nat.le_of_ble_eq_true rfl)⟩ rfl ?_
  refine r_putR C dM_init_226 rfl rfl (by decide) (fun q hq => by cases hq; exact ⟨rfl, rfl, .array (.int), by decide +kernel, rfl, rfl⟩) rfl ?_
  refine r_ald C dM_init_229 rfl ?_
  refine r_ik C dM_init_230 ?_
  refine r_newa (N := 8) (k := 108) C dM_init_232 rfl (Or.inr (Or.inr ⟨rfl, rfl⟩)) (tb1 55 rfl) (by decide) (fun _ => rfl) (fun _ => rfl) ⟨(Nat.le_of_ble_eq_true rfl), (Nat.le_of_ble_eq_true rfl)⟩ rfl ?_
  refine r_putR C dM_init_234 rfl rfl (by decide) (fun q hq => by cases hq; exact ⟨rfl, rfl, .array (.long), by decide +kernel, rfl, rfl⟩) rfl ?_
  refine r_ald C dM_init_237 rfl ?_
  refine r_ik C dM_init_238 ?_
  refine r_newa (N := 41) (k := 109) C dM_init_240 rfl (Or.inr (Or.inr ⟨rfl, rfl⟩)) (tb1 55 rfl) (by decide) (fun _ => rfl) (fun _ => rfl) ⟨(Nat.le_of_ble_eq_true rfl), (Nat.le_of_ble_eq_true rfl)⟩ rfl ?_
  refine r_putR C dM_init_242 rfl rfl (by decide) (fun q hq => by cases hq; exact ⟨rfl, rfl, .array (.long), by decide +kernel, rfl, rfl⟩) rfl ?_
  refine r_ald C dM_init_245 rfl ?_
  refine r_ik C dM_init_246 ?_
  refine r_newa (N := 41) (k := 110) C dM_init_248 rfl (Or.inr (Or.inr ⟨rfl, rfl⟩)) (tb1 55 rfl) (by decide) (fun _ => rfl) (fun _ => rfl) ⟨(Nat.le_of_ble_eq_true rfl), (Nat.le_of_ble_eq_true rfl)⟩ rfl ?_
  refine r_putR C dM_init_250 rfl rfl (by decide) (fun q hq => by cases hq; exact ⟨rfl, rfl, .array (.long), by decide +kernel, rfl, rfl⟩) rfl ?_
  refine r_ald C dM_init_253 rfl ?_
  refine r_ik C dM_init_254 ?_
  refine r_newa (N := 41) (k := 111) C dM_init_256 rfl (Or.inr (Or.inr ⟨rfl, rfl⟩)) (tb1 55 rfl) (by decide) (fun _ => rfl) (fun _ => rfl) ⟨(Nat.le_of_ble_eq_true rfl), (Nat.le_of_ble_eq_true rfl)⟩ rfl ?_
  refine r_putR C dM_init_258 rfl rfl (by decide) (fun q hq => by cases hq; exact ⟨rfl, rfl, .array (.long), by decide +kernel, rfl, rfl⟩) rfl ?_
  exact r_vret C dM_init_261 rfl (Nat.le_of_ble_eq_true rfl) (Nat.le_of_ble_eq_true rfl) hn
