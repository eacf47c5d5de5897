set_option maxRecDepth 100000 in
set_option maxHeartbeats 4000000 in
theorem cM_settle7 {g : ed_g} {l : Launch} (hl : l.stackTraces = false) {I : ed_I} {L : ed_L} (hd : I 79 1 = 0) {post : ed_post} (h1 : post (.inl (some (.long (lZ 0)))) Yw (upI I 79 0 1) L) : ed_Ct g l mM_settle 7 0 0 [.ref 79] Yw I L post := by
  refine ed_Ct.of hl rfl (Nat.le_of_ble_eq_true rfl) (fun x _ C => ?_)
  show Gd g x post _ _ _ _ _ _ _ _ 0 [(0, _)] []
  refine r_ald C dM_settle_0 rfl ?_
  refine r_ald C dM_settle_1 rfl ?_
  refine r_getI (z := 1) C dM_settle_2 rfl rfl rfl ?_
  refine r_if_ne C dM_settle_5 (by omega) (fun b5 => ?_) (fun b5 => ?_)
  · omega
  · refine r_ik C dM_settle_8 ?_
    refine r_goto C dM_settle_9 ?_
    refine r_callV C lzM_refused dM_settle_13 _ [_] [] rfl rfl rfl rfl rfl (Nat.le_of_ble_eq_true rfl) ⟨(Nat.le_of_ble_eq_true rfl), (Nat.le_of_ble_eq_true rfl), (Nat.le_of_ble_eq_true rfl), (Nat.le_of_ble_eq_true rfl)⟩ rfl (cM_refused C.2.2.2.2.2.1 (by omega) (fun _ => ?_) (fun h => absurd h (by decide)))
    refine r_if_eq C dM_settle_16 (by omega) (fun b16 => ?_) (fun b16 => ?_)
    · omega
    · refine r_lk C dM_settle_19 ?_
      exact r_lret C dM_settle_20 rfl (Nat.le_of_ble_eq_true rfl) (Nat.le_of_ble_eq_true rfl) (h1)
/-- a settling with no testator told -/
theorem sok_0 {g : ed_g} {l : Launch} (hl : l.stackTraces = false) {I : ed_I} {L : ed_L} (hd : I 1 0 = 0) (h : Rel I L) : SOK g l I L := by
  intro post hp
  refine cL_settle0 hl hd (hp 1 I L (by decide) (fun post2 h2 => ?_))
  exact cM_settle7 hl (by rw [h.1.2.2.2.2.2.2.1]; exact hd) (h2 0 _ _ ⟨⟨rfl, by decide, rel_fault h 1⟩, fun q => absurd q (by decide)⟩)
