/-- fewer locals -/
theorem Gd.drop {g : ed_g} {x : ed_x} {post : ed_post} {mc ms nL cells slots : Nat} {Y : ed_Y} {I : ed_I} {L : ed_L} {pc : Nat} {ls ls2 : List (Nat × Value)} {st : List Value} (k : Gd g x post mc ms nL cells slots Y I L pc ls st) : Gd g x post mc ms nL cells slots Y I L pc (ls ++ ls2) st := Gd.sub (fun q h => List.mem_append_left _ h) k
set_option maxRecDepth 100000 in
set_option maxHeartbeats 4000000 in
theorem cD_requireArgument_at : ∀ w ∈ Bundle.ownAtoms0 "EstateDesk" 201 "java/lang/IllegalArgumentException" ["java/lang/RuntimeException", "java/lang/Exception"], w ∈ ed_stw ∨ (w ∈ lw_tbl ∧ ed_stab w = true) := by decide +kernel
set_option maxRecDepth 100000 in
set_option maxHeartbeats 4000000 in
theorem cD_requireArgument {g : ed_g} {l : Launch} (hl : l.stackTraces = false) {Y : ed_Y} (hY : Y.1 = false) {v : Int} (hr : -2147483648 ≤ v ∧ v ≤ 2147483647) {I : ed_I} {L : ed_L} {post : ed_post} (hn : v ≠ 0 → post (.inl none) Y I L) (hx : v = 0 → post (.inr "java/lang/IllegalArgumentException") Y I L) : ed_Ct g l mD_requireArgument 0 1 6 [.int (iZ v)] Y I L post :=
  ed_thrower (ik := 199) (ic := 201) ["java/lang/RuntimeException", "java/lang/Exception"] hl rfl rfl rfl rfl (by decide +kernel) (by decide +kernel) rfl (by decide +kernel) (by decide +kernel) (by decide +kernel) (by decide +kernel) (by decide +kernel) (by decide +kernel) (by decide +kernel) (tb2 35 rfl) (tb1 12 rfl) cD_requireArgument_at (tb2 36 rfl) hr hY hn hx
set_option maxRecDepth 100000 in
set_option maxHeartbeats 4000000 in
theorem cD_requireState_at : ∀ w ∈ Bundle.ownAtoms0 "EstateDesk" 204 "java/lang/IllegalStateException" ["java/lang/RuntimeException", "java/lang/Exception"], w ∈ ed_stw ∨ (w ∈ lw_tbl ∧ ed_stab w = true) := by decide +kernel
set_option maxRecDepth 100000 in
set_option maxHeartbeats 4000000 in
theorem cD_requireState {g : ed_g} {l : Launch} (hl : l.stackTraces = false) {Y : ed_Y} (hY : Y.1 = false) {v : Int} (hr : -2147483648 ≤ v ∧ v ≤ 2147483647) {I : ed_I} {L : ed_L} {post : ed_post} (hn : v ≠ 0 → post (.inl none) Y I L) (hx : v = 0 → post (.inr "java/lang/IllegalStateException") Y I L) : ed_Ct g l mD_requireState 0 1 6 [.int (iZ v)] Y I L post :=
  ed_thrower (ik := 202) (ic := 204) ["java/lang/RuntimeException", "java/lang/Exception"] hl rfl rfl rfl rfl (by decide +kernel) (by decide +kernel) rfl (by decide +kernel) (by decide +kernel) (by decide +kernel) (by decide +kernel) (by decide +kernel) (by decide +kernel) (by decide +kernel) (tb2 104 rfl) (tb1 13 rfl) cD_requireState_at (tb2 105 rfl) hr hY hn hx
set_option maxRecDepth 100000 in
set_option maxHeartbeats 4000000 in
theorem cD_requireWithin {g : ed_g} {l : Launch} (hl : l.stackTraces = false) {Y : ed_Y} (hY : Y.1 = false) {a b c : Int} (hr : -9223372036854775808 ≤ a ∧ a ≤ 9223372036854775807 ∧ -9223372036854775808 ≤ b ∧ b ≤ 9223372036854775807 ∧ -9223372036854775808 ≤ c ∧ c ≤ 9223372036854775807) {I : ed_I} {L : ed_L} {post : ed_post} (hn : b ≤ a ∧ a ≤ c → post (.inl none) Y I L) (hx : ¬ (b ≤ a ∧ a ≤ c) → post (.inr IAE) Y I L) : ed_Ct g l mD_requireWithin 1 1 6 [.long (lZ a), .long (lZ b), .long (lZ c)] Y I L post := by
  refine ed_Ct.of hl rfl (Nat.le_of_ble_eq_true rfl) (fun x _ C => ?_)
  show Gd g x post _ _ _ _ _ _ _ _ 0 [(0, _), (2, _), (4, _)] []
  refine r_lld C dD_requireWithin_0 rfl ?_
  refine r_lld C dD_requireWithin_1 rfl ?_
  refine r_lc_lt C dD_requireWithin_2 dD_requireWithin_3 (by omega) (fun b3 => ?_) (fun b3 => ?_)
  · refine r_ik C dD_requireWithin_17 ?_
    refine r_callS C lzD_requireArgument dD_requireWithin_18 [_] [] rfl rfl (Nat.le_of_ble_eq_true rfl) ⟨(Nat.le_of_ble_eq_true rfl), (Nat.le_of_ble_eq_true rfl), (Nat.le_of_ble_eq_true rfl), (Nat.le_of_ble_eq_true rfl)⟩ rfl (cD_requireArgument C.2.2.2.2.2.1 hY (by omega) (fun h => absurd rfl h) (fun _ => ?_))
    exact gx_out C rfl (Nat.le_of_ble_eq_true rfl) (Nat.le_of_ble_eq_true rfl) (hx (by omega))
  · refine r_lld C dD_requireWithin_6 rfl ?_
    refine r_lld C dD_requireWithin_7 rfl ?_
    refine r_lc_gt C dD_requireWithin_9 dD_requireWithin_10 (by omega) (fun b10 => ?_) (fun b10 => ?_)
    · refine r_ik C dD_requireWithin_17 ?_
      refine r_callS C lzD_requireArgument dD_requireWithin_18 [_] [] rfl rfl (Nat.le_of_ble_eq_true rfl) ⟨(Nat.le_of_ble_eq_true rfl), (Nat.le_of_ble_eq_true rfl), (Nat.le_of_ble_eq_true rfl), (Nat.le_of_ble_eq_true rfl)⟩ rfl (cD_requireArgument C.2.2.2.2.2.1 hY (by omega) (fun h => absurd rfl h) (fun _ => ?_))
      exact gx_out C rfl (Nat.le_of_ble_eq_true rfl) (Nat.le_of_ble_eq_true rfl) (hx (by omega))
    · refine r_ik C dD_requireWithin_13 ?_
      refine r_goto C dD_requireWithin_14 ?_
      refine r_callS C lzD_requireArgument dD_requireWithin_18 [_] [] rfl rfl (Nat.le_of_ble_eq_true rfl) ⟨(Nat.le_of_ble_eq_true rfl), (Nat.le_of_ble_eq_true rfl), (Nat.le_of_ble_eq_true rfl), (Nat.le_of_ble_eq_true rfl)⟩ rfl (cD_requireArgument C.2.2.2.2.2.1 hY (by omega) (fun _ => ?_) (fun h => absurd h (by decide)))
      exact r_vret C dD_requireWithin_21 rfl (Nat.le_of_ble_eq_true rfl) (Nat.le_of_ble_eq_true rfl) (hn (by omega))
set_option maxRecDepth 100000 in
set_option maxHeartbeats 4000000 in
theorem cD_requireOpen {g : ed_g} {l : Launch} (hl : l.stackTraces = false) {I : ed_I} {L : ed_L} (hc : I 0 7 = 0 ∨ I 0 7 = 1) {post : ed_post} (hn : I 0 7 = 0 → post (.inl none) Yw I L) (hx : I 0 7 ≠ 0 → post (.inr ISE) Yw I L) : ed_Ct g l mD_requireOpen 1 1 6 [.ref 0] Yw I L post := by
  refine ed_Ct.of hl rfl (Nat.le_of_ble_eq_true rfl) (fun x _ C => ?_)
  show Gd g x post _ _ _ _ _ _ _ _ 0 [(0, _)] []
  refine r_ald C dD_requireOpen_0 rfl ?_
  refine r_getI (z := 7) C dD_requireOpen_1 rfl rfl rfl ?_
  refine r_if_ne C dD_requireOpen_4 (by omega) (fun b4 => ?_) (fun b4 => ?_)
  · refine r_ik C dD_requireOpen_11 ?_
    refine r_callS C lzD_requireState dD_requireOpen_12 [_] [] rfl rfl (Nat.le_of_ble_eq_true rfl) ⟨(Nat.le_of_ble_eq_true rfl), (Nat.le_of_ble_eq_true rfl), (Nat.le_of_ble_eq_true rfl), (Nat.le_of_ble_eq_true rfl)⟩ rfl (cD_requireState C.2.2.2.2.2.1 rfl (by omega) (fun h => absurd rfl h) (fun _ => ?_))
    exact gx_out C rfl (Nat.le_of_ble_eq_true rfl) (Nat.le_of_ble_eq_true rfl) (hx (by omega))
  · refine r_ik C dD_requireOpen_7 ?_
    refine r_goto C dD_requireOpen_8 ?_
    refine r_callS C lzD_requireState dD_requireOpen_12 [_] [] rfl rfl (Nat.le_of_ble_eq_true rfl) ⟨(Nat.le_of_ble_eq_true rfl), (Nat.le_of_ble_eq_true rfl), (Nat.le_of_ble_eq_true rfl), (Nat.le_of_ble_eq_true rfl)⟩ rfl (cD_requireState C.2.2.2.2.2.1 rfl (by omega) (fun _ => ?_) (fun h => absurd h (by decide)))
    exact r_vret C dD_requireOpen_15 rfl (Nat.le_of_ble_eq_true rfl) (Nat.le_of_ble_eq_true rfl) (hn (by omega))
set_option maxRecDepth 100000 in
set_option maxHeartbeats 4000000 in
theorem cD_requireAsset {g : ed_g} {l : Launch} (hl : l.stackTraces = false) {I : ed_I} {L : ed_L} {a : Int} (ha : -2147483648 ≤ a ∧ a ≤ 2147483647) (hk : ∀ j, 0 ≤ j → j ≤ 40 → I 7 j = 0 ∨ I 7 j = 1) {post : ed_post} (hn : (1 ≤ a ∧ a ≤ 40) ∧ I 7 a ≠ 0 → post (.inl none) Yw I L) (hx : ¬ ((1 ≤ a ∧ a ≤ 40) ∧ I 7 a ≠ 0) → post (.inr IAE) Yw I L) : ed_Ct g l mD_requireAsset 2 2 12 [.ref 0, .int (iZ a)] Yw I L post := by
  refine ed_Ct.of hl rfl (Nat.le_of_ble_eq_true rfl) (fun x _ C => ?_)
  show Gd g x post _ _ _ _ _ _ _ _ 0 [(0, _), (1, _)] []
  refine r_ild C dD_requireAsset_0 rfl ?_
  refine r_i2l C dD_requireAsset_1 (by omega) ?_
  refine r_lk C dD_requireAsset_2 ?_
  refine r_lk C dD_requireAsset_3 ?_
  refine r_callS C lzD_requireWithin dD_requireAsset_6 [_, _, _] [] rfl rfl (Nat.le_of_ble_eq_true rfl) ⟨(Nat.le_of_ble_eq_true rfl), (Nat.le_of_ble_eq_true rfl), (Nat.le_of_ble_eq_true rfl), (Nat.le_of_ble_eq_true rfl)⟩ rfl (cD_requireWithin C.2.2.2.2.2.1 rfl (by omega) (fun b6 => ?_) (fun b6 => ?_))
  · refine r_ald C dD_requireAsset_9 rfl ?_
    refine r_getR C dD_requireAsset_10 rfl rfl ?_
    refine r_getR C dD_requireAsset_13 rfl rfl ?_
    refine r_ild C dD_requireAsset_16 rfl ?_
    refine r_zald C dD_requireAsset_17 rfl ⟨by omega, by omega⟩ (by decide) ?_
    have hk2 := hk a (by omega) (by omega)
    refine r_callS C lzD_requireArgument dD_requireAsset_18 [_] [] rfl rfl (Nat.le_of_ble_eq_true rfl) ⟨(Nat.le_of_ble_eq_true rfl), (Nat.le_of_ble_eq_true rfl), (Nat.le_of_ble_eq_true rfl), (Nat.le_of_ble_eq_true rfl)⟩ rfl (cD_requireArgument C.2.2.2.2.2.1 rfl (by omega) (fun b18 => ?_) (fun b18 => ?_))
    · exact r_vret C dD_requireAsset_21 rfl (Nat.le_of_ble_eq_true rfl) (Nat.le_of_ble_eq_true rfl) (hn (by omega))
    · exact gx_out C rfl (Nat.le_of_ble_eq_true rfl) (Nat.le_of_ble_eq_true rfl) (hx (by omega))
  · exact gx_out C rfl (Nat.le_of_ble_eq_true rfl) (Nat.le_of_ble_eq_true rfl) (hx (by omega))
set_option maxRecDepth 100000 in
set_option maxHeartbeats 4000000 in
theorem cD_requireAssetOrNone {g : ed_g} {l : Launch} (hl : l.stackTraces = false) {I : ed_I} {L : ed_L} {a : Int} (ha : -2147483648 ≤ a ∧ a ≤ 2147483647) (hk : ∀ j, 0 ≤ j → j ≤ 40 → I 7 j = 0 ∨ I 7 j = 1) {post : ed_post} (hn : a = 0 ∨ ((1 ≤ a ∧ a ≤ 40) ∧ I 7 a ≠ 0) → post (.inl none) Yw I L) (hx : ¬ (a = 0 ∨ ((1 ≤ a ∧ a ≤ 40) ∧ I 7 a ≠ 0)) → post (.inr IAE) Yw I L) : ed_Ct g l mD_requireAssetOrNone 3 2 12 [.ref 0, .int (iZ a)] Yw I L post := by
  refine ed_Ct.of hl rfl (Nat.le_of_ble_eq_true rfl) (fun x _ C => ?_)
  show Gd g x post _ _ _ _ _ _ _ _ 0 [(0, _), (1, _)] []
  refine r_ild C dD_requireAssetOrNone_0 rfl ?_
  refine r_if_eq C dD_requireAssetOrNone_1 (by omega) (fun b1 => ?_) (fun b1 => ?_)
  · exact r_vret C dD_requireAssetOrNone_9 rfl (Nat.le_of_ble_eq_true rfl) (Nat.le_of_ble_eq_true rfl) (hn (by omega))
  · refine r_ald C dD_requireAssetOrNone_4 rfl ?_
    refine r_ild C dD_requireAssetOrNone_5 rfl ?_
    refine r_callV C lzD_requireAsset dD_requireAssetOrNone_6 _ [_] [] rfl rfl rfl rfl rfl (Nat.le_of_ble_eq_true rfl) ⟨(Nat.le_of_ble_eq_true rfl), (Nat.le_of_ble_eq_true rfl), (Nat.le_of_ble_eq_true rfl), (Nat.le_of_ble_eq_true rfl)⟩ rfl (cD_requireAsset C.2.2.2.2.2.1 ha hk (fun b6 => ?_) (fun b6 => ?_))
    · exact r_vret C dD_requireAssetOrNone_9 rfl (Nat.le_of_ble_eq_true rfl) (Nat.le_of_ble_eq_true rfl) (hn (by omega))
    · exact gx_out C rfl (Nat.le_of_ble_eq_true rfl) (Nat.le_of_ble_eq_true rfl) (hx (by omega))
set_option maxRecDepth 100000 in
set_option maxHeartbeats 4000000 in
theorem cD_noteFact {g : ed_g} {l : Launch} (hl : l.stackTraces = false) {I : ed_I} {L : ed_L} {post : ed_post} (hn : post (.inl none) Yw (upI I 0 6 0) L) : ed_Ct g l mD_noteFact 0 0 0 [.ref 0] Yw I L post := by
  refine ed_Ct.of hl rfl (Nat.le_of_ble_eq_true rfl) (fun x _ C => ?_)
  show Gd g x post _ _ _ _ _ _ _ _ 0 [(0, _)] []
  refine r_ald C dD_noteFact_0 rfl ?_
  refine r_ik C dD_noteFact_1 ?_
  refine r_putI (z := 6) C dD_noteFact_2 rfl rfl rfl rfl (ed_pz0_6 (by omega)) ?_
  exact r_vret C dD_noteFact_5 rfl (Nat.le_of_ble_eq_true rfl) (Nat.le_of_ble_eq_true rfl) (hn)
/-- f 1 + .. + f n -/
def sm (f : Int → Int) : Nat → Int
  | 0 => 0
  | n + 1 => sm f n + f (n + 1)
theorem sm_to (f : Int → Int) {i : Int} (h : 1 ≤ i) : sm f (i + 1 - 1).toNat = sm f (i - 1).toNat + f i := by
  obtain ⟨n, rfl⟩ : ∃ n : Nat, i = n + 1 := ⟨(i - 1).toNat, by omega⟩
  rw [show ((n : Int) + 1 + 1 - 1).toNat = n + 1 by omega, show ((n : Int) + 1 - 1).toNat = n by omega]
  rfl
set_option maxRecDepth 100000 in
set_option maxHeartbeats 4000000 in
theorem cD_total {g : ed_g} {l : Launch} (hl : l.stackTraces = false) {I : ed_I} {L : ed_L} {k : Nat} (hk : ed_lay[k]? = some (.inr (2, 41, 0))) {post : ed_post} (hp : post (.inl (some (.long (lZ (sm (L k) 40))))) Yw I L) : ed_Ct g l mD_total 0 0 0 [.ref k] Yw I L post := by
  refine ed_Ct.of hl rfl (Nat.le_of_ble_eq_true rfl) (fun x _ C => ?_)
  show Gd g x post _ _ _ _ _ _ _ _ 0 [(0, _)] []
  have loop : ∀ (q : Nat) (i z : Int), (41 - i).toNat < q → 1 ≤ i ∧ i ≤ 41 → z = sm (L k) (i - 1).toNat → Gd g x post 0 0 mD_total.2.2.1 0 0 Yw I L 4 [(0, .ref k), (1, .long (lZ z)), (3, .int (iZ i))] [] := by
    intro q
    induction q with
    | zero => intro i z hq; omega
    | succ q ih =>
      intro i z hq g1 g2
      refine r_ild C dD_total_4 rfl ?_
      refine r_ik C dD_total_5 ?_
      refine r_icmp_gt C dD_total_7 (by omega) (fun b7 => ?_) (fun b7 => ?_)
      · refine r_lld C dD_total_22 rfl ?_
        exact r_lret C dD_total_23 rfl (Nat.le_of_ble_eq_true rfl) (Nat.le_of_ble_eq_true rfl) (by rw [g2, show (i - 1).toNat = 40 by omega]; exact hp)
      · refine r_lld C dD_total_10 rfl ?_
        refine r_ald C dD_total_11 rfl ?_
        refine r_ild C dD_total_12 rfl ?_
        refine r_lald C dD_total_13 hk ⟨by omega, by omega⟩ (by decide) ?_
        refine r_ladd C dD_total_14 ?_
        refine r_lst C dD_total_15 (by decide) (ls' := [(0, _), (1, _), (3, _)]) rfl ?_
        refine r_iinc C dD_total_16 (by decide) rfl (ls' := [(0, _), (1, _), (3, _)]) rfl ?_
        refine r_goto C dD_total_19 ?_
        exact ih _ _ (by omega) (by omega) (by rw [sm_to _ g1.1, g2])
  refine r_lk C dD_total_0 ?_
  refine r_lst C dD_total_1 (by decide) (ls' := [(0, _), (1, _)]) rfl ?_
  refine r_ik C dD_total_2 ?_
  refine r_ist C dD_total_3 (by decide) (ls' := [(0, _), (1, _), (3, _)]) rfl ?_
  exact loop 50 1 0 (by omega) (by omega) rfl
/-- the factors of the annuity table, in millionths, and their sums -/
def anF : Nat → Int
  | 0 => 1000000
  | n + 1 => 96 * anF n / 100
def anS : Nat → Int
  | 0 => 0
  | n + 1 => anS n + anF (n + 1)
def anV (y a : Int) : Int := y * anS (100 - a).toNat / 1000000
theorem anF_in : ∀ n, 0 ≤ anF n ∧ anF n ≤ 1000000
  | 0 => by decide
  | n + 1 => by
    have h := anF_in n
    show 0 ≤ 96 * anF n / 100 ∧ 96 * anF n / 100 ≤ 1000000
    omega
theorem anS_in : ∀ n, 0 ≤ anS n ∧ anS n ≤ 1000000 * n
  | 0 => by decide
  | n + 1 => by
    have h := anS_in n
    have h2 := anF_in (n + 1)
    show 0 ≤ anS n + anF (n + 1) ∧ anS n + anF (n + 1) ≤ 1000000 * ((n + 1 : Nat) : Int)
    omega
theorem anM {y : Int} {n : Nat} (h : 0 ≤ y ∧ y ≤ 1000000000) (hn : n ≤ 100) : 0 ≤ y * anS n ∧ y * anS n ≤ 100000000000000000 := by
  have h1 := anS_in n
  refine ⟨Int.mul_nonneg h.1 h1.1, ?_⟩
  have h2 : y * anS n ≤ 1000000000 * anS n := Int.mul_le_mul_of_nonneg_right h.2 h1.1
  omega
theorem an_to {i : Int} (h : 1 ≤ i) : anF (i + 1 - 1).toNat = 96 * anF (i - 1).toNat / 100 ∧ anS (i + 1 - 1).toNat = anS (i - 1).toNat + 96 * anF (i - 1).toNat / 100 := by
  obtain ⟨n, rfl⟩ : ∃ n : Nat, i = n + 1 := ⟨(i - 1).toNat, by omega⟩
  rw [show ((n : Int) + 1 + 1 - 1).toNat = n + 1 by omega, show ((n : Int) + 1 - 1).toNat = n by omega]
  exact ⟨rfl, rfl⟩
set_option maxRecDepth 100000 in
set_option maxHeartbeats 4000000 in
theorem cD_annuityValue {g : ed_g} {l : Launch} (hl : l.stackTraces = false) {I : ed_I} {L : ed_L} {Y : ed_Y} {y a : Int} (hy : 0 ≤ y ∧ y ≤ 1000000000) (ha : 0 ≤ a ∧ a ≤ 99) {post : ed_post} (hp : post (.inl (some (.long (lZ (anV y a))))) Y I L) : ed_Ct g l mD_annuityValue 0 0 0 [.long (lZ y), .int (iZ a)] Y I L post := by
  refine ed_Ct.of hl rfl (Nat.le_of_ble_eq_true rfl) (fun x _ C => ?_)
  show Gd g x post _ _ _ _ _ _ _ _ 0 [(0, _), (2, _)] []
  have loop : ∀ (q : Nat) (i f t : Int), (102 - a - i).toNat < q → 1 ≤ i ∧ i ≤ 101 - a → f = anF (i - 1).toNat → t = anS (i - 1).toNat → Gd g x post 0 0 mD_annuityValue.2.2.1 0 0 Y I L 10 [(0, .long (lZ y)), (2, .int (iZ a)), (3, .long (lZ f)), (5, .long (lZ t)), (7, .int (iZ i))] [] := by
    intro q
    induction q with
    | zero => intro i f t hq; omega
    | succ q ih =>
      intro i f t hq g1 g2 g3
      have f1 := anF_in (i - 1).toNat
      have f2 := anM (n := (i - 1).toNat) hy (by omega)
      rw [← g3] at f2
      rw [← g2] at f1
      refine r_ild C dD_annuityValue_10 rfl ?_
      refine r_ik C dD_annuityValue_12 ?_
      refine r_ild C dD_annuityValue_14 rfl ?_
      refine r_isub C dD_annuityValue_15 ?_
      refine r_icmp_gt C dD_annuityValue_16 (by omega) (fun b16 => ?_) (fun b16 => ?_)
      · refine r_lld C dD_annuityValue_41 rfl ?_
        refine r_lld C dD_annuityValue_42 rfl ?_
        refine r_lmul C dD_annuityValue_44 ?_
        refine r_lk C dD_annuityValue_45 ?_
        refine r_ldiv C dD_annuityValue_48 (by omega) ?_
        exact r_lret C dD_annuityValue_49 rfl (Nat.le_of_ble_eq_true rfl) (Nat.le_of_ble_eq_true rfl) (by rw [g3, show (i - 1).toNat = (100 - a).toNat by omega]; exact hp)
      · refine r_lk C dD_annuityValue_19 ?_
        refine r_lld C dD_annuityValue_22 rfl ?_
        refine r_lmul C dD_annuityValue_23 ?_
        refine r_lk C dD_annuityValue_24 ?_
        refine r_ldiv C dD_annuityValue_27 (by omega) ?_
        refine r_lst C dD_annuityValue_28 (by decide) (ls' := [(0, _), (2, _), (3, _), (5, _), (7, _)]) rfl ?_
        refine r_lld C dD_annuityValue_29 rfl ?_
        refine r_lld C dD_annuityValue_31 rfl ?_
        refine r_ladd C dD_annuityValue_32 ?_
        refine r_lst C dD_annuityValue_33 (by decide) (ls' := [(0, _), (2, _), (3, _), (5, _), (7, _)]) rfl ?_
        refine r_iinc C dD_annuityValue_35 (by decide) rfl (ls' := [(0, _), (2, _), (3, _), (5, _), (7, _)]) rfl ?_
        refine r_goto C dD_annuityValue_38 ?_
        exact ih _ _ _ (by omega) (by omega) (by rw [(an_to g1.1).1, g2]) (by rw [(an_to g1.1).2, g2, g3])
  refine r_lk C dD_annuityValue_0 ?_
  refine r_lst C dD_annuityValue_3 (by decide) (ls' := [(0, _), (2, _), (3, _)]) rfl ?_
  refine r_lk C dD_annuityValue_4 ?_
  refine r_lst C dD_annuityValue_5 (by decide) (ls' := [(0, _), (2, _), (3, _), (5, _)]) rfl ?_
  refine r_ik C dD_annuityValue_7 ?_
  refine r_ist C dD_annuityValue_8 (by decide) (ls' := [(0, _), (2, _), (3, _), (5, _), (7, _)]) rfl ?_
  exact loop 200 1 1000000 0 (by omega) (by omega) rfl rfl
set_option maxRecDepth 100000 in
set_option maxHeartbeats 4000000 in
theorem cP_outlived {g : ed_g} {l : Launch} (hl : l.stackTraces = false) {I : ed_I} {L : ed_L} {p : Int} (hp0 : 0 ≤ p ∧ p ≤ 40) (hr : -2147483648 ≤ I 2 p ∧ I 2 p ≤ 2147483647 ∧ -2147483648 ≤ I 1 0 ∧ I 1 0 ≤ 2147483647) {post : ed_post} (h1 : I 2 p = 0 ∨ I 1 0 < I 2 p → post (.inl (some (.int (iZ 1)))) Yw I L) (h0 : ¬ (I 2 p = 0 ∨ I 1 0 < I 2 p) → post (.inl (some (.int (iZ 0)))) Yw I L) : ed_Ct g l mP_outlived 0 0 0 [.ref 1, .int (iZ p)] Yw I L post := by
  refine ed_Ct.of hl rfl (Nat.le_of_ble_eq_true rfl) (fun x _ C => ?_)
  show Gd g x post _ _ _ _ _ _ _ _ 0 [(0, _), (1, _)] []
  refine r_ald C dP_outlived_0 rfl ?_
  refine r_getR C dP_outlived_1 rfl rfl ?_
  refine r_ild C dP_outlived_4 rfl ?_
  refine r_iald C dP_outlived_5 rfl ⟨by omega, by omega⟩ (by decide) ?_
  refine r_if_eq C dP_outlived_6 (by omega) (fun b6 => ?_) (fun b6 => ?_)
  · refine r_ik C dP_outlived_22 ?_
    refine r_goto C dP_outlived_23 ?_
    exact r_zret C dP_outlived_27 rfl (by omega) (Nat.le_of_ble_eq_true rfl) (Nat.le_of_ble_eq_true rfl) (by first | exact h1 (by omega) | exact h0 (by omega))
  · refine r_ald C dP_outlived_9 rfl ?_
    refine r_getR C dP_outlived_10 rfl rfl ?_
    refine r_ild C dP_outlived_13 rfl ?_
    refine r_iald C dP_outlived_14 rfl ⟨by omega, by omega⟩ (by decide) ?_
    refine r_ald C dP_outlived_15 rfl ?_
    refine r_getI (z := 0) C dP_outlived_16 rfl rfl rfl ?_
    refine r_icmp_le C dP_outlived_19 (by omega) (fun b19 => ?_) (fun b19 => ?_)
    · refine r_ik C dP_outlived_26 ?_
      exact r_zret C dP_outlived_27 rfl (by omega) (Nat.le_of_ble_eq_true rfl) (Nat.le_of_ble_eq_true rfl) (by first | exact h1 (by omega) | exact h0 (by omega))
    · refine r_ik C dP_outlived_22 ?_
      refine r_goto C dP_outlived_23 ?_
      exact r_zret C dP_outlived_27 rfl (by omega) (Nat.le_of_ble_eq_true rfl) (Nat.le_of_ble_eq_true rfl) (by first | exact h1 (by omega) | exact h0 (by omega))
set_option maxRecDepth 100000 in
set_option maxHeartbeats 4000000 in
theorem cA_isThere {g : ed_g} {l : Launch} (hl : l.stackTraces = false) {I : ed_I} {L : ed_L} {p : Int} (hp0 : 0 ≤ p ∧ p ≤ 40) (hr : (I 7 p = 0 ∨ I 7 p = 1) ∧ (I 10 p = 0 ∨ I 10 p = 1)) {post : ed_post} (h1 : I 7 p ≠ 0 ∧ I 10 p = 0 → post (.inl (some (.int (iZ 1)))) Yw I L) (h0 : ¬ (I 7 p ≠ 0 ∧ I 10 p = 0) → post (.inl (some (.int (iZ 0)))) Yw I L) : ed_Ct g l mA_isThere 0 0 0 [.ref 6, .int (iZ p)] Yw I L post := by
  refine ed_Ct.of hl rfl (Nat.le_of_ble_eq_true rfl) (fun x _ C => ?_)
  show Gd g x post _ _ _ _ _ _ _ _ 0 [(0, _), (1, _)] []
  refine r_ald C dA_isThere_0 rfl ?_
  refine r_getR C dA_isThere_1 rfl rfl ?_
  refine r_ild C dA_isThere_4 rfl ?_
  refine r_zald C dA_isThere_5 rfl ⟨by omega, by omega⟩ (by decide) ?_
  refine r_if_eq C dA_isThere_6 (by omega) (fun b6 => ?_) (fun b6 => ?_)
  · refine r_ik C dA_isThere_22 ?_
    exact r_zret C dA_isThere_23 rfl (by omega) (Nat.le_of_ble_eq_true rfl) (Nat.le_of_ble_eq_true rfl) (by first | exact h1 (by omega) | exact h0 (by omega))
  · refine r_ald C dA_isThere_9 rfl ?_
    refine r_getR C dA_isThere_10 rfl rfl ?_
    refine r_ild C dA_isThere_13 rfl ?_
    refine r_zald C dA_isThere_14 rfl ⟨by omega, by omega⟩ (by decide) ?_
    refine r_if_ne C dA_isThere_15 (by omega) (fun b15 => ?_) (fun b15 => ?_)
    · refine r_ik C dA_isThere_22 ?_
      exact r_zret C dA_isThere_23 rfl (by omega) (Nat.le_of_ble_eq_true rfl) (Nat.le_of_ble_eq_true rfl) (by first | exact h1 (by omega) | exact h0 (by omega))
    · refine r_ik C dA_isThere_18 ?_
      refine r_goto C dA_isThere_19 ?_
      exact r_zret C dA_isThere_23 rfl (by omega) (Nat.le_of_ble_eq_true rfl) (Nat.le_of_ble_eq_true rfl) (by first | exact h1 (by omega) | exact h0 (by omega))
set_option maxRecDepth 100000 in
set_option maxHeartbeats 4000000 in
theorem cC_write {g : ed_g} {l : Launch} (hl : l.stackTraces = false) {I : ed_I} {L : ed_L} {c k m a : Int} (hc : 0 ≤ c ∧ c ≤ 40) {post : ed_post} (hn : post (.inl none) Yw (upI (upI (upI I 15 c k) 17 c a) 18 c 1) (upI L 16 c m)) : ed_Ct g l mC_write 0 0 0 [.ref 14, .int (iZ c), .int (iZ k), .long (lZ m), .int (iZ a)] Yw I L post := by
  refine ed_Ct.of hl rfl (Nat.le_of_ble_eq_true rfl) (fun x _ C => ?_)
  show Gd g x post _ _ _ _ _ _ _ _ 0 [(0, _), (1, _), (2, _), (3, _), (5, _)] []
  refine r_ald C dC_write_0 rfl ?_
  refine r_getR C dC_write_1 rfl rfl ?_
  refine r_ild C dC_write_4 rfl ?_
  refine r_ild C dC_write_5 rfl ?_
  refine r_iast C dC_write_6 rfl rfl ⟨by omega, by omega⟩ (by decide) ?_
  refine r_ald C dC_write_7 rfl ?_
  refine r_getR C dC_write_8 rfl rfl ?_
  refine r_ild C dC_write_11 rfl ?_
  refine r_lld C dC_write_12 rfl ?_
  refine r_last C dC_write_13 rfl rfl ⟨by omega, by omega⟩ (by decide) ?_
  refine r_ald C dC_write_14 rfl ?_
  refine r_getR C dC_write_15 rfl rfl ?_
  refine r_ild C dC_write_18 rfl ?_
  refine r_ild C dC_write_19 rfl ?_
  refine r_iast C dC_write_21 rfl rfl ⟨by omega, by omega⟩ (by decide) ?_
  refine r_ald C dC_write_22 rfl ?_
  refine r_getR C dC_write_23 rfl rfl ?_
  refine r_ild C dC_write_26 rfl ?_
  refine r_ik C dC_write_27 ?_
  refine r_zast C dC_write_28 rfl rfl ⟨by omega, by omega⟩ (by decide) (by omega) ?_
  exact r_vret C dC_write_29 rfl (Nat.le_of_ble_eq_true rfl) (Nat.le_of_ble_eq_true rfl) (hn)
set_option maxRecDepth 100000 in
set_option maxHeartbeats 4000000 in
theorem cC_anotherHas {g : ed_g} {l : Launch} (hl : l.stackTraces = false) {I : ed_I} {L : ed_L} {c w : Int} (hc : -2147483648 ≤ c ∧ c ≤ 2147483647) (hw : -2147483648 ≤ w ∧ w ≤ 2147483647) (hr : ∀ j, 0 ≤ j → j ≤ 40 → -1 ≤ I 17 j ∧ I 17 j ≤ 100000) {post : ed_post} (h1 : (∃ j, 1 ≤ j ∧ j ≤ 40 ∧ j ≠ c ∧ I 17 j = w) → post (.inl (some (.int (iZ 1)))) Yw I L) (h0 : (∀ j, 1 ≤ j → j ≤ 40 → j ≠ c → I 17 j ≠ w) → post (.inl (some (.int (iZ 0)))) Yw I L) : ed_Ct g l mC_anotherHas 0 0 0 [.ref 14, .int (iZ c), .int (iZ w)] Yw I L post := by
  refine ed_Ct.of hl rfl (Nat.le_of_ble_eq_true rfl) (fun x _ C => ?_)
  show Gd g x post _ _ _ _ _ _ _ _ 0 [(0, _), (1, _), (2, _)] []
  have loop : ∀ (q : Nat) (i : Int), (41 - i).toNat < q → 1 ≤ i ∧ i ≤ 41 → (∀ j, 1 ≤ j → j < i → j ≠ c → I 17 j ≠ w) → Gd g x post 0 0 mC_anotherHas.2.2.1 0 0 Yw I L 2 [(0, .ref 14), (1, .int (iZ c)), (2, .int (iZ w)), (3, .int (iZ i))] [] := by
    intro q
    induction q with
    | zero => intro i hq; omega
    | succ q ih =>
      intro i hq g1 g2
      have hri := fun (h : i ≤ 40) => hr i (by omega) h
      refine r_ild C dC_anotherHas_2 rfl ?_
      refine r_ik C dC_anotherHas_3 ?_
      refine r_icmp_gt C dC_anotherHas_5 (by omega) (fun b5 => ?_) (fun b5 => ?_)
      · refine r_ik C dC_anotherHas_31 ?_
        exact r_zret C dC_anotherHas_32 rfl (by omega) (Nat.le_of_ble_eq_true rfl) (Nat.le_of_ble_eq_true rfl) (by first | exact h0 (fun j j1 j2 j3 => g2 j j1 (by omega) j3) | exact h1 ⟨i, by omega, by omega, by omega, by omega⟩)
      · refine r_ild C dC_anotherHas_8 rfl ?_
        refine r_ild C dC_anotherHas_9 rfl ?_
        refine r_icmp_eq C dC_anotherHas_10 (by omega) (fun b10 => ?_) (fun b10 => ?_)
        · refine r_iinc C dC_anotherHas_25 (by decide) rfl (ls' := [(0, _), (1, _), (2, _), (3, _)]) rfl ?_
          refine r_goto C dC_anotherHas_28 ?_
          refine ih _ (by omega) (by omega) (fun j j1 j2 j3 => ?_)
          by_cases hj : j = i
          · subst hj; omega
          · exact g2 j j1 (by omega) j3
        · refine r_ald C dC_anotherHas_13 rfl ?_
          refine r_getR C dC_anotherHas_14 rfl rfl ?_
          refine r_ild C dC_anotherHas_17 rfl ?_
          refine r_iald C dC_anotherHas_18 rfl ⟨by omega, by omega⟩ (by decide) ?_
          refine r_ild C dC_anotherHas_19 rfl ?_
          refine r_icmp_ne C dC_anotherHas_20 (by omega) (fun b20 => ?_) (fun b20 => ?_)
          · refine r_iinc C dC_anotherHas_25 (by decide) rfl (ls' := [(0, _), (1, _), (2, _), (3, _)]) rfl ?_
            refine r_goto C dC_anotherHas_28 ?_
            refine ih _ (by omega) (by omega) (fun j j1 j2 j3 => ?_)
            by_cases hj : j = i
            · subst hj; omega
            · exact g2 j j1 (by omega) j3
          · refine r_ik C dC_anotherHas_23 ?_
            exact r_zret C dC_anotherHas_24 rfl (by omega) (Nat.le_of_ble_eq_true rfl) (Nat.le_of_ble_eq_true rfl) (by first | exact h0 (fun j j1 j2 j3 => g2 j j1 (by omega) j3) | exact h1 ⟨i, by omega, by omega, by omega, by omega⟩)
  refine r_ik C dC_anotherHas_0 ?_
  refine r_ist C dC_anotherHas_1 (by decide) (ls' := [(0, _), (1, _), (2, _), (3, _)]) rfl ?_
  exact loop 50 1 (by omega) (by omega) (fun j h1 h2 => by omega)
set_option maxRecDepth 100000 in
set_option maxHeartbeats 4000000 in
theorem cC_anotherGives {g : ed_g} {l : Launch} (hl : l.stackTraces = false) {I : ed_I} {L : ed_L} {c w : Int} (hc : -2147483648 ≤ c ∧ c ≤ 2147483647) (hw : -2147483648 ≤ w ∧ w ≤ 2147483647) (hr : ∀ j, 0 ≤ j → j ≤ 40 → -1 ≤ I 17 j ∧ I 17 j ≤ 100000) (hr2 : ∀ j, 0 ≤ j → j ≤ 40 → -1 ≤ I 15 j ∧ I 15 j ≤ 100000) {post : ed_post} (h1 : (∃ j, 1 ≤ j ∧ j ≤ 40 ∧ j ≠ c ∧ I 15 j = 1 ∧ I 17 j = w) → post (.inl (some (.int (iZ 1)))) Yw I L) (h0 : (∀ j, 1 ≤ j → j ≤ 40 → ¬ (j ≠ c ∧ I 15 j = 1 ∧ I 17 j = w)) → post (.inl (some (.int (iZ 0)))) Yw I L) : ed_Ct g l mC_anotherGives 0 0 0 [.ref 14, .int (iZ c), .int (iZ w)] Yw I L post := by
  refine ed_Ct.of hl rfl (Nat.le_of_ble_eq_true rfl) (fun x _ C => ?_)
  show Gd g x post _ _ _ _ _ _ _ _ 0 [(0, _), (1, _), (2, _)] []
  have loop : ∀ (q : Nat) (i : Int), (41 - i).toNat < q → 1 ≤ i ∧ i ≤ 41 → (∀ j, 1 ≤ j → j < i → ¬ (j ≠ c ∧ I 15 j = 1 ∧ I 17 j = w)) → Gd g x post 0 0 mC_anotherGives.2.2.1 0 0 Yw I L 2 [(0, .ref 14), (1, .int (iZ c)), (2, .int (iZ w)), (3, .int (iZ i))] [] := by
    intro q
    induction q with
    | zero => intro i hq; omega
    | succ q ih =>
      intro i hq g1 g2
      have hri := fun (h : i ≤ 40) => hr i (by omega) h
      have hri2 := fun (h : i ≤ 40) => hr2 i (by omega) h
      refine r_ild C dC_anotherGives_2 rfl ?_
      refine r_ik C dC_anotherGives_3 ?_
      refine r_icmp_gt C dC_anotherGives_5 (by omega) (fun b5 => ?_) (fun b5 => ?_)
      · refine r_ik C dC_anotherGives_41 ?_
        exact r_zret C dC_anotherGives_42 rfl (by omega) (Nat.le_of_ble_eq_true rfl) (Nat.le_of_ble_eq_true rfl) (by first | exact h0 (fun j j1 j2 j3 => g2 j j1 (by omega) j3) | exact h1 ⟨i, by omega, by omega, by omega, by omega, by omega⟩)
      · refine r_ild C dC_anotherGives_8 rfl ?_
        refine r_ild C dC_anotherGives_9 rfl ?_
        refine r_icmp_eq C dC_anotherGives_10 (by omega) (fun b10 => ?_) (fun b10 => ?_)
        · refine r_iinc C dC_anotherGives_35 (by decide) rfl (ls' := [(0, _), (1, _), (2, _), (3, _)]) rfl ?_
          refine r_goto C dC_anotherGives_38 ?_
          refine ih _ (by omega) (by omega) (fun j j1 j2 j3 => ?_)
          by_cases hj : j = i
          · subst hj; omega
          · exact g2 j j1 (by omega) j3
        · refine r_ald C dC_anotherGives_13 rfl ?_
          refine r_getR C dC_anotherGives_14 rfl rfl ?_
          refine r_ild C dC_anotherGives_17 rfl ?_
          refine r_iald C dC_anotherGives_18 rfl ⟨by omega, by omega⟩ (by decide) ?_
          refine r_ik C dC_anotherGives_19 ?_
          refine r_icmp_ne C dC_anotherGives_20 (by omega) (fun b20 => ?_) (fun b20 => ?_)
          · refine r_iinc C dC_anotherGives_35 (by decide) rfl (ls' := [(0, _), (1, _), (2, _), (3, _)]) rfl ?_
            refine r_goto C dC_anotherGives_38 ?_
            refine ih _ (by omega) (by omega) (fun j j1 j2 j3 => ?_)
            by_cases hj : j = i
            · subst hj; omega
            · exact g2 j j1 (by omega) j3
          · refine r_ald C dC_anotherGives_23 rfl ?_
            refine r_getR C dC_anotherGives_24 rfl rfl ?_
            refine r_ild C dC_anotherGives_27 rfl ?_
            refine r_iald C dC_anotherGives_28 rfl ⟨by omega, by omega⟩ (by decide) ?_
            refine r_ild C dC_anotherGives_29 rfl ?_
            refine r_icmp_ne C dC_anotherGives_30 (by omega) (fun b30 => ?_) (fun b30 => ?_)
            · refine r_iinc C dC_anotherGives_35 (by decide) rfl (ls' := [(0, _), (1, _), (2, _), (3, _)]) rfl ?_
              refine r_goto C dC_anotherGives_38 ?_
              refine ih _ (by omega) (by omega) (fun j j1 j2 j3 => ?_)
              by_cases hj : j = i
              · subst hj; omega
              · exact g2 j j1 (by omega) j3
            · refine r_ik C dC_anotherGives_33 ?_
              exact r_zret C dC_anotherGives_34 rfl (by omega) (Nat.le_of_ble_eq_true rfl) (Nat.le_of_ble_eq_true rfl) (by first | exact h0 (fun j j1 j2 j3 => g2 j j1 (by omega) j3) | exact h1 ⟨i, by omega, by omega, by omega, by omega, by omega⟩)
  refine r_ik C dC_anotherGives_0 ?_
  refine r_ist C dC_anotherGives_1 (by decide) (ls' := [(0, _), (1, _), (2, _), (3, _)]) rfl ?_
  exact loop 50 1 (by omega) (by omega) (fun j h1 h2 => by omega)
set_option maxRecDepth 100000 in
set_option maxHeartbeats 4000000 in
theorem cC_worthInAll {g : ed_g} {l : Launch} (hl : l.stackTraces = false) {I : ed_I} {L : ed_L} {c : Int} (hc : 0 ≤ c ∧ c ≤ 40) {post : ed_post} (hn : post (.inl (some (.long (lZ (L 63 c + L 64 c + L 65 c))))) Yw I L) : ed_Ct g l mC_worthInAll 0 0 0 [.ref 14, .int (iZ c)] Yw I L post := by
  refine ed_Ct.of hl rfl (Nat.le_of_ble_eq_true rfl) (fun x _ C => ?_)
  show Gd g x post _ _ _ _ _ _ _ _ 0 [(0, _), (1, _)] []
  refine r_ald C dC_worthInAll_0 rfl ?_
  refine r_getR C dC_worthInAll_1 rfl rfl ?_
  refine r_ild C dC_worthInAll_4 rfl ?_
  refine r_lald C dC_worthInAll_5 rfl ⟨by omega, by omega⟩ (by decide) ?_
  refine r_ald C dC_worthInAll_6 rfl ?_
  refine r_getR C dC_worthInAll_7 rfl rfl ?_
  refine r_ild C dC_worthInAll_10 rfl ?_
  refine r_lald C dC_worthInAll_11 rfl ⟨by omega, by omega⟩ (by decide) ?_
  refine r_ladd C dC_worthInAll_12 ?_
  refine r_ald C dC_worthInAll_13 rfl ?_
  refine r_getR C dC_worthInAll_14 rfl rfl ?_
  refine r_ild C dC_worthInAll_17 rfl ?_
  refine r_lald C dC_worthInAll_18 rfl ⟨by omega, by omega⟩ (by decide) ?_
  refine r_ladd C dC_worthInAll_19 ?_
  exact r_lret C dC_worthInAll_20 rfl (Nat.le_of_ble_eq_true rfl) (Nat.le_of_ble_eq_true rfl) (hn)
