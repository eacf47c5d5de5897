/-! each call, at the class and at the reference -/
def lr_testator (I : ed_I) (L : ed_L) (a : Int) (z9 : Int) (I1 : ed_I) (L1 : ed_L) : Prop := ((¬ (1 ≤ a ∧ a ≤ 100000)) ∧ z9 = 1 ∧ I1 = I ∧ L1 = L) ∨ (((1 ≤ a ∧ a ≤ 100000)) ∧ (¬ (I 0 7 = 0)) ∧ z9 = 2 ∧ I1 = I ∧ L1 = L) ∨ (((1 ≤ a ∧ a ≤ 100000)) ∧ ((I 0 7 = 0)) ∧ z9 = 0 ∧ I1 = (upI (upI I 1 0 a) 0 6 0) ∧ L1 = L)
theorem lc_testator {g : ed_g} {l : Launch} (hl : l.stackTraces = false) {I : ed_I} {L : ed_L} {a : Int} (ra : -2147483648 ≤ a ∧ a ≤ 2147483647) (hc : I 0 7 = 0 ∨ I 0 7 = 1) {post : ed_post} (h : ∀ z9 I1 L1, lr_testator I L a z9 I1 L1 → post (.inl (some (.int (iZ z9)))) Yw I1 L1) : ed_Ct g l mL_testator 5 2 12 [.ref 0, .int (iZ a)] Yw I L post :=
  cL_testator hl ra hc (hA := fun b0 => h _ _ _ (Or.inl ⟨b0, rfl, rfl, rfl⟩)) (hS := fun b0 b1 => h _ _ _ (Or.inr (Or.inl ⟨b0, b1, rfl, rfl, rfl⟩))) (hn := fun b0 b1 => h _ _ _ (Or.inr (Or.inr (⟨b0, b1, rfl, rfl, rfl⟩))))
def mr_testator (I : ed_I) (L : ed_L) (a : Int) (I1 : ed_I) (L1 : ed_L) : Prop := ((¬ (1 ≤ a ∧ a ≤ 100000)) ∧ I1 = (upI I 79 0 1) ∧ L1 = L) ∨ (((1 ≤ a ∧ a ≤ 100000)) ∧ (¬ (I 79 2 = 0)) ∧ I1 = (upI I 79 0 2) ∧ L1 = L) ∨ (((1 ≤ a ∧ a ≤ 100000)) ∧ ((I 79 2 = 0)) ∧ I1 = (upI (upI (upI I 79 0 0) 79 4 0) 79 1 a) ∧ L1 = L)
theorem mc_testator {g : ed_g} {l : Launch} (hl : l.stackTraces = false) {I : ed_I} {L : ed_L} {a : Int} (ra : -2147483648 ≤ a ∧ a ≤ 2147483647) (hc : I 79 2 = 0 ∨ I 79 2 = 1) {post : ed_post} (h : ∀ I1 L1, mr_testator I L a I1 L1 → post (.inl none) Yw I1 L1) : ed_Ct g l mM_testator 3 0 0 [.ref 79, .int (iZ a)] Yw I L post :=
  cM_testator hl ra hc (h1 := fun b0 => h _ _ (Or.inl ⟨b0, rfl, rfl⟩)) (h2 := fun b0 b1 => h _ _ (Or.inr (Or.inl ⟨b0, b1, rfl, rfl⟩))) (hn := fun b0 b1 => h _ _ (Or.inr (Or.inr (⟨b0, b1, rfl, rfl⟩))))
def lr_person (I : ed_I) (L : ed_L) (a b : Int) (z9 : Int) (I1 : ed_I) (L1 : ed_L) : Prop := ((¬ ((1 ≤ a ∧ a ≤ 40) ∧ 0 ≤ b ∧ b ≤ 100000)) ∧ z9 = 1 ∧ I1 = I ∧ L1 = L) ∨ ((((1 ≤ a ∧ a ≤ 40) ∧ 0 ≤ b ∧ b ≤ 100000)) ∧ (¬ (I 0 7 = 0)) ∧ z9 = 2 ∧ I1 = I ∧ L1 = L) ∨ ((((1 ≤ a ∧ a ≤ 40) ∧ 0 ≤ b ∧ b ≤ 100000)) ∧ ((I 0 7 = 0)) ∧ z9 = 0 ∧ I1 = (upI (upI I 2 a b) 0 6 0) ∧ L1 = L)
theorem lc_person {g : ed_g} {l : Launch} (hl : l.stackTraces = false) {I : ed_I} {L : ed_L} {a b : Int} (ra : -2147483648 ≤ a ∧ a ≤ 2147483647) (rb : -2147483648 ≤ b ∧ b ≤ 2147483647) (hc : I 0 7 = 0 ∨ I 0 7 = 1) {post : ed_post} (h : ∀ z9 I1 L1, lr_person I L a b z9 I1 L1 → post (.inl (some (.int (iZ z9)))) Yw I1 L1) : ed_Ct g l mL_person 5 3 18 [.ref 0, .int (iZ a), .int (iZ b)] Yw I L post :=
  cL_person hl ra rb hc (hA := fun b0 => h _ _ _ (Or.inl ⟨b0, rfl, rfl, rfl⟩)) (hS := fun b0 b1 => h _ _ _ (Or.inr (Or.inl ⟨b0, b1, rfl, rfl, rfl⟩))) (hn := fun b0 b1 => h _ _ _ (Or.inr (Or.inr (⟨b0, b1, rfl, rfl, rfl⟩))))
def mr_person (I : ed_I) (L : ed_L) (a b : Int) (I1 : ed_I) (L1 : ed_L) : Prop := ((¬ ((1 ≤ a ∧ a ≤ 40) ∧ 0 ≤ b ∧ b ≤ 100000)) ∧ I1 = (upI I 79 0 1) ∧ L1 = L) ∨ ((((1 ≤ a ∧ a ≤ 40) ∧ 0 ≤ b ∧ b ≤ 100000)) ∧ (¬ (I 79 2 = 0)) ∧ I1 = (upI I 79 0 2) ∧ L1 = L) ∨ ((((1 ≤ a ∧ a ≤ 40) ∧ 0 ≤ b ∧ b ≤ 100000)) ∧ ((I 79 2 = 0)) ∧ I1 = (upI (upI (upI I 79 0 0) 79 4 0) 80 a b) ∧ L1 = L)
theorem mc_person {g : ed_g} {l : Launch} (hl : l.stackTraces = false) {I : ed_I} {L : ed_L} {a b : Int} (ra : -2147483648 ≤ a ∧ a ≤ 2147483647) (rb : -2147483648 ≤ b ∧ b ≤ 2147483647) (hc : I 79 2 = 0 ∨ I 79 2 = 1) {post : ed_post} (h : ∀ I1 L1, mr_person I L a b I1 L1 → post (.inl none) Yw I1 L1) : ed_Ct g l mM_person 3 0 0 [.ref 79, .int (iZ a), .int (iZ b)] Yw I L post :=
  cM_person hl ra rb hc (h1 := fun b0 => h _ _ (Or.inl ⟨b0, rfl, rfl⟩)) (h2 := fun b0 b1 => h _ _ (Or.inr (Or.inl ⟨b0, b1, rfl, rfl⟩))) (hn := fun b0 b1 => h _ _ (Or.inr (Or.inr (⟨b0, b1, rfl, rfl⟩))))
def lr_asset (I : ed_I) (L : ed_L) (a v f : Int) (z9 : Int) (I1 : ed_I) (L1 : ed_L) : Prop := ((¬ ((1 ≤ a ∧ a ≤ 40) ∧ 0 ≤ v ∧ v ≤ 1000000000000)) ∧ z9 = 1 ∧ I1 = I ∧ L1 = L) ∨ ((((1 ≤ a ∧ a ≤ 40) ∧ 0 ≤ v ∧ v ≤ 1000000000000)) ∧ (¬ (I 0 7 = 0 ∧ I 7 a = 0)) ∧ z9 = 2 ∧ I1 = I ∧ L1 = L) ∨ ((((1 ≤ a ∧ a ≤ 40) ∧ 0 ≤ v ∧ v ≤ 1000000000000)) ∧ ((I 0 7 = 0 ∧ I 7 a = 0)) ∧ z9 = 0 ∧ I1 = (upI (upI (upI I 7 a 1) 9 a f) 0 6 0) ∧ L1 = (upI L 8 a v))
theorem lc_asset {g : ed_g} {l : Launch} (hl : l.stackTraces = false) {I : ed_I} {L : ed_L} {a v f : Int} (ra : -2147483648 ≤ a ∧ a ≤ 2147483647) (rv : -9223372036854775808 ≤ v ∧ v ≤ 9223372036854775807) (hf : f = 0 ∨ f = 1) (hc : I 0 7 = 0 ∨ I 0 7 = 1) (hk : ∀ j, 0 ≤ j → j ≤ 40 → I 7 j = 0 ∨ I 7 j = 1) {post : ed_post} (h : ∀ z9 I1 L1, lr_asset I L a v f z9 I1 L1 → post (.inl (some (.int (iZ z9)))) Yw I1 L1) : ed_Ct g l mL_asset 5 4 24 [.ref 0, .int (iZ a), .long (lZ v), .int (iZ f)] Yw I L post :=
  cL_asset hl ra rv hf hc hk (hA := fun b0 => h _ _ _ (Or.inl ⟨b0, rfl, rfl, rfl⟩)) (hS := fun b0 b1 => h _ _ _ (Or.inr (Or.inl ⟨b0, b1, rfl, rfl, rfl⟩))) (hn := fun b0 b1 => h _ _ _ (Or.inr (Or.inr (⟨b0, b1, rfl, rfl, rfl⟩))))
def mr_asset (I : ed_I) (L : ed_L) (a v f : Int) (I1 : ed_I) (L1 : ed_L) : Prop := ((¬ ((1 ≤ a ∧ a ≤ 40) ∧ 0 ≤ v ∧ v ≤ 1000000000000)) ∧ I1 = (upI I 79 0 1) ∧ L1 = L) ∨ ((((1 ≤ a ∧ a ≤ 40) ∧ 0 ≤ v ∧ v ≤ 1000000000000)) ∧ (¬ (I 79 2 = 0 ∧ I 81 a = 0)) ∧ I1 = (upI I 79 0 2) ∧ L1 = L) ∨ ((((1 ≤ a ∧ a ≤ 40) ∧ 0 ≤ v ∧ v ≤ 1000000000000)) ∧ ((I 79 2 = 0 ∧ I 81 a = 0)) ∧ I1 = (upI (upI (upI (upI (upI I 79 0 0) 79 4 0) 81 a 1) 83 a f) 84 a 0) ∧ L1 = (upI L 82 a v))
theorem mc_asset {g : ed_g} {l : Launch} (hl : l.stackTraces = false) {I : ed_I} {L : ed_L} {a v f : Int} (ra : -2147483648 ≤ a ∧ a ≤ 2147483647) (rv : -9223372036854775808 ≤ v ∧ v ≤ 9223372036854775807) (hf : f = 0 ∨ f = 1) (hc : I 79 2 = 0 ∨ I 79 2 = 1) (hk : ∀ j, 0 ≤ j → j ≤ 40 → I 81 j = 0 ∨ I 81 j = 1) {post : ed_post} (h : ∀ I1 L1, mr_asset I L a v f I1 L1 → post (.inl none) Yw I1 L1) : ed_Ct g l mM_asset 3 0 0 [.ref 79, .int (iZ a), .long (lZ v), .int (iZ f)] Yw I L post :=
  cM_asset hl ra rv hf hc hk (h1 := fun b0 => h _ _ (Or.inl ⟨b0, rfl, rfl⟩)) (h2 := fun b0 b1 => h _ _ (Or.inr (Or.inl ⟨b0, b1, rfl, rfl⟩))) (hn := fun b0 b1 => h _ _ (Or.inr (Or.inr (⟨b0, b1, rfl, rfl⟩))))
def lr_revalue (I : ed_I) (L : ed_L) (a v : Int) (z9 : Int) (I1 : ed_I) (L1 : ed_L) : Prop := ((¬ (((1 ≤ a ∧ a ≤ 40) ∧ I 7 a ≠ 0) ∧ 0 ≤ v ∧ v ≤ 1000000000000)) ∧ z9 = 1 ∧ I1 = I ∧ L1 = L) ∨ (((((1 ≤ a ∧ a ≤ 40) ∧ I 7 a ≠ 0) ∧ 0 ≤ v ∧ v ≤ 1000000000000)) ∧ (¬ (I 0 7 = 0)) ∧ z9 = 2 ∧ I1 = I ∧ L1 = L) ∨ (((((1 ≤ a ∧ a ≤ 40) ∧ I 7 a ≠ 0) ∧ 0 ≤ v ∧ v ≤ 1000000000000)) ∧ ((I 0 7 = 0)) ∧ z9 = 0 ∧ I1 = (upI I 0 6 0) ∧ L1 = (upI (upI L 8 a v) 112 0 (L 8 a)))
theorem lc_revalue {g : ed_g} {l : Launch} (hl : l.stackTraces = false) {I : ed_I} {L : ed_L} {a v : Int} (ra : -2147483648 ≤ a ∧ a ≤ 2147483647) (rv : -9223372036854775808 ≤ v ∧ v ≤ 9223372036854775807) (hc : I 0 7 = 0 ∨ I 0 7 = 1) (hk : ∀ j, 0 ≤ j → j ≤ 40 → I 7 j = 0 ∨ I 7 j = 1) {post : ed_post} (h : ∀ z9 I1 L1, lr_revalue I L a v z9 I1 L1 → post (.inl (some (.int (iZ z9)))) Yw I1 L1) : ed_Ct g l mL_revalue 5 4 24 [.ref 0, .int (iZ a), .long (lZ v), .ref 112] Yw I L post :=
  cL_revalue hl ra rv hc hk (hA := fun b0 => h _ _ _ (Or.inl ⟨b0, rfl, rfl, rfl⟩)) (hS := fun b0 b1 => h _ _ _ (Or.inr (Or.inl ⟨b0, b1, rfl, rfl, rfl⟩))) (hn := fun b0 b1 => h _ _ _ (Or.inr (Or.inr (⟨b0, b1, rfl, rfl, rfl⟩))))
def mr_revalue (I : ed_I) (L : ed_L) (a v : Int) (z9 : Int) (I1 : ed_I) (L1 : ed_L) : Prop := ((¬ (((1 ≤ a ∧ a ≤ 40) ∧ I 81 a ≠ 0) ∧ 0 ≤ v ∧ v ≤ 1000000000000)) ∧ z9 = 0 ∧ I1 = (upI I 79 0 1) ∧ L1 = L) ∨ (((((1 ≤ a ∧ a ≤ 40) ∧ I 81 a ≠ 0) ∧ 0 ≤ v ∧ v ≤ 1000000000000)) ∧ (¬ (I 79 2 = 0)) ∧ z9 = 0 ∧ I1 = (upI I 79 0 2) ∧ L1 = L) ∨ (((((1 ≤ a ∧ a ≤ 40) ∧ I 81 a ≠ 0) ∧ 0 ≤ v ∧ v ≤ 1000000000000)) ∧ ((I 79 2 = 0)) ∧ z9 = (L 82 a) ∧ I1 = (upI (upI I 79 0 0) 79 4 0) ∧ L1 = (upI L 82 a v))
theorem mc_revalue {g : ed_g} {l : Launch} (hl : l.stackTraces = false) {I : ed_I} {L : ed_L} {a v : Int} (ra : -2147483648 ≤ a ∧ a ≤ 2147483647) (rv : -9223372036854775808 ≤ v ∧ v ≤ 9223372036854775807) (hc : I 79 2 = 0 ∨ I 79 2 = 1) (hk : ∀ j, 0 ≤ j → j ≤ 40 → I 81 j = 0 ∨ I 81 j = 1) {post : ed_post} (h : ∀ z9 I1 L1, mr_revalue I L a v z9 I1 L1 → post (.inl (some (.long (lZ z9)))) Yw I1 L1) : ed_Ct g l mM_revalue 3 0 0 [.ref 79, .int (iZ a), .long (lZ v)] Yw I L post :=
  cM_revalue hl ra rv hc hk (h1 := fun b0 => h _ _ _ (Or.inl ⟨b0, rfl, rfl, rfl⟩)) (h2 := fun b0 b1 => h _ _ _ (Or.inr (Or.inl ⟨b0, b1, rfl, rfl, rfl⟩))) (hn := fun b0 b1 => h _ _ _ (Or.inr (Or.inr (⟨b0, b1, rfl, rfl, rfl⟩))))
def lr_gone (I : ed_I) (L : ed_L) (a : Int) (z9 : Int) (I1 : ed_I) (L1 : ed_L) : Prop := ((¬ ((1 ≤ a ∧ a ≤ 40) ∧ I 7 a ≠ 0)) ∧ z9 = 1 ∧ I1 = I ∧ L1 = L) ∨ ((((1 ≤ a ∧ a ≤ 40) ∧ I 7 a ≠ 0)) ∧ (¬ (I 0 7 = 0)) ∧ z9 = 2 ∧ I1 = I ∧ L1 = L) ∨ ((((1 ≤ a ∧ a ≤ 40) ∧ I 7 a ≠ 0)) ∧ ((I 0 7 = 0)) ∧ z9 = 0 ∧ I1 = (upI (upI I 10 a 1) 0 6 0) ∧ L1 = L)
theorem lc_gone {g : ed_g} {l : Launch} (hl : l.stackTraces = false) {I : ed_I} {L : ed_L} {a : Int} (ra : -2147483648 ≤ a ∧ a ≤ 2147483647) (hc : I 0 7 = 0 ∨ I 0 7 = 1) (hk : ∀ j, 0 ≤ j → j ≤ 40 → I 7 j = 0 ∨ I 7 j = 1) {post : ed_post} (h : ∀ z9 I1 L1, lr_gone I L a z9 I1 L1 → post (.inl (some (.int (iZ z9)))) Yw I1 L1) : ed_Ct g l mL_gone 5 3 18 [.ref 0, .int (iZ a)] Yw I L post :=
  cL_gone hl ra hc hk (hA := fun b0 => h _ _ _ (Or.inl ⟨b0, rfl, rfl, rfl⟩)) (hS := fun b0 b1 => h _ _ _ (Or.inr (Or.inl ⟨b0, b1, rfl, rfl, rfl⟩))) (hn := fun b0 b1 => h _ _ _ (Or.inr (Or.inr (⟨b0, b1, rfl, rfl, rfl⟩))))
def mr_gone (I : ed_I) (L : ed_L) (a : Int) (I1 : ed_I) (L1 : ed_L) : Prop := ((¬ ((1 ≤ a ∧ a ≤ 40) ∧ I 81 a ≠ 0)) ∧ I1 = (upI I 79 0 1) ∧ L1 = L) ∨ ((((1 ≤ a ∧ a ≤ 40) ∧ I 81 a ≠ 0)) ∧ (¬ (I 79 2 = 0)) ∧ I1 = (upI I 79 0 2) ∧ L1 = L) ∨ ((((1 ≤ a ∧ a ≤ 40) ∧ I 81 a ≠ 0)) ∧ ((I 79 2 = 0)) ∧ I1 = (upI (upI (upI I 79 0 0) 79 4 0) 84 a 1) ∧ L1 = L)
theorem mc_gone {g : ed_g} {l : Launch} (hl : l.stackTraces = false) {I : ed_I} {L : ed_L} {a : Int} (ra : -2147483648 ≤ a ∧ a ≤ 2147483647) (hc : I 79 2 = 0 ∨ I 79 2 = 1) (hk : ∀ j, 0 ≤ j → j ≤ 40 → I 81 j = 0 ∨ I 81 j = 1) {post : ed_post} (h : ∀ I1 L1, mr_gone I L a I1 L1 → post (.inl none) Yw I1 L1) : ed_Ct g l mM_gone 3 0 0 [.ref 79, .int (iZ a)] Yw I L post :=
  cM_gone hl ra hc hk (h1 := fun b0 => h _ _ (Or.inl ⟨b0, rfl, rfl⟩)) (h2 := fun b0 b1 => h _ _ (Or.inr (Or.inl ⟨b0, b1, rfl, rfl⟩))) (hn := fun b0 b1 => h _ _ (Or.inr (Or.inr (⟨b0, b1, rfl, rfl⟩))))
def lr_gift (I : ed_I) (L : ed_L) (c a : Int) (z9 : Int) (I1 : ed_I) (L1 : ed_L) : Prop := ((¬ ((1 ≤ c ∧ c ≤ 40) ∧ (1 ≤ a ∧ a ≤ 40) ∧ I 7 a ≠ 0)) ∧ z9 = 1 ∧ I1 = I ∧ L1 = L) ∨ ((((1 ≤ c ∧ c ≤ 40) ∧ (1 ≤ a ∧ a ≤ 40) ∧ I 7 a ≠ 0)) ∧ (¬ (I 0 7 = 0 ∧ ∀ j, 1 ≤ j → j ≤ 40 → j ≠ c → I 17 j ≠ a)) ∧ z9 = 2 ∧ I1 = I ∧ L1 = L) ∨ ((((1 ≤ c ∧ c ≤ 40) ∧ (1 ≤ a ∧ a ≤ 40) ∧ I 7 a ≠ 0)) ∧ ((I 0 7 = 0 ∧ ∀ j, 1 ≤ j → j ≤ 40 → j ≠ c → I 17 j ≠ a)) ∧ z9 = 0 ∧ I1 = (upI (upI (upI (upI I 15 c 1) 17 c a) 18 c 1) 0 6 0) ∧ L1 = (upI L 16 c 0))
theorem lc_gift {g : ed_g} {l : Launch} (hl : l.stackTraces = false) {I : ed_I} {L : ed_L} {c a : Int} (rc : -2147483648 ≤ c ∧ c ≤ 2147483647) (ra : -2147483648 ≤ a ∧ a ≤ 2147483647) (hc : I 0 7 = 0 ∨ I 0 7 = 1) (hk : ∀ j, 0 ≤ j → j ≤ 40 → I 7 j = 0 ∨ I 7 j = 1) (hr : ∀ j, 0 ≤ j → j ≤ 40 → -1 ≤ I 17 j ∧ I 17 j ≤ 100000) {post : ed_post} (h : ∀ z9 I1 L1, lr_gift I L c a z9 I1 L1 → post (.inl (some (.int (iZ z9)))) Yw I1 L1) : ed_Ct g l mL_gift 5 5 30 [.ref 0, .int (iZ c), .int (iZ a)] Yw I L post :=
  cL_gift hl rc ra hc hk hr (hA := fun b0 => h _ _ _ (Or.inl ⟨b0, rfl, rfl, rfl⟩)) (hS := fun b0 b1 => h _ _ _ (Or.inr (Or.inl ⟨b0, b1, rfl, rfl, rfl⟩))) (hn := fun b0 b1 => h _ _ _ (Or.inr (Or.inr (⟨b0, b1, rfl, rfl, rfl⟩))))
def mr_gift (I : ed_I) (L : ed_L) (c a : Int) (I1 : ed_I) (L1 : ed_L) : Prop := ((¬ ((1 ≤ c ∧ c ≤ 40) ∧ (1 ≤ a ∧ a ≤ 40) ∧ I 81 a ≠ 0)) ∧ I1 = (upI I 79 0 1) ∧ L1 = L) ∨ ((((1 ≤ c ∧ c ≤ 40) ∧ (1 ≤ a ∧ a ≤ 40) ∧ I 81 a ≠ 0)) ∧ (¬ (I 79 2 = 0 ∧ ¬ mHad I c a 1 41)) ∧ I1 = (upI I 79 0 2) ∧ L1 = L) ∨ ((((1 ≤ c ∧ c ≤ 40) ∧ (1 ≤ a ∧ a ≤ 40) ∧ I 81 a ≠ 0)) ∧ ((I 79 2 = 0 ∧ ¬ mHad I c a 1 41)) ∧ I1 = (upI (upI (upI (upI (upI (upI I 79 0 0) 79 4 0) 85 c 1) 86 c a) 88 c 0) 89 c 1) ∧ L1 = (upI L 87 c 0))
theorem mc_gift {g : ed_g} {l : Launch} (hl : l.stackTraces = false) {I : ed_I} {L : ed_L} {c a : Int} (rc : -2147483648 ≤ c ∧ c ≤ 2147483647) (ra : -2147483648 ≤ a ∧ a ≤ 2147483647) (hc : I 79 2 = 0 ∨ I 79 2 = 1) (hk : ∀ j, 0 ≤ j → j ≤ 40 → I 81 j = 0 ∨ I 81 j = 1) (hr : ∀ j, 0 ≤ j → j ≤ 40 → -1 ≤ I 86 j ∧ I 86 j ≤ 100000) (hr2 : ∀ j, 0 ≤ j → j ≤ 40 → -1 ≤ I 85 j ∧ I 85 j ≤ 100000) {post : ed_post} (h : ∀ I1 L1, mr_gift I L c a I1 L1 → post (.inl none) Yw I1 L1) : ed_Ct g l mM_gift 3 0 0 [.ref 79, .int (iZ c), .int (iZ a)] Yw I L post :=
  cM_gift hl rc ra hc hk hr hr2 (h1 := fun b0 => h _ _ (Or.inl ⟨b0, rfl, rfl⟩)) (h2 := fun b0 b1 => h _ _ (Or.inr (Or.inl ⟨b0, b1, rfl, rfl⟩))) (hn := fun b0 b1 => h _ _ (Or.inr (Or.inr (⟨b0, b1, rfl, rfl⟩))))
def lr_legacy (I : ed_I) (L : ed_L) (c v a : Int) (z9 : Int) (I1 : ed_I) (L1 : ed_L) : Prop := ((¬ ((1 ≤ c ∧ c ≤ 40) ∧ (0 ≤ v ∧ v ≤ 1000000000000) ∧ (a = 0 ∨ ((1 ≤ a ∧ a ≤ 40) ∧ I 7 a ≠ 0 ∧ I 9 a ≠ 0)))) ∧ z9 = 1 ∧ I1 = I ∧ L1 = L) ∨ ((((1 ≤ c ∧ c ≤ 40) ∧ (0 ≤ v ∧ v ≤ 1000000000000) ∧ (a = 0 ∨ ((1 ≤ a ∧ a ≤ 40) ∧ I 7 a ≠ 0 ∧ I 9 a ≠ 0)))) ∧ (¬ (I 0 7 = 0 ∧ ∀ j, 1 ≤ j → j ≤ 40 → ¬ (j ≠ c ∧ I 15 j = 1 ∧ I 17 j = a))) ∧ z9 = 2 ∧ I1 = I ∧ L1 = L) ∨ ((((1 ≤ c ∧ c ≤ 40) ∧ (0 ≤ v ∧ v ≤ 1000000000000) ∧ (a = 0 ∨ ((1 ≤ a ∧ a ≤ 40) ∧ I 7 a ≠ 0 ∧ I 9 a ≠ 0)))) ∧ ((I 0 7 = 0 ∧ ∀ j, 1 ≤ j → j ≤ 40 → ¬ (j ≠ c ∧ I 15 j = 1 ∧ I 17 j = a))) ∧ z9 = 0 ∧ I1 = (upI (upI (upI (upI I 15 c 2) 17 c a) 18 c 1) 0 6 0) ∧ L1 = (upI L 16 c v))
theorem lc_legacy {g : ed_g} {l : Launch} (hl : l.stackTraces = false) {I : ed_I} {L : ed_L} {c v a : Int} (rc : -2147483648 ≤ c ∧ c ≤ 2147483647) (ra : -2147483648 ≤ a ∧ a ≤ 2147483647) (rv : -9223372036854775808 ≤ v ∧ v ≤ 9223372036854775807) (hc : I 0 7 = 0 ∨ I 0 7 = 1) (hk : ∀ j, 0 ≤ j → j ≤ 40 → I 7 j = 0 ∨ I 7 j = 1) (hfu : ∀ j, 0 ≤ j → j ≤ 40 → I 9 j = 0 ∨ I 9 j = 1) (hr : ∀ j, 0 ≤ j → j ≤ 40 → -1 ≤ I 17 j ∧ I 17 j ≤ 100000) (hr2 : ∀ j, 0 ≤ j → j ≤ 40 → -1 ≤ I 15 j ∧ I 15 j ≤ 100000) {post : ed_post} (h : ∀ z9 I1 L1, lr_legacy I L c v a z9 I1 L1 → post (.inl (some (.int (iZ z9)))) Yw I1 L1) : ed_Ct g l mL_legacy 5 7 42 [.ref 0, .int (iZ c), .long (lZ v), .int (iZ a)] Yw I L post :=
  cL_legacy hl rc ra rv hc hk hfu hr hr2 (hA := fun b0 => h _ _ _ (Or.inl ⟨b0, rfl, rfl, rfl⟩)) (hS := fun b0 b1 => h _ _ _ (Or.inr (Or.inl ⟨b0, b1, rfl, rfl, rfl⟩))) (hn := fun b0 b1 => h _ _ _ (Or.inr (Or.inr (⟨b0, b1, rfl, rfl, rfl⟩))))
def mr_legacy (I : ed_I) (L : ed_L) (c v a : Int) (I1 : ed_I) (L1 : ed_L) : Prop := ((¬ ((1 ≤ c ∧ c ≤ 40) ∧ (0 ≤ v ∧ v ≤ 1000000000000) ∧ (a = 0 ∨ ((1 ≤ a ∧ a ≤ 40) ∧ I 81 a ≠ 0 ∧ I 83 a ≠ 0)))) ∧ I1 = (upI I 79 0 1) ∧ L1 = L) ∨ ((((1 ≤ c ∧ c ≤ 40) ∧ (0 ≤ v ∧ v ≤ 1000000000000) ∧ (a = 0 ∨ ((1 ≤ a ∧ a ≤ 40) ∧ I 81 a ≠ 0 ∧ I 83 a ≠ 0)))) ∧ (¬ (I 79 2 = 0 ∧ ¬ mHad I c a 0 41)) ∧ I1 = (upI I 79 0 2) ∧ L1 = L) ∨ ((((1 ≤ c ∧ c ≤ 40) ∧ (0 ≤ v ∧ v ≤ 1000000000000) ∧ (a = 0 ∨ ((1 ≤ a ∧ a ≤ 40) ∧ I 81 a ≠ 0 ∧ I 83 a ≠ 0)))) ∧ ((I 79 2 = 0 ∧ ¬ mHad I c a 0 41)) ∧ I1 = (upI (upI (upI (upI (upI (upI I 79 0 0) 79 4 0) 85 c 2) 86 c a) 88 c 0) 89 c 1) ∧ L1 = (upI L 87 c v))
theorem mc_legacy {g : ed_g} {l : Launch} (hl : l.stackTraces = false) {I : ed_I} {L : ed_L} {c v a : Int} (rc : -2147483648 ≤ c ∧ c ≤ 2147483647) (ra : -2147483648 ≤ a ∧ a ≤ 2147483647) (rv : -9223372036854775808 ≤ v ∧ v ≤ 9223372036854775807) (hc : I 79 2 = 0 ∨ I 79 2 = 1) (hk : ∀ j, 0 ≤ j → j ≤ 40 → I 81 j = 0 ∨ I 81 j = 1) (hfu : ∀ j, 0 ≤ j → j ≤ 40 → I 83 j = 0 ∨ I 83 j = 1) (hr : ∀ j, 0 ≤ j → j ≤ 40 → -1 ≤ I 86 j ∧ I 86 j ≤ 100000) (hr2 : ∀ j, 0 ≤ j → j ≤ 40 → -1 ≤ I 85 j ∧ I 85 j ≤ 100000) {post : ed_post} (h : ∀ I1 L1, mr_legacy I L c v a I1 L1 → post (.inl none) Yw I1 L1) : ed_Ct g l mM_legacy 3 0 0 [.ref 79, .int (iZ c), .long (lZ v), .int (iZ a)] Yw I L post :=
  cM_legacy hl rc ra rv hc hk hfu hr hr2 (h1 := fun b0 => h _ _ (Or.inl ⟨b0, rfl, rfl⟩)) (h2 := fun b0 b1 => h _ _ (Or.inr (Or.inl ⟨b0, b1, rfl, rfl⟩))) (hn := fun b0 b1 => h _ _ (Or.inr (Or.inr (⟨b0, b1, rfl, rfl⟩))))
def lr_annuity (I : ed_I) (L : ed_L) (c y a : Int) (z9 : Int) (I1 : ed_I) (L1 : ed_L) : Prop := ((¬ ((1 ≤ c ∧ c ≤ 40) ∧ (0 ≤ y ∧ y ≤ 1000000000) ∧ 0 ≤ a ∧ a ≤ 99)) ∧ z9 = 1 ∧ I1 = I ∧ L1 = L) ∨ ((((1 ≤ c ∧ c ≤ 40) ∧ (0 ≤ y ∧ y ≤ 1000000000) ∧ 0 ≤ a ∧ a ≤ 99)) ∧ (¬ (I 0 7 = 0)) ∧ z9 = 2 ∧ I1 = I ∧ L1 = L) ∨ ((((1 ≤ c ∧ c ≤ 40) ∧ (0 ≤ y ∧ y ≤ 1000000000) ∧ 0 ≤ a ∧ a ≤ 99)) ∧ ((I 0 7 = 0)) ∧ z9 = 0 ∧ I1 = (upI (upI (upI (upI I 15 c 3) 17 c 0) 18 c 1) 0 6 0) ∧ L1 = (upI L 16 c (anV y a)))
theorem lc_annuity {g : ed_g} {l : Launch} (hl : l.stackTraces = false) {I : ed_I} {L : ed_L} {c y a : Int} (rc : -2147483648 ≤ c ∧ c ≤ 2147483647) (ra : -2147483648 ≤ a ∧ a ≤ 2147483647) (ry : -9223372036854775808 ≤ y ∧ y ≤ 9223372036854775807) (hc : I 0 7 = 0 ∨ I 0 7 = 1) {post : ed_post} (h : ∀ z9 I1 L1, lr_annuity I L c y a z9 I1 L1 → post (.inl (some (.int (iZ z9)))) Yw I1 L1) : ed_Ct g l mL_annuity 5 4 24 [.ref 0, .int (iZ c), .long (lZ y), .int (iZ a)] Yw I L post :=
  cL_annuity hl rc ra ry hc (hA := fun b0 => h _ _ _ (Or.inl ⟨b0, rfl, rfl, rfl⟩)) (hS := fun b0 b1 => h _ _ _ (Or.inr (Or.inl ⟨b0, b1, rfl, rfl, rfl⟩))) (hn := fun b0 b1 => h _ _ _ (Or.inr (Or.inr (⟨b0, b1, rfl, rfl, rfl⟩))))
def mr_annuity (I : ed_I) (L : ed_L) (c y a : Int) (I1 : ed_I) (L1 : ed_L) : Prop := ((¬ ((1 ≤ c ∧ c ≤ 40) ∧ (0 ≤ y ∧ y ≤ 1000000000) ∧ 0 ≤ a ∧ a ≤ 99)) ∧ I1 = (upI I 79 0 1) ∧ L1 = L) ∨ ((((1 ≤ c ∧ c ≤ 40) ∧ (0 ≤ y ∧ y ≤ 1000000000) ∧ 0 ≤ a ∧ a ≤ 99)) ∧ (¬ (I 79 2 = 0)) ∧ I1 = (upI I 79 0 2) ∧ L1 = L) ∨ ((((1 ≤ c ∧ c ≤ 40) ∧ (0 ≤ y ∧ y ≤ 1000000000) ∧ 0 ≤ a ∧ a ≤ 99)) ∧ ((I 79 2 = 0)) ∧ I1 = (upI (upI (upI (upI (upI (upI I 79 0 0) 79 4 0) 85 c 3) 86 c 0) 88 c a) 89 c 1) ∧ L1 = (upI L 87 c y))
theorem mc_annuity {g : ed_g} {l : Launch} (hl : l.stackTraces = false) {I : ed_I} {L : ed_L} {c y a : Int} (rc : -2147483648 ≤ c ∧ c ≤ 2147483647) (ra : -2147483648 ≤ a ∧ a ≤ 2147483647) (ry : -9223372036854775808 ≤ y ∧ y ≤ 9223372036854775807) (hc : I 79 2 = 0 ∨ I 79 2 = 1) {post : ed_post} (h : ∀ I1 L1, mr_annuity I L c y a I1 L1 → post (.inl none) Yw I1 L1) : ed_Ct g l mM_annuity 3 0 0 [.ref 79, .int (iZ c), .long (lZ y), .int (iZ a)] Yw I L post :=
  cM_annuity hl rc ra ry hc (h1 := fun b0 => h _ _ (Or.inl ⟨b0, rfl, rfl⟩)) (h2 := fun b0 b1 => h _ _ (Or.inr (Or.inl ⟨b0, b1, rfl, rfl⟩))) (hn := fun b0 b1 => h _ _ (Or.inr (Or.inr (⟨b0, b1, rfl, rfl⟩))))
def lr_residue (I : ed_I) (L : ed_L) (c a : Int) (z9 : Int) (I1 : ed_I) (L1 : ed_L) : Prop := ((¬ ((1 ≤ c ∧ c ≤ 40) ∧ 1 ≤ a ∧ a ≤ 1000)) ∧ z9 = 1 ∧ I1 = I ∧ L1 = L) ∨ ((((1 ≤ c ∧ c ≤ 40) ∧ 1 ≤ a ∧ a ≤ 1000)) ∧ (¬ (I 0 7 = 0)) ∧ z9 = 2 ∧ I1 = I ∧ L1 = L) ∨ ((((1 ≤ c ∧ c ≤ 40) ∧ 1 ≤ a ∧ a ≤ 1000)) ∧ ((I 0 7 = 0)) ∧ z9 = 0 ∧ I1 = (upI (upI (upI (upI I 15 c 4) 17 c 0) 18 c 1) 0 6 0) ∧ L1 = (upI L 16 c a))
theorem lc_residue {g : ed_g} {l : Launch} (hl : l.stackTraces = false) {I : ed_I} {L : ed_L} {c a : Int} (rc : -2147483648 ≤ c ∧ c ≤ 2147483647) (ra : -2147483648 ≤ a ∧ a ≤ 2147483647) (hc : I 0 7 = 0 ∨ I 0 7 = 1) {post : ed_post} (h : ∀ z9 I1 L1, lr_residue I L c a z9 I1 L1 → post (.inl (some (.int (iZ z9)))) Yw I1 L1) : ed_Ct g l mL_residue 5 3 18 [.ref 0, .int (iZ c), .int (iZ a)] Yw I L post :=
  cL_residue hl rc ra hc (hA := fun b0 => h _ _ _ (Or.inl ⟨b0, rfl, rfl, rfl⟩)) (hS := fun b0 b1 => h _ _ _ (Or.inr (Or.inl ⟨b0, b1, rfl, rfl, rfl⟩))) (hn := fun b0 b1 => h _ _ _ (Or.inr (Or.inr (⟨b0, b1, rfl, rfl, rfl⟩))))
def mr_residue (I : ed_I) (L : ed_L) (c a : Int) (I1 : ed_I) (L1 : ed_L) : Prop := ((¬ ((1 ≤ c ∧ c ≤ 40) ∧ 1 ≤ a ∧ a ≤ 1000)) ∧ I1 = (upI I 79 0 1) ∧ L1 = L) ∨ ((((1 ≤ c ∧ c ≤ 40) ∧ 1 ≤ a ∧ a ≤ 1000)) ∧ (¬ (I 79 2 = 0)) ∧ I1 = (upI I 79 0 2) ∧ L1 = L) ∨ ((((1 ≤ c ∧ c ≤ 40) ∧ 1 ≤ a ∧ a ≤ 1000)) ∧ ((I 79 2 = 0)) ∧ I1 = (upI (upI (upI (upI (upI (upI I 79 0 0) 79 4 0) 85 c 4) 86 c 0) 88 c a) 89 c 1) ∧ L1 = (upI L 87 c 0))
theorem mc_residue {g : ed_g} {l : Launch} (hl : l.stackTraces = false) {I : ed_I} {L : ed_L} {c a : Int} (rc : -2147483648 ≤ c ∧ c ≤ 2147483647) (ra : -2147483648 ≤ a ∧ a ≤ 2147483647) (hc : I 79 2 = 0 ∨ I 79 2 = 1) {post : ed_post} (h : ∀ I1 L1, mr_residue I L c a I1 L1 → post (.inl none) Yw I1 L1) : ed_Ct g l mM_residue 3 0 0 [.ref 79, .int (iZ c), .int (iZ a)] Yw I L post :=
  cM_residue hl rc ra hc (h1 := fun b0 => h _ _ (Or.inl ⟨b0, rfl, rfl⟩)) (h2 := fun b0 b1 => h _ _ (Or.inr (Or.inl ⟨b0, b1, rfl, rfl⟩))) (hn := fun b0 b1 => h _ _ (Or.inr (Or.inr (⟨b0, b1, rfl, rfl⟩))))
def lr_strike (I : ed_I) (L : ed_L) (c : Int) (z9 : Int) (I1 : ed_I) (L1 : ed_L) : Prop := ((¬ (1 ≤ c ∧ c ≤ 40)) ∧ z9 = 1 ∧ I1 = I ∧ L1 = L) ∨ (((1 ≤ c ∧ c ≤ 40)) ∧ (¬ (I 0 7 = 0)) ∧ z9 = 2 ∧ I1 = I ∧ L1 = L) ∨ (((1 ≤ c ∧ c ≤ 40)) ∧ ((I 0 7 = 0)) ∧ z9 = 0 ∧ I1 = (upI (upI (upI (upI I 15 c 0) 17 c 0) 18 c 1) 0 6 0) ∧ L1 = (upI L 16 c 0))
theorem lc_strike {g : ed_g} {l : Launch} (hl : l.stackTraces = false) {I : ed_I} {L : ed_L} {c : Int} (rc : -2147483648 ≤ c ∧ c ≤ 2147483647) (hc : I 0 7 = 0 ∨ I 0 7 = 1) {post : ed_post} (h : ∀ z9 I1 L1, lr_strike I L c z9 I1 L1 → post (.inl (some (.int (iZ z9)))) Yw I1 L1) : ed_Ct g l mL_strike 5 2 12 [.ref 0, .int (iZ c)] Yw I L post :=
  cL_strike hl rc hc (hA := fun b0 => h _ _ _ (Or.inl ⟨b0, rfl, rfl, rfl⟩)) (hS := fun b0 b1 => h _ _ _ (Or.inr (Or.inl ⟨b0, b1, rfl, rfl, rfl⟩))) (hn := fun b0 b1 => h _ _ _ (Or.inr (Or.inr (⟨b0, b1, rfl, rfl, rfl⟩))))
def mr_strike (I : ed_I) (L : ed_L) (c : Int) (I1 : ed_I) (L1 : ed_L) : Prop := ((¬ (1 ≤ c ∧ c ≤ 40)) ∧ I1 = (upI I 79 0 1) ∧ L1 = L) ∨ (((1 ≤ c ∧ c ≤ 40)) ∧ (¬ (I 79 2 = 0)) ∧ I1 = (upI I 79 0 2) ∧ L1 = L) ∨ (((1 ≤ c ∧ c ≤ 40)) ∧ ((I 79 2 = 0)) ∧ I1 = (upI (upI (upI I 79 0 0) 79 4 0) 85 c 0) ∧ L1 = L)
theorem mc_strike {g : ed_g} {l : Launch} (hl : l.stackTraces = false) {I : ed_I} {L : ed_L} {c : Int} (rc : -2147483648 ≤ c ∧ c ≤ 2147483647) (hc : I 79 2 = 0 ∨ I 79 2 = 1) {post : ed_post} (h : ∀ I1 L1, mr_strike I L c I1 L1 → post (.inl none) Yw I1 L1) : ed_Ct g l mM_strike 3 0 0 [.ref 79, .int (iZ c)] Yw I L post :=
  cM_strike hl rc hc (h1 := fun b0 => h _ _ (Or.inl ⟨b0, rfl, rfl⟩)) (h2 := fun b0 b1 => h _ _ (Or.inr (Or.inl ⟨b0, b1, rfl, rfl⟩))) (hn := fun b0 b1 => h _ _ (Or.inr (Or.inr (⟨b0, b1, rfl, rfl⟩))))
def lr_taker (I : ed_I) (L : ed_L) (c r p : Int) (z9 : Int) (I1 : ed_I) (L1 : ed_L) : Prop := ((¬ ((1 ≤ c ∧ c ≤ 40) ∧ (1 ≤ r ∧ r ≤ 4) ∧ 0 ≤ p ∧ p ≤ 40)) ∧ z9 = 1 ∧ I1 = I ∧ L1 = L) ∨ ((((1 ≤ c ∧ c ≤ 40) ∧ (1 ≤ r ∧ r ≤ 4) ∧ 0 ≤ p ∧ p ≤ 40)) ∧ (¬ (I 0 7 = 0)) ∧ z9 = 2 ∧ I1 = I ∧ L1 = L) ∨ ((((1 ≤ c ∧ c ≤ 40) ∧ (1 ≤ r ∧ r ≤ 4) ∧ 0 ≤ p ∧ p ≤ 40)) ∧ ((I 0 7 = 0)) ∧ z9 = 0 ∧ I1 = (upI (upI I (20 + c.toNat) r p) 0 6 0) ∧ L1 = L)
theorem lc_taker {g : ed_g} {l : Launch} (hl : l.stackTraces = false) {I : ed_I} {L : ed_L} {c r p : Int} (rc : -2147483648 ≤ c ∧ c ≤ 2147483647) (rr : -2147483648 ≤ r ∧ r ≤ 2147483647) (rp : -2147483648 ≤ p ∧ p ≤ 2147483647) (hc : I 0 7 = 0 ∨ I 0 7 = 1) {post : ed_post} (h : ∀ z9 I1 L1, lr_taker I L c r p z9 I1 L1 → post (.inl (some (.int (iZ z9)))) Yw I1 L1) : ed_Ct g l mL_taker 5 4 24 [.ref 0, .int (iZ c), .int (iZ r), .int (iZ p)] Yw I L post :=
  cL_taker hl rc rr rp hc (hA := fun b0 => h _ _ _ (Or.inl ⟨b0, rfl, rfl, rfl⟩)) (hS := fun b0 b1 => h _ _ _ (Or.inr (Or.inl ⟨b0, b1, rfl, rfl, rfl⟩))) (hn := fun b0 b1 => h _ _ _ (Or.inr (Or.inr (⟨b0, b1, rfl, rfl, rfl⟩))))
def mr_taker (I : ed_I) (L : ed_L) (c r p : Int) (I1 : ed_I) (L1 : ed_L) : Prop := ((¬ ((1 ≤ c ∧ c ≤ 40) ∧ (1 ≤ r ∧ r ≤ 4) ∧ 0 ≤ p ∧ p ≤ 40)) ∧ I1 = (upI I 79 0 1) ∧ L1 = L) ∨ ((((1 ≤ c ∧ c ≤ 40) ∧ (1 ≤ r ∧ r ≤ 4) ∧ 0 ≤ p ∧ p ≤ 40)) ∧ (¬ (I 79 2 = 0)) ∧ I1 = (upI I 79 0 2) ∧ L1 = L) ∨ ((((1 ≤ c ∧ c ≤ 40) ∧ (1 ≤ r ∧ r ≤ 4) ∧ 0 ≤ p ∧ p ≤ 40)) ∧ ((I 79 2 = 0)) ∧ I1 = (upI (upI (upI I 79 0 0) 79 4 0) 90 (5 * c + r) p) ∧ L1 = L)
theorem mc_taker {g : ed_g} {l : Launch} (hl : l.stackTraces = false) {I : ed_I} {L : ed_L} {c r p : Int} (rc : -2147483648 ≤ c ∧ c ≤ 2147483647) (rr : -2147483648 ≤ r ∧ r ≤ 2147483647) (rp : -2147483648 ≤ p ∧ p ≤ 2147483647) (hc : I 79 2 = 0 ∨ I 79 2 = 1) {post : ed_post} (h : ∀ I1 L1, mr_taker I L c r p I1 L1 → post (.inl none) Yw I1 L1) : ed_Ct g l mM_taker 3 0 0 [.ref 79, .int (iZ c), .int (iZ r), .int (iZ p)] Yw I L post :=
  cM_taker hl rc rr rp hc (h1 := fun b0 => h _ _ (Or.inl ⟨b0, rfl, rfl⟩)) (h2 := fun b0 b1 => h _ _ (Or.inr (Or.inl ⟨b0, b1, rfl, rfl⟩))) (hn := fun b0 b1 => h _ _ (Or.inr (Or.inr (⟨b0, b1, rfl, rfl⟩))))
def lr_charge (I : ed_I) (L : ed_L) (c f : Int) (z9 : Int) (I1 : ed_I) (L1 : ed_L) : Prop := ((¬ ((1 ≤ c ∧ c ≤ 40) ∧ I 15 c = 1)) ∧ z9 = 1 ∧ I1 = I ∧ L1 = L) ∨ ((((1 ≤ c ∧ c ≤ 40) ∧ I 15 c = 1)) ∧ (¬ (I 0 7 = 0)) ∧ z9 = 2 ∧ I1 = I ∧ L1 = L) ∨ ((((1 ≤ c ∧ c ≤ 40) ∧ I 15 c = 1)) ∧ ((I 0 7 = 0)) ∧ z9 = 0 ∧ I1 = (upI (upI I 18 c f) 0 6 0) ∧ L1 = L)
theorem lc_charge {g : ed_g} {l : Launch} (hl : l.stackTraces = false) {I : ed_I} {L : ed_L} {c f : Int} (rc : -2147483648 ≤ c ∧ c ≤ 2147483647) (hf : f = 0 ∨ f = 1) (hc : I 0 7 = 0 ∨ I 0 7 = 1) (hr2 : ∀ j, 0 ≤ j → j ≤ 40 → -1 ≤ I 15 j ∧ I 15 j ≤ 100000) {post : ed_post} (h : ∀ z9 I1 L1, lr_charge I L c f z9 I1 L1 → post (.inl (some (.int (iZ z9)))) Yw I1 L1) : ed_Ct g l mL_charge 5 3 18 [.ref 0, .int (iZ c), .int (iZ f)] Yw I L post :=
  cL_charge hl rc hf hc hr2 (hA := fun b0 => h _ _ _ (Or.inl ⟨b0, rfl, rfl, rfl⟩)) (hS := fun b0 b1 => h _ _ _ (Or.inr (Or.inl ⟨b0, b1, rfl, rfl, rfl⟩))) (hn := fun b0 b1 => h _ _ _ (Or.inr (Or.inr (⟨b0, b1, rfl, rfl, rfl⟩))))
def mr_charge (I : ed_I) (L : ed_L) (c f : Int) (I1 : ed_I) (L1 : ed_L) : Prop := ((¬ ((1 ≤ c ∧ c ≤ 40) ∧ I 85 c = 1)) ∧ I1 = (upI I 79 0 1) ∧ L1 = L) ∨ ((((1 ≤ c ∧ c ≤ 40) ∧ I 85 c = 1)) ∧ (¬ (I 79 2 = 0)) ∧ I1 = (upI I 79 0 2) ∧ L1 = L) ∨ ((((1 ≤ c ∧ c ≤ 40) ∧ I 85 c = 1)) ∧ ((I 79 2 = 0)) ∧ I1 = (upI (upI (upI I 79 0 0) 79 4 0) 89 c f) ∧ L1 = L)
theorem mc_charge {g : ed_g} {l : Launch} (hl : l.stackTraces = false) {I : ed_I} {L : ed_L} {c f : Int} (rc : -2147483648 ≤ c ∧ c ≤ 2147483647) (hf : f = 0 ∨ f = 1) (hc : I 79 2 = 0 ∨ I 79 2 = 1) (hr2 : ∀ j, 0 ≤ j → j ≤ 40 → -1 ≤ I 85 j ∧ I 85 j ≤ 100000) {post : ed_post} (h : ∀ I1 L1, mr_charge I L c f I1 L1 → post (.inl none) Yw I1 L1) : ed_Ct g l mM_charge 3 0 0 [.ref 79, .int (iZ c), .int (iZ f)] Yw I L post :=
  cM_charge hl rc hf hc hr2 (h1 := fun b0 => h _ _ (Or.inl ⟨b0, rfl, rfl⟩)) (h2 := fun b0 b1 => h _ _ (Or.inr (Or.inl ⟨b0, b1, rfl, rfl⟩))) (hn := fun b0 b1 => h _ _ (Or.inr (Or.inr (⟨b0, b1, rfl, rfl⟩))))
def lr_debt (I : ed_I) (L : ed_L) (c v a : Int) (z9 : Int) (I1 : ed_I) (L1 : ed_L) : Prop := ((¬ ((1 ≤ c ∧ c ≤ 40) ∧ (0 ≤ v ∧ v ≤ 1000000000000) ∧ (a = 0 ∨ ((1 ≤ a ∧ a ≤ 40) ∧ I 7 a ≠ 0)))) ∧ z9 = 1 ∧ I1 = I ∧ L1 = L) ∨ ((((1 ≤ c ∧ c ≤ 40) ∧ (0 ≤ v ∧ v ≤ 1000000000000) ∧ (a = 0 ∨ ((1 ≤ a ∧ a ≤ 40) ∧ I 7 a ≠ 0)))) ∧ (¬ (I 0 7 = 0)) ∧ z9 = 2 ∧ I1 = I ∧ L1 = L) ∨ ((((1 ≤ c ∧ c ≤ 40) ∧ (0 ≤ v ∧ v ≤ 1000000000000) ∧ (a = 0 ∨ ((1 ≤ a ∧ a ≤ 40) ∧ I 7 a ≠ 0)))) ∧ ((I 0 7 = 0)) ∧ z9 = 0 ∧ I1 = (upI (upI I 71 c a) 0 6 0) ∧ L1 = (upI L 70 c v))
theorem lc_debt {g : ed_g} {l : Launch} (hl : l.stackTraces = false) {I : ed_I} {L : ed_L} {c v a : Int} (rc : -2147483648 ≤ c ∧ c ≤ 2147483647) (ra : -2147483648 ≤ a ∧ a ≤ 2147483647) (rv : -9223372036854775808 ≤ v ∧ v ≤ 9223372036854775807) (hc : I 0 7 = 0 ∨ I 0 7 = 1) (hk : ∀ j, 0 ≤ j → j ≤ 40 → I 7 j = 0 ∨ I 7 j = 1) {post : ed_post} (h : ∀ z9 I1 L1, lr_debt I L c v a z9 I1 L1 → post (.inl (some (.int (iZ z9)))) Yw I1 L1) : ed_Ct g l mL_debt 5 5 30 [.ref 0, .int (iZ c), .long (lZ v), .int (iZ a)] Yw I L post :=
  cL_debt hl rc ra rv hc hk (hA := fun b0 => h _ _ _ (Or.inl ⟨b0, rfl, rfl, rfl⟩)) (hS := fun b0 b1 => h _ _ _ (Or.inr (Or.inl ⟨b0, b1, rfl, rfl, rfl⟩))) (hn := fun b0 b1 => h _ _ _ (Or.inr (Or.inr (⟨b0, b1, rfl, rfl, rfl⟩))))
def mr_debt (I : ed_I) (L : ed_L) (c v a : Int) (I1 : ed_I) (L1 : ed_L) : Prop := ((¬ ((1 ≤ c ∧ c ≤ 40) ∧ (0 ≤ v ∧ v ≤ 1000000000000) ∧ (a = 0 ∨ ((1 ≤ a ∧ a ≤ 40) ∧ I 81 a ≠ 0)))) ∧ I1 = (upI I 79 0 1) ∧ L1 = L) ∨ ((((1 ≤ c ∧ c ≤ 40) ∧ (0 ≤ v ∧ v ≤ 1000000000000) ∧ (a = 0 ∨ ((1 ≤ a ∧ a ≤ 40) ∧ I 81 a ≠ 0)))) ∧ (¬ (I 79 2 = 0)) ∧ I1 = (upI I 79 0 2) ∧ L1 = L) ∨ ((((1 ≤ c ∧ c ≤ 40) ∧ (0 ≤ v ∧ v ≤ 1000000000000) ∧ (a = 0 ∨ ((1 ≤ a ∧ a ≤ 40) ∧ I 81 a ≠ 0)))) ∧ ((I 79 2 = 0)) ∧ I1 = (upI (upI (upI (upI I 79 0 0) 79 4 0) 91 c 1) 93 c a) ∧ L1 = (upI L 92 c v))
theorem mc_debt {g : ed_g} {l : Launch} (hl : l.stackTraces = false) {I : ed_I} {L : ed_L} {c v a : Int} (rc : -2147483648 ≤ c ∧ c ≤ 2147483647) (ra : -2147483648 ≤ a ∧ a ≤ 2147483647) (rv : -9223372036854775808 ≤ v ∧ v ≤ 9223372036854775807) (hc : I 79 2 = 0 ∨ I 79 2 = 1) (hk : ∀ j, 0 ≤ j → j ≤ 40 → I 81 j = 0 ∨ I 81 j = 1) {post : ed_post} (h : ∀ I1 L1, mr_debt I L c v a I1 L1 → post (.inl none) Yw I1 L1) : ed_Ct g l mM_debt 3 0 0 [.ref 79, .int (iZ c), .long (lZ v), .int (iZ a)] Yw I L post :=
  cM_debt hl rc ra rv hc hk (h1 := fun b0 => h _ _ (Or.inl ⟨b0, rfl, rfl⟩)) (h2 := fun b0 b1 => h _ _ (Or.inr (Or.inl ⟨b0, b1, rfl, rfl⟩))) (hn := fun b0 b1 => h _ _ (Or.inr (Or.inr (⟨b0, b1, rfl, rfl⟩))))
def lr_gets (I : ed_I) (L : ed_L) (p w : Int) (z9 : Int) (I1 : ed_I) (L1 : ed_L) : Prop := ((¬ ((0 ≤ p ∧ p ≤ 40) ∧ 0 ≤ w ∧ w ≤ 2)) ∧ z9 = 1 ∧ I1 = I ∧ L1 = L) ∨ ((((0 ≤ p ∧ p ≤ 40) ∧ 0 ≤ w ∧ w ≤ 2)) ∧ (¬ (I 0 5 ≠ 0)) ∧ z9 = 2 ∧ I1 = I ∧ L1 = L) ∨ ((((0 ≤ p ∧ p ≤ 40) ∧ 0 ≤ w ∧ w ≤ 2)) ∧ ((I 0 5 ≠ 0)) ∧ z9 = 0 ∧ I1 = I ∧ L1 = (upI L 112 0 (if w = 0 then L 3 p else if w = 1 then L 4 p else L 5 p)))
theorem lc_gets {g : ed_g} {l : Launch} (hl : l.stackTraces = false) {I : ed_I} {L : ed_L} {p w : Int} (rp : -2147483648 ≤ p ∧ p ≤ 2147483647) (rw : -2147483648 ≤ w ∧ w ≤ 2147483647) (hs : I 0 5 = 0 ∨ I 0 5 = 1) {post : ed_post} (h : ∀ z9 I1 L1, lr_gets I L p w z9 I1 L1 → post (.inl (some (.int (iZ z9)))) Yw I1 L1) : ed_Ct g l mL_gets 5 3 18 [.ref 0, .int (iZ p), .int (iZ w), .ref 112] Yw I L post :=
  cL_gets hl rp rw hs (hA := fun b0 => h _ _ _ (Or.inl ⟨b0, rfl, rfl, rfl⟩)) (hS := fun b0 b1 => h _ _ _ (Or.inr (Or.inl ⟨b0, b1, rfl, rfl, rfl⟩))) (hn := fun b0 b1 => h _ _ _ (Or.inr (Or.inr (⟨b0, b1, rfl, rfl, rfl⟩))))
def mr_gets (I : ed_I) (L : ed_L) (p w : Int) (z9 : Int) (I1 : ed_I) (L1 : ed_L) : Prop := ((¬ ((0 ≤ p ∧ p ≤ 40) ∧ 0 ≤ w ∧ w ≤ 2)) ∧ z9 = 0 ∧ I1 = (upI I 79 0 1) ∧ L1 = L) ∨ ((((0 ≤ p ∧ p ≤ 40) ∧ 0 ≤ w ∧ w ≤ 2)) ∧ (¬ (I 79 3 ≠ 0)) ∧ z9 = 0 ∧ I1 = (upI I 79 0 2) ∧ L1 = L) ∨ ((((0 ≤ p ∧ p ≤ 40) ∧ 0 ≤ w ∧ w ≤ 2)) ∧ ((I 79 3 ≠ 0)) ∧ z9 = (if w = 0 then L 104 p else if w = 1 then L 105 p else L 106 p) ∧ I1 = (upI I 79 0 0) ∧ L1 = L)
theorem mc_gets {g : ed_g} {l : Launch} (hl : l.stackTraces = false) {I : ed_I} {L : ed_L} {p w : Int} (rp : -2147483648 ≤ p ∧ p ≤ 2147483647) (rw : -2147483648 ≤ w ∧ w ≤ 2147483647) (hs : I 79 3 = 0 ∨ I 79 3 = 1) {post : ed_post} (h : ∀ z9 I1 L1, mr_gets I L p w z9 I1 L1 → post (.inl (some (.long (lZ z9)))) Yw I1 L1) : ed_Ct g l mM_gets 3 0 0 [.ref 79, .int (iZ p), .int (iZ w)] Yw I L post :=
  cM_gets hl rp rw hs (h1 := fun b0 => h _ _ _ (Or.inl ⟨b0, rfl, rfl, rfl⟩)) (h2 := fun b0 b1 => h _ _ _ (Or.inr (Or.inl ⟨b0, b1, rfl, rfl, rfl⟩))) (hn := fun b0 b1 => h _ _ _ (Or.inr (Or.inr (⟨b0, b1, rfl, rfl, rfl⟩))))
def lr_assetTo (I : ed_I) (L : ed_L) (a : Int) (z9 : Int) (I1 : ed_I) (L1 : ed_L) : Prop := ((¬ (1 ≤ a ∧ a ≤ 40)) ∧ z9 = 1 ∧ I1 = I ∧ L1 = L) ∨ (((1 ≤ a ∧ a ≤ 40)) ∧ (¬ (I 0 5 ≠ 0)) ∧ z9 = 2 ∧ I1 = I ∧ L1 = L) ∨ (((1 ≤ a ∧ a ≤ 40)) ∧ ((I 0 5 ≠ 0)) ∧ z9 = 0 ∧ I1 = I ∧ L1 = (upI L 112 0 (I 13 a)))
theorem lc_assetTo {g : ed_g} {l : Launch} (hl : l.stackTraces = false) {I : ed_I} {L : ed_L} {a : Int} (ra : -2147483648 ≤ a ∧ a ≤ 2147483647) (hs : I 0 5 = 0 ∨ I 0 5 = 1) (hri : ∀ j, 0 ≤ j → j ≤ 40 → -1 ≤ I 13 j ∧ I 13 j ≤ 100000) {post : ed_post} (h : ∀ z9 I1 L1, lr_assetTo I L a z9 I1 L1 → post (.inl (some (.int (iZ z9)))) Yw I1 L1) : ed_Ct g l mL_assetTo 5 2 12 [.ref 0, .int (iZ a), .ref 112] Yw I L post :=
  cL_assetTo hl ra hs hri (hA := fun b0 => h _ _ _ (Or.inl ⟨b0, rfl, rfl, rfl⟩)) (hS := fun b0 b1 => h _ _ _ (Or.inr (Or.inl ⟨b0, b1, rfl, rfl, rfl⟩))) (hn := fun b0 b1 => h _ _ _ (Or.inr (Or.inr (⟨b0, b1, rfl, rfl, rfl⟩))))
def mr_assetTo (I : ed_I) (L : ed_L) (a : Int) (z9 : Int) (I1 : ed_I) (L1 : ed_L) : Prop := ((¬ (1 ≤ a ∧ a ≤ 40)) ∧ z9 = 0 ∧ I1 = (upI I 79 0 1) ∧ L1 = L) ∨ (((1 ≤ a ∧ a ≤ 40)) ∧ (¬ (I 79 3 ≠ 0)) ∧ z9 = 0 ∧ I1 = (upI I 79 0 2) ∧ L1 = L) ∨ (((1 ≤ a ∧ a ≤ 40)) ∧ ((I 79 3 ≠ 0)) ∧ z9 = (I 107 a) ∧ I1 = (upI I 79 0 0) ∧ L1 = L)
theorem mc_assetTo {g : ed_g} {l : Launch} (hl : l.stackTraces = false) {I : ed_I} {L : ed_L} {a : Int} (ra : -2147483648 ≤ a ∧ a ≤ 2147483647) (hs : I 79 3 = 0 ∨ I 79 3 = 1) {post : ed_post} (h : ∀ z9 I1 L1, mr_assetTo I L a z9 I1 L1 → post (.inl (some (.int (iZ z9)))) Yw I1 L1) : ed_Ct g l mM_assetTo 3 0 0 [.ref 79, .int (iZ a)] Yw I L post :=
  cM_assetTo hl ra hs (h1 := fun b0 => h _ _ _ (Or.inl ⟨b0, rfl, rfl, rfl⟩)) (h2 := fun b0 b1 => h _ _ _ (Or.inr (Or.inl ⟨b0, b1, rfl, rfl, rfl⟩))) (hn := fun b0 b1 => h _ _ _ (Or.inr (Or.inr (⟨b0, b1, rfl, rfl, rfl⟩))))
def lr_clauseState (I : ed_I) (L : ed_L) (a : Int) (z9 : Int) (I1 : ed_I) (L1 : ed_L) : Prop := ((¬ (1 ≤ a ∧ a ≤ 40)) ∧ z9 = 1 ∧ I1 = I ∧ L1 = L) ∨ (((1 ≤ a ∧ a ≤ 40)) ∧ (¬ (I 0 5 ≠ 0)) ∧ z9 = 2 ∧ I1 = I ∧ L1 = L) ∨ (((1 ≤ a ∧ a ≤ 40)) ∧ ((I 0 5 ≠ 0)) ∧ z9 = 0 ∧ I1 = I ∧ L1 = (upI L 112 0 (I 61 a)))
theorem lc_clauseState {g : ed_g} {l : Launch} (hl : l.stackTraces = false) {I : ed_I} {L : ed_L} {a : Int} (ra : -2147483648 ≤ a ∧ a ≤ 2147483647) (hs : I 0 5 = 0 ∨ I 0 5 = 1) (hri : ∀ j, 1 ≤ j → j ≤ 40 → -1 ≤ I 61 j ∧ I 61 j ≤ 100000) {post : ed_post} (h : ∀ z9 I1 L1, lr_clauseState I L a z9 I1 L1 → post (.inl (some (.int (iZ z9)))) Yw I1 L1) : ed_Ct g l mL_clauseState 5 2 12 [.ref 0, .int (iZ a), .ref 112] Yw I L post :=
  cL_clauseState hl ra hs hri (hA := fun b0 => h _ _ _ (Or.inl ⟨b0, rfl, rfl, rfl⟩)) (hS := fun b0 b1 => h _ _ _ (Or.inr (Or.inl ⟨b0, b1, rfl, rfl, rfl⟩))) (hn := fun b0 b1 => h _ _ _ (Or.inr (Or.inr (⟨b0, b1, rfl, rfl, rfl⟩))))
def mr_clauseState (I : ed_I) (L : ed_L) (a : Int) (z9 : Int) (I1 : ed_I) (L1 : ed_L) : Prop := ((¬ (1 ≤ a ∧ a ≤ 40)) ∧ z9 = 0 ∧ I1 = (upI I 79 0 1) ∧ L1 = L) ∨ (((1 ≤ a ∧ a ≤ 40)) ∧ (¬ (I 79 3 ≠ 0)) ∧ z9 = 0 ∧ I1 = (upI I 79 0 2) ∧ L1 = L) ∨ (((1 ≤ a ∧ a ≤ 40)) ∧ ((I 79 3 ≠ 0)) ∧ z9 = (I 94 a) ∧ I1 = (upI I 79 0 0) ∧ L1 = L)
theorem mc_clauseState {g : ed_g} {l : Launch} (hl : l.stackTraces = false) {I : ed_I} {L : ed_L} {a : Int} (ra : -2147483648 ≤ a ∧ a ≤ 2147483647) (hs : I 79 3 = 0 ∨ I 79 3 = 1) {post : ed_post} (h : ∀ z9 I1 L1, mr_clauseState I L a z9 I1 L1 → post (.inl (some (.int (iZ z9)))) Yw I1 L1) : ed_Ct g l mM_clauseState 3 0 0 [.ref 79, .int (iZ a)] Yw I L post :=
  cM_clauseState hl ra hs (h1 := fun b0 => h _ _ _ (Or.inl ⟨b0, rfl, rfl, rfl⟩)) (h2 := fun b0 b1 => h _ _ _ (Or.inr (Or.inl ⟨b0, b1, rfl, rfl, rfl⟩))) (hn := fun b0 b1 => h _ _ _ (Or.inr (Or.inr (⟨b0, b1, rfl, rfl, rfl⟩))))
def lr_told (I : ed_I) (L : ed_L) (c w : Int) (z9 : Int) (I1 : ed_I) (L1 : ed_L) : Prop := ((¬ ((1 ≤ c ∧ c ≤ 40) ∧ 0 ≤ w ∧ w ≤ 4)) ∧ z9 = 1 ∧ I1 = I ∧ L1 = L) ∨ ((((1 ≤ c ∧ c ≤ 40) ∧ 0 ≤ w ∧ w ≤ 4)) ∧ (¬ (I 0 5 ≠ 0)) ∧ z9 = 2 ∧ I1 = I ∧ L1 = L) ∨ ((((1 ≤ c ∧ c ≤ 40) ∧ 0 ≤ w ∧ w ≤ 4)) ∧ ((I 0 5 ≠ 0)) ∧ z9 = 0 ∧ I1 = I ∧ L1 = (upI L 112 0 (if w = 0 then L 63 c + L 64 c + L 65 c else if w = 1 then L 67 c else if w = 2 then L 64 c else if w = 3 then L 68 c else I 62 c)))
theorem lc_told {g : ed_g} {l : Launch} (hl : l.stackTraces = false) {I : ed_I} {L : ed_L} {c w : Int} (rc : -2147483648 ≤ c ∧ c ≤ 2147483647) (rw : -2147483648 ≤ w ∧ w ≤ 2147483647) (hs : I 0 5 = 0 ∨ I 0 5 = 1) (hg : ∀ j, 1 ≤ j → j ≤ 40 → -1 ≤ I 62 j ∧ I 62 j ≤ 100000) {post : ed_post} (h : ∀ z9 I1 L1, lr_told I L c w z9 I1 L1 → post (.inl (some (.int (iZ z9)))) Yw I1 L1) : ed_Ct g l mL_told 5 3 18 [.ref 0, .int (iZ c), .int (iZ w), .ref 112] Yw I L post :=
  cL_told hl rc rw hs hg (hA := fun b0 => h _ _ _ (Or.inl ⟨b0, rfl, rfl, rfl⟩)) (hS := fun b0 b1 => h _ _ _ (Or.inr (Or.inl ⟨b0, b1, rfl, rfl, rfl⟩))) (hn := fun b0 b1 => h _ _ _ (Or.inr (Or.inr (⟨b0, b1, rfl, rfl, rfl⟩))))
def mr_told (I : ed_I) (L : ed_L) (c w : Int) (z9 : Int) (I1 : ed_I) (L1 : ed_L) : Prop := ((¬ ((1 ≤ c ∧ c ≤ 40) ∧ 0 ≤ w ∧ w ≤ 4)) ∧ z9 = 0 ∧ I1 = (upI I 79 0 1) ∧ L1 = L) ∨ ((((1 ≤ c ∧ c ≤ 40) ∧ 0 ≤ w ∧ w ≤ 4)) ∧ (¬ (I 79 3 ≠ 0)) ∧ z9 = 0 ∧ I1 = (upI I 79 0 2) ∧ L1 = L) ∨ ((((1 ≤ c ∧ c ≤ 40) ∧ 0 ≤ w ∧ w ≤ 4)) ∧ ((I 79 3 ≠ 0)) ∧ z9 = (if I 94 c ≠ 0 ∧ I 94 c ≠ 3 then 0 else if w = 0 then L 98 c else if w = 1 then L 99 c else if w = 2 then L 97 c else if w = 3 then L 100 c else I 95 c) ∧ I1 = (upI I 79 0 0) ∧ L1 = L)
theorem mc_told {g : ed_g} {l : Launch} (hl : l.stackTraces = false) {I : ed_I} {L : ed_L} {c w : Int} (rc : -2147483648 ≤ c ∧ c ≤ 2147483647) (rw : -2147483648 ≤ w ∧ w ≤ 2147483647) (hs : I 79 3 = 0 ∨ I 79 3 = 1) (hg : ∀ j, 1 ≤ j → j ≤ 40 → -1 ≤ I 95 j ∧ I 95 j ≤ 100000) (hst : ∀ j, 1 ≤ j → j ≤ 40 → -1 ≤ I 94 j ∧ I 94 j ≤ 3) {post : ed_post} (h : ∀ z9 I1 L1, mr_told I L c w z9 I1 L1 → post (.inl (some (.long (lZ z9)))) Yw I1 L1) : ed_Ct g l mM_told 3 0 0 [.ref 79, .int (iZ c), .int (iZ w)] Yw I L post :=
  cM_told hl rc rw hs hg hst (h1 := fun b0 => h _ _ _ (Or.inl ⟨b0, rfl, rfl, rfl⟩)) (h2 := fun b0 b1 => h _ _ _ (Or.inr (Or.inl ⟨b0, b1, rfl, rfl, rfl⟩))) (hn := fun b0 b1 => h _ _ _ (Or.inr (Or.inr (⟨b0, b1, rfl, rfl, rfl⟩))))
def lr_paid (I : ed_I) (L : ed_L) (a : Int) (z9 : Int) (I1 : ed_I) (L1 : ed_L) : Prop := ((¬ (1 ≤ a ∧ a ≤ 40)) ∧ z9 = 1 ∧ I1 = I ∧ L1 = L) ∨ (((1 ≤ a ∧ a ≤ 40)) ∧ (¬ (I 0 5 ≠ 0)) ∧ z9 = 2 ∧ I1 = I ∧ L1 = L) ∨ (((1 ≤ a ∧ a ≤ 40)) ∧ ((I 0 5 ≠ 0)) ∧ z9 = 0 ∧ I1 = I ∧ L1 = (upI L 112 0 (L 73 a)))
theorem lc_paid {g : ed_g} {l : Launch} (hl : l.stackTraces = false) {I : ed_I} {L : ed_L} {a : Int} (ra : -2147483648 ≤ a ∧ a ≤ 2147483647) (hs : I 0 5 = 0 ∨ I 0 5 = 1) {post : ed_post} (h : ∀ z9 I1 L1, lr_paid I L a z9 I1 L1 → post (.inl (some (.int (iZ z9)))) Yw I1 L1) : ed_Ct g l mL_paid 5 2 12 [.ref 0, .int (iZ a), .ref 112] Yw I L post :=
  cL_paid hl ra hs (hA := fun b0 => h _ _ _ (Or.inl ⟨b0, rfl, rfl, rfl⟩)) (hS := fun b0 b1 => h _ _ _ (Or.inr (Or.inl ⟨b0, b1, rfl, rfl, rfl⟩))) (hn := fun b0 b1 => h _ _ _ (Or.inr (Or.inr (⟨b0, b1, rfl, rfl, rfl⟩))))
def mr_paid (I : ed_I) (L : ed_L) (a : Int) (z9 : Int) (I1 : ed_I) (L1 : ed_L) : Prop := ((¬ (1 ≤ a ∧ a ≤ 40)) ∧ z9 = 0 ∧ I1 = (upI I 79 0 1) ∧ L1 = L) ∨ (((1 ≤ a ∧ a ≤ 40)) ∧ (¬ (I 79 3 ≠ 0)) ∧ z9 = 0 ∧ I1 = (upI I 79 0 2) ∧ L1 = L) ∨ (((1 ≤ a ∧ a ≤ 40)) ∧ ((I 79 3 ≠ 0)) ∧ z9 = (L 103 a) ∧ I1 = (upI I 79 0 0) ∧ L1 = L)
theorem mc_paid {g : ed_g} {l : Launch} (hl : l.stackTraces = false) {I : ed_I} {L : ed_L} {a : Int} (ra : -2147483648 ≤ a ∧ a ≤ 2147483647) (hs : I 79 3 = 0 ∨ I 79 3 = 1) {post : ed_post} (h : ∀ z9 I1 L1, mr_paid I L a z9 I1 L1 → post (.inl (some (.long (lZ z9)))) Yw I1 L1) : ed_Ct g l mM_paid 3 0 0 [.ref 79, .int (iZ a)] Yw I L post :=
  cM_paid hl ra hs (h1 := fun b0 => h _ _ _ (Or.inl ⟨b0, rfl, rfl, rfl⟩)) (h2 := fun b0 b1 => h _ _ _ (Or.inr (Or.inl ⟨b0, b1, rfl, rfl, rfl⟩))) (hn := fun b0 b1 => h _ _ _ (Or.inr (Or.inr (⟨b0, b1, rfl, rfl, rfl⟩))))
def lr_sum (I : ed_I) (L : ed_L) (a : Int) (z9 : Int) (I1 : ed_I) (L1 : ed_L) : Prop := ((¬ (0 ≤ a ∧ a ≤ 7)) ∧ z9 = 1 ∧ I1 = I ∧ L1 = L) ∨ (((0 ≤ a ∧ a ≤ 7)) ∧ (¬ (I 0 5 ≠ 0)) ∧ z9 = 2 ∧ I1 = I ∧ L1 = L) ∨ (((0 ≤ a ∧ a ≤ 7)) ∧ ((I 0 5 ≠ 0)) ∧ z9 = 0 ∧ I1 = I ∧ L1 = (upI L 112 0 (L 78 a)))
theorem lc_sum {g : ed_g} {l : Launch} (hl : l.stackTraces = false) {I : ed_I} {L : ed_L} {a : Int} (ra : -2147483648 ≤ a ∧ a ≤ 2147483647) (hs : I 0 5 = 0 ∨ I 0 5 = 1) {post : ed_post} (h : ∀ z9 I1 L1, lr_sum I L a z9 I1 L1 → post (.inl (some (.int (iZ z9)))) Yw I1 L1) : ed_Ct g l mL_sum 5 2 12 [.ref 0, .int (iZ a), .ref 112] Yw I L post :=
  cL_sum hl ra hs (hA := fun b0 => h _ _ _ (Or.inl ⟨b0, rfl, rfl, rfl⟩)) (hS := fun b0 b1 => h _ _ _ (Or.inr (Or.inl ⟨b0, b1, rfl, rfl, rfl⟩))) (hn := fun b0 b1 => h _ _ _ (Or.inr (Or.inr (⟨b0, b1, rfl, rfl, rfl⟩))))
def mr_sum (I : ed_I) (L : ed_L) (a : Int) (z9 : Int) (I1 : ed_I) (L1 : ed_L) : Prop := ((¬ (0 ≤ a ∧ a ≤ 7)) ∧ z9 = 0 ∧ I1 = (upI I 79 0 1) ∧ L1 = L) ∨ (((0 ≤ a ∧ a ≤ 7)) ∧ (¬ (I 79 3 ≠ 0)) ∧ z9 = 0 ∧ I1 = (upI I 79 0 2) ∧ L1 = L) ∨ (((0 ≤ a ∧ a ≤ 7)) ∧ ((I 79 3 ≠ 0)) ∧ z9 = (L 108 a) ∧ I1 = (upI I 79 0 0) ∧ L1 = L)
theorem mc_sum {g : ed_g} {l : Launch} (hl : l.stackTraces = false) {I : ed_I} {L : ed_L} {a : Int} (ra : -2147483648 ≤ a ∧ a ≤ 2147483647) (hs : I 79 3 = 0 ∨ I 79 3 = 1) {post : ed_post} (h : ∀ z9 I1 L1, mr_sum I L a z9 I1 L1 → post (.inl (some (.long (lZ z9)))) Yw I1 L1) : ed_Ct g l mM_sum 3 0 0 [.ref 79, .int (iZ a)] Yw I L post :=
  cM_sum hl ra hs (h1 := fun b0 => h _ _ _ (Or.inl ⟨b0, rfl, rfl, rfl⟩)) (h2 := fun b0 b1 => h _ _ _ (Or.inr (Or.inl ⟨b0, b1, rfl, rfl, rfl⟩))) (hn := fun b0 b1 => h _ _ _ (Or.inr (Or.inr (⟨b0, b1, rfl, rfl, rfl⟩))))
def lr_close (I : ed_I) (L : ed_L) (z9 : Int) (I1 : ed_I) (L1 : ed_L) : Prop := ((¬ (I 0 7 = 0 ∧ I 0 6 ≠ 0)) ∧ z9 = 1 ∧ I1 = I ∧ L1 = L) ∨ (((I 0 7 = 0 ∧ I 0 6 ≠ 0)) ∧ z9 = 0 ∧ I1 = (upI I 0 7 1) ∧ L1 = L)
theorem lc_close {g : ed_g} {l : Launch} (hl : l.stackTraces = false) {I : ed_I} {L : ed_L} (hc : I 0 7 = 0 ∨ I 0 7 = 1) (hs : I 0 6 = 0 ∨ I 0 6 = 1) {post : ed_post} (h : ∀ z9 I1 L1, lr_close I L  z9 I1 L1 → post (.inl (some (.int (iZ z9)))) Yw I1 L1) : ed_Ct g l mL_close 5 2 12 [.ref 0] Yw I L post :=
  cL_close hl hc hs (hS := fun b0 => h _ _ _ (Or.inl ⟨b0, rfl, rfl, rfl⟩)) (hn := fun b0 => h _ _ _ (Or.inr (⟨b0, rfl, rfl, rfl⟩)))
def mr_close (I : ed_I) (L : ed_L) (I1 : ed_I) (L1 : ed_L) : Prop := (((I 79 2 ≠ 0 ∨ I 79 4 = 0)) ∧ I1 = (upI I 79 0 1) ∧ L1 = L) ∨ ((I 79 2 = 0 ∧ I 79 4 ≠ 0) ∧ I1 = (upI (upI I 79 0 0) 79 2 1) ∧ L1 = L)
theorem mc_close {g : ed_g} {l : Launch} (hl : l.stackTraces = false) {I : ed_I} {L : ed_L} (hc : I 79 2 = 0 ∨ I 79 2 = 1) (hf : I 79 4 = 0 ∨ I 79 4 = 1) {post : ed_post} (h : ∀ I1 L1, mr_close I L  I1 L1 → post (.inl none) Yw I1 L1) : ed_Ct g l mM_close 1 0 0 [.ref 79] Yw I L post :=
  cM_close hl hc hf (h1 := fun b0 => h _ _ (Or.inl ⟨b0, rfl, rfl⟩)) (hn := fun b0 => h _ _ (Or.inr (⟨b0, rfl, rfl⟩)))
def lr_worth (I : ed_I) (L : ed_L) (y a : Int) (z9 : Int) (I1 : ed_I) (L1 : ed_L) : Prop := ((¬ ((0 ≤ y ∧ y ≤ 1000000000) ∧ 0 ≤ a ∧ a ≤ 99)) ∧ z9 = 1 ∧ I1 = I ∧ L1 = L) ∨ ((((0 ≤ y ∧ y ≤ 1000000000) ∧ 0 ≤ a ∧ a ≤ 99)) ∧ z9 = 0 ∧ I1 = I ∧ L1 = (upI L 112 0 (anV y a)))
theorem lc_worth {g : ed_g} {l : Launch} (hl : l.stackTraces = false) {I : ed_I} {L : ed_L} {y a : Int} (ra : -2147483648 ≤ a ∧ a ≤ 2147483647) (ry : -9223372036854775808 ≤ y ∧ y ≤ 9223372036854775807) {post : ed_post} (h : ∀ z9 I1 L1, lr_worth I L y a z9 I1 L1 → post (.inl (some (.int (iZ z9)))) Yw I1 L1) : ed_Ct g l mL_worth 5 2 12 [.ref 0, .long (lZ y), .int (iZ a), .ref 112] Yw I L post :=
  cL_worth hl ra ry (hA := fun b0 => h _ _ _ (Or.inl ⟨b0, rfl, rfl, rfl⟩)) (hn := fun b0 => h _ _ _ (Or.inr (⟨b0, rfl, rfl, rfl⟩)))
def mr_worth (I : ed_I) (L : ed_L) (y a : Int) (z9 : Int) (I1 : ed_I) (L1 : ed_L) : Prop := ((¬ ((0 ≤ y ∧ y ≤ 1000000000) ∧ 0 ≤ a ∧ a ≤ 99)) ∧ z9 = 0 ∧ I1 = (upI I 79 0 1) ∧ L1 = L) ∨ (((0 ≤ y ∧ y ≤ 1000000000) ∧ 0 ≤ a ∧ a ≤ 99) ∧ z9 = (anV y a) ∧ I1 = (upI I 79 0 0) ∧ L1 = L)
theorem mc_worth {g : ed_g} {l : Launch} (hl : l.stackTraces = false) {I : ed_I} {L : ed_L} {y a : Int} (ra : -2147483648 ≤ a ∧ a ≤ 2147483647) (ry : -9223372036854775808 ≤ y ∧ y ≤ 9223372036854775807) {post : ed_post} (h : ∀ z9 I1 L1, mr_worth I L y a z9 I1 L1 → post (.inl (some (.long (lZ z9)))) Yw I1 L1) : ed_Ct g l mM_worth 2 0 0 [.ref 79, .long (lZ y), .int (iZ a)] Yw I L post :=
  cM_worth hl ra ry (h1 := fun b0 => h _ _ _ (Or.inl ⟨b0, rfl, rfl, rfl⟩)) (hn := fun b0 => h _ _ _ (Or.inr (⟨b0, rfl, rfl, rfl⟩)))
/-- what the reference's contracts ask of its cells -/
def Hm (I : ed_I) : Prop := (I 79 2 = 0 ∨ I 79 2 = 1) ∧ (I 79 3 = 0 ∨ I 79 3 = 1) ∧ (I 79 4 = 0 ∨ I 79 4 = 1) ∧ (∀ j, 0 ≤ j → j ≤ 40 → I 81 j = 0 ∨ I 81 j = 1) ∧ (∀ j, 0 ≤ j → j ≤ 40 → I 83 j = 0 ∨ I 83 j = 1) ∧ (∀ j, 0 ≤ j → j ≤ 40 → -1 ≤ I 86 j ∧ I 86 j ≤ 100000) ∧ (∀ j, 0 ≤ j → j ≤ 40 → -1 ≤ I 85 j ∧ I 85 j ≤ 100000) ∧ (∀ j, 1 ≤ j → j ≤ 40 → -1 ≤ I 95 j ∧ I 95 j ≤ 100000) ∧ (∀ j, 1 ≤ j → j ≤ 40 → -1 ≤ I 94 j ∧ I 94 j ≤ 3)
def Hd (I : ed_I) : Prop := (I 0 7 = 0 ∨ I 0 7 = 1) ∧ (I 0 5 = 0 ∨ I 0 5 = 1) ∧ (I 0 6 = 0 ∨ I 0 6 = 1) ∧ (∀ j, 0 ≤ j → j ≤ 40 → I 7 j = 0 ∨ I 7 j = 1) ∧ (∀ j, 0 ≤ j → j ≤ 40 → I 9 j = 0 ∨ I 9 j = 1) ∧ (∀ j, 0 ≤ j → j ≤ 40 → -1 ≤ I 17 j ∧ I 17 j ≤ 100000) ∧ (∀ j, 0 ≤ j → j ≤ 40 → -1 ≤ I 15 j ∧ I 15 j ≤ 100000) ∧ (∀ j, 1 ≤ j → j ≤ 40 → -1 ≤ I 62 j ∧ I 62 j ≤ 100000) ∧ (∀ j, 1 ≤ j → j ≤ 40 → -1 ≤ I 61 j ∧ I 61 j ≤ 100000) ∧ (∀ j, 0 ≤ j → j ≤ 40 → -1 ≤ I 13 j ∧ I 13 j ≤ 100000)
theorem Rel.hm {I : ed_I} {L : ed_L} (h : Rel I L) : Hm I := by
  obtain ⟨⟨h1, h2, h3, h4, h5, h6, h7, h8, h9⟩, hj, hg, hn, ho⟩ := h
  refine ⟨by omega, by omega, by omega, fun j a b => ?_, fun j a b => ?_, fun j a b => ?_, fun j a b => ?_, fun j a b => ?_, fun j a b => ?_⟩
  · have q := (hj j a b).2.1; clear hj hg hn ho; omega
  · have q := (hj j a b).2.1; clear hj hg hn ho; omega
  · have q := (hj j a b).2.2.1; clear hj hg hn ho; omega
  · have q := (hj j a b).2.2.1; clear hj hg hn ho; omega
  · have q := ho.2.2.2.2.1 j a b; clear hj hg hn ho; omega
  · have q := ho.2.2.2.2.1 j a b; clear hj hg hn ho; omega
theorem Rel.hd {I : ed_I} {L : ed_L} (h : Rel I L) : Hd I := by
  obtain ⟨⟨h1, h2, h3, h4, h5, h6, h7, h8, h9⟩, hj, hg, hn, ho⟩ := h
  refine ⟨h3, h1, h2, fun j a b => ?_, fun j a b => ?_, fun j a b => ?_, fun j a b => ?_, fun j a b => ?_, fun j a b => ?_, fun j a b => ?_⟩
  · have q := (hj j a b).2.1; clear hj hg hn ho; omega
  · have q := (hj j a b).2.1; clear hj hg hn ho; omega
  · have q := (hj j a b).2.2.1; clear hj hg hn ho; omega
  · have q := (hj j a b).2.2.1; clear hj hg hn ho; omega
  · have q := ho.2.2.2.2.1 j a b; clear hj hg hn ho; omega
  · have q := ho.2.2.2.2.1 j a b; clear hj hg hn ho; omega
  · have q := ho.2.2.1 j a b; clear hj hg hn ho; omega
theorem Hm.of {I I1 : ed_I} (h : Hm I) (e : ∀ k j, 79 ≤ k → I1 k j = I k j) : Hm I1 := by
  unfold Hm at h ⊢
  simp only [e 79 _ (by decide), e 81 _ (by decide), e 83 _ (by decide), e 86 _ (by decide), e 85 _ (by decide), e 95 _ (by decide), e 94 _ (by decide)]
  exact h
theorem upI_lo {I : ed_I} {k a : Nat} {i v b : Int} (hk : k < 79) (ha : 79 ≤ a) : upI I k i v a b = I a b := upI_o I k i v (Or.inl (by omega))
theorem ld_testator {g : ed_g} {l : Launch} (hl : l.stackTraces = false) {I : ed_I} {L : ed_L} (hd : Hd I) {a : Int} (ra : -2147483648 ≤ a ∧ a ≤ 2147483647) {post : ed_post} (h : ∀ z9 I1 L1, lr_testator I L a z9 I1 L1 → post (.inl (some (.int (iZ z9)))) Yw I1 L1) : ed_Ct g l mL_testator 5 2 12 [.ref 0, .int (iZ a)] Yw I L post :=
  lc_testator hl ra hd.1 h
theorem md_testator {g : ed_g} {l : Launch} (hl : l.stackTraces = false) {I : ed_I} {L : ed_L} (hm : Hm I) {a : Int} (ra : -2147483648 ≤ a ∧ a ≤ 2147483647) {post : ed_post} (h : ∀ I1 L1, mr_testator I L a I1 L1 → post (.inl none) Yw I1 L1) : ed_Ct g l mM_testator 3 0 0 [.ref 79, .int (iZ a)] Yw I L post :=
  mc_testator hl ra hm.1 h
theorem ld_person {g : ed_g} {l : Launch} (hl : l.stackTraces = false) {I : ed_I} {L : ed_L} (hd : Hd I) {a b : Int} (ra : -2147483648 ≤ a ∧ a ≤ 2147483647) (rb : -2147483648 ≤ b ∧ b ≤ 2147483647) {post : ed_post} (h : ∀ z9 I1 L1, lr_person I L a b z9 I1 L1 → post (.inl (some (.int (iZ z9)))) Yw I1 L1) : ed_Ct g l mL_person 5 3 18 [.ref 0, .int (iZ a), .int (iZ b)] Yw I L post :=
  lc_person hl ra rb hd.1 h
theorem md_person {g : ed_g} {l : Launch} (hl : l.stackTraces = false) {I : ed_I} {L : ed_L} (hm : Hm I) {a b : Int} (ra : -2147483648 ≤ a ∧ a ≤ 2147483647) (rb : -2147483648 ≤ b ∧ b ≤ 2147483647) {post : ed_post} (h : ∀ I1 L1, mr_person I L a b I1 L1 → post (.inl none) Yw I1 L1) : ed_Ct g l mM_person 3 0 0 [.ref 79, .int (iZ a), .int (iZ b)] Yw I L post :=
  mc_person hl ra rb hm.1 h
theorem ld_asset {g : ed_g} {l : Launch} (hl : l.stackTraces = false) {I : ed_I} {L : ed_L} (hd : Hd I) {a v f : Int} (ra : -2147483648 ≤ a ∧ a ≤ 2147483647) (rv : -9223372036854775808 ≤ v ∧ v ≤ 9223372036854775807) (hf : f = 0 ∨ f = 1) {post : ed_post} (h : ∀ z9 I1 L1, lr_asset I L a v f z9 I1 L1 → post (.inl (some (.int (iZ z9)))) Yw I1 L1) : ed_Ct g l mL_asset 5 4 24 [.ref 0, .int (iZ a), .long (lZ v), .int (iZ f)] Yw I L post :=
  lc_asset hl ra rv hf hd.1 hd.2.2.2.1 h
theorem md_asset {g : ed_g} {l : Launch} (hl : l.stackTraces = false) {I : ed_I} {L : ed_L} (hm : Hm I) {a v f : Int} (ra : -2147483648 ≤ a ∧ a ≤ 2147483647) (rv : -9223372036854775808 ≤ v ∧ v ≤ 9223372036854775807) (hf : f = 0 ∨ f = 1) {post : ed_post} (h : ∀ I1 L1, mr_asset I L a v f I1 L1 → post (.inl none) Yw I1 L1) : ed_Ct g l mM_asset 3 0 0 [.ref 79, .int (iZ a), .long (lZ v), .int (iZ f)] Yw I L post :=
  mc_asset hl ra rv hf hm.1 hm.2.2.2.1 h
theorem ld_revalue {g : ed_g} {l : Launch} (hl : l.stackTraces = false) {I : ed_I} {L : ed_L} (hd : Hd I) {a v : Int} (ra : -2147483648 ≤ a ∧ a ≤ 2147483647) (rv : -9223372036854775808 ≤ v ∧ v ≤ 9223372036854775807) {post : ed_post} (h : ∀ z9 I1 L1, lr_revalue I L a v z9 I1 L1 → post (.inl (some (.int (iZ z9)))) Yw I1 L1) : ed_Ct g l mL_revalue 5 4 24 [.ref 0, .int (iZ a), .long (lZ v), .ref 112] Yw I L post :=
  lc_revalue hl ra rv hd.1 hd.2.2.2.1 h
theorem md_revalue {g : ed_g} {l : Launch} (hl : l.stackTraces = false) {I : ed_I} {L : ed_L} (hm : Hm I) {a v : Int} (ra : -2147483648 ≤ a ∧ a ≤ 2147483647) (rv : -9223372036854775808 ≤ v ∧ v ≤ 9223372036854775807) {post : ed_post} (h : ∀ z9 I1 L1, mr_revalue I L a v z9 I1 L1 → post (.inl (some (.long (lZ z9)))) Yw I1 L1) : ed_Ct g l mM_revalue 3 0 0 [.ref 79, .int (iZ a), .long (lZ v)] Yw I L post :=
  mc_revalue hl ra rv hm.1 hm.2.2.2.1 h
theorem ld_gone {g : ed_g} {l : Launch} (hl : l.stackTraces = false) {I : ed_I} {L : ed_L} (hd : Hd I) {a : Int} (ra : -2147483648 ≤ a ∧ a ≤ 2147483647) {post : ed_post} (h : ∀ z9 I1 L1, lr_gone I L a z9 I1 L1 → post (.inl (some (.int (iZ z9)))) Yw I1 L1) : ed_Ct g l mL_gone 5 3 18 [.ref 0, .int (iZ a)] Yw I L post :=
  lc_gone hl ra hd.1 hd.2.2.2.1 h
theorem md_gone {g : ed_g} {l : Launch} (hl : l.stackTraces = false) {I : ed_I} {L : ed_L} (hm : Hm I) {a : Int} (ra : -2147483648 ≤ a ∧ a ≤ 2147483647) {post : ed_post} (h : ∀ I1 L1, mr_gone I L a I1 L1 → post (.inl none) Yw I1 L1) : ed_Ct g l mM_gone 3 0 0 [.ref 79, .int (iZ a)] Yw I L post :=
  mc_gone hl ra hm.1 hm.2.2.2.1 h
theorem ld_gift {g : ed_g} {l : Launch} (hl : l.stackTraces = false) {I : ed_I} {L : ed_L} (hd : Hd I) {c a : Int} (rc : -2147483648 ≤ c ∧ c ≤ 2147483647) (ra : -2147483648 ≤ a ∧ a ≤ 2147483647) {post : ed_post} (h : ∀ z9 I1 L1, lr_gift I L c a z9 I1 L1 → post (.inl (some (.int (iZ z9)))) Yw I1 L1) : ed_Ct g l mL_gift 5 5 30 [.ref 0, .int (iZ c), .int (iZ a)] Yw I L post :=
  lc_gift hl rc ra hd.1 hd.2.2.2.1 hd.2.2.2.2.2.1 h
theorem md_gift {g : ed_g} {l : Launch} (hl : l.stackTraces = false) {I : ed_I} {L : ed_L} (hm : Hm I) {c a : Int} (rc : -2147483648 ≤ c ∧ c ≤ 2147483647) (ra : -2147483648 ≤ a ∧ a ≤ 2147483647) {post : ed_post} (h : ∀ I1 L1, mr_gift I L c a I1 L1 → post (.inl none) Yw I1 L1) : ed_Ct g l mM_gift 3 0 0 [.ref 79, .int (iZ c), .int (iZ a)] Yw I L post :=
  mc_gift hl rc ra hm.1 hm.2.2.2.1 hm.2.2.2.2.2.1 hm.2.2.2.2.2.2.1 h
theorem ld_legacy {g : ed_g} {l : Launch} (hl : l.stackTraces = false) {I : ed_I} {L : ed_L} (hd : Hd I) {c v a : Int} (rc : -2147483648 ≤ c ∧ c ≤ 2147483647) (ra : -2147483648 ≤ a ∧ a ≤ 2147483647) (rv : -9223372036854775808 ≤ v ∧ v ≤ 9223372036854775807) {post : ed_post} (h : ∀ z9 I1 L1, lr_legacy I L c v a z9 I1 L1 → post (.inl (some (.int (iZ z9)))) Yw I1 L1) : ed_Ct g l mL_legacy 5 7 42 [.ref 0, .int (iZ c), .long (lZ v), .int (iZ a)] Yw I L post :=
  lc_legacy hl rc ra rv hd.1 hd.2.2.2.1 hd.2.2.2.2.1 hd.2.2.2.2.2.1 hd.2.2.2.2.2.2.1 h
theorem md_legacy {g : ed_g} {l : Launch} (hl : l.stackTraces = false) {I : ed_I} {L : ed_L} (hm : Hm I) {c v a : Int} (rc : -2147483648 ≤ c ∧ c ≤ 2147483647) (ra : -2147483648 ≤ a ∧ a ≤ 2147483647) (rv : -9223372036854775808 ≤ v ∧ v ≤ 9223372036854775807) {post : ed_post} (h : ∀ I1 L1, mr_legacy I L c v a I1 L1 → post (.inl none) Yw I1 L1) : ed_Ct g l mM_legacy 3 0 0 [.ref 79, .int (iZ c), .long (lZ v), .int (iZ a)] Yw I L post :=
  mc_legacy hl rc ra rv hm.1 hm.2.2.2.1 hm.2.2.2.2.1 hm.2.2.2.2.2.1 hm.2.2.2.2.2.2.1 h
theorem ld_annuity {g : ed_g} {l : Launch} (hl : l.stackTraces = false) {I : ed_I} {L : ed_L} (hd : Hd I) {c y a : Int} (rc : -2147483648 ≤ c ∧ c ≤ 2147483647) (ra : -2147483648 ≤ a ∧ a ≤ 2147483647) (ry : -9223372036854775808 ≤ y ∧ y ≤ 9223372036854775807) {post : ed_post} (h : ∀ z9 I1 L1, lr_annuity I L c y a z9 I1 L1 → post (.inl (some (.int (iZ z9)))) Yw I1 L1) : ed_Ct g l mL_annuity 5 4 24 [.ref 0, .int (iZ c), .long (lZ y), .int (iZ a)] Yw I L post :=
  lc_annuity hl rc ra ry hd.1 h
theorem md_annuity {g : ed_g} {l : Launch} (hl : l.stackTraces = false) {I : ed_I} {L : ed_L} (hm : Hm I) {c y a : Int} (rc : -2147483648 ≤ c ∧ c ≤ 2147483647) (ra : -2147483648 ≤ a ∧ a ≤ 2147483647) (ry : -9223372036854775808 ≤ y ∧ y ≤ 9223372036854775807) {post : ed_post} (h : ∀ I1 L1, mr_annuity I L c y a I1 L1 → post (.inl none) Yw I1 L1) : ed_Ct g l mM_annuity 3 0 0 [.ref 79, .int (iZ c), .long (lZ y), .int (iZ a)] Yw I L post :=
  mc_annuity hl rc ra ry hm.1 h
theorem ld_residue {g : ed_g} {l : Launch} (hl : l.stackTraces = false) {I : ed_I} {L : ed_L} (hd : Hd I) {c a : Int} (rc : -2147483648 ≤ c ∧ c ≤ 2147483647) (ra : -2147483648 ≤ a ∧ a ≤ 2147483647) {post : ed_post} (h : ∀ z9 I1 L1, lr_residue I L c a z9 I1 L1 → post (.inl (some (.int (iZ z9)))) Yw I1 L1) : ed_Ct g l mL_residue 5 3 18 [.ref 0, .int (iZ c), .int (iZ a)] Yw I L post :=
  lc_residue hl rc ra hd.1 h
theorem md_residue {g : ed_g} {l : Launch} (hl : l.stackTraces = false) {I : ed_I} {L : ed_L} (hm : Hm I) {c a : Int} (rc : -2147483648 ≤ c ∧ c ≤ 2147483647) (ra : -2147483648 ≤ a ∧ a ≤ 2147483647) {post : ed_post} (h : ∀ I1 L1, mr_residue I L c a I1 L1 → post (.inl none) Yw I1 L1) : ed_Ct g l mM_residue 3 0 0 [.ref 79, .int (iZ c), .int (iZ a)] Yw I L post :=
  mc_residue hl rc ra hm.1 h
theorem ld_strike {g : ed_g} {l : Launch} (hl : l.stackTraces = false) {I : ed_I} {L : ed_L} (hd : Hd I) {c : Int} (rc : -2147483648 ≤ c ∧ c ≤ 2147483647) {post : ed_post} (h : ∀ z9 I1 L1, lr_strike I L c z9 I1 L1 → post (.inl (some (.int (iZ z9)))) Yw I1 L1) : ed_Ct g l mL_strike 5 2 12 [.ref 0, .int (iZ c)] Yw I L post :=
  lc_strike hl rc hd.1 h
theorem md_strike {g : ed_g} {l : Launch} (hl : l.stackTraces = false) {I : ed_I} {L : ed_L} (hm : Hm I) {c : Int} (rc : -2147483648 ≤ c ∧ c ≤ 2147483647) {post : ed_post} (h : ∀ I1 L1, mr_strike I L c I1 L1 → post (.inl none) Yw I1 L1) : ed_Ct g l mM_strike 3 0 0 [.ref 79, .int (iZ c)] Yw I L post :=
  mc_strike hl rc hm.1 h
theorem ld_taker {g : ed_g} {l : Launch} (hl : l.stackTraces = false) {I : ed_I} {L : ed_L} (hd : Hd I) {c r p : Int} (rc : -2147483648 ≤ c ∧ c ≤ 2147483647) (rr : -2147483648 ≤ r ∧ r ≤ 2147483647) (rp : -2147483648 ≤ p ∧ p ≤ 2147483647) {post : ed_post} (h : ∀ z9 I1 L1, lr_taker I L c r p z9 I1 L1 → post (.inl (some (.int (iZ z9)))) Yw I1 L1) : ed_Ct g l mL_taker 5 4 24 [.ref 0, .int (iZ c), .int (iZ r), .int (iZ p)] Yw I L post :=
  lc_taker hl rc rr rp hd.1 h
theorem md_taker {g : ed_g} {l : Launch} (hl : l.stackTraces = false) {I : ed_I} {L : ed_L} (hm : Hm I) {c r p : Int} (rc : -2147483648 ≤ c ∧ c ≤ 2147483647) (rr : -2147483648 ≤ r ∧ r ≤ 2147483647) (rp : -2147483648 ≤ p ∧ p ≤ 2147483647) {post : ed_post} (h : ∀ I1 L1, mr_taker I L c r p I1 L1 → post (.inl none) Yw I1 L1) : ed_Ct g l mM_taker 3 0 0 [.ref 79, .int (iZ c), .int (iZ r), .int (iZ p)] Yw I L post :=
  mc_taker hl rc rr rp hm.1 h
theorem ld_charge {g : ed_g} {l : Launch} (hl : l.stackTraces = false) {I : ed_I} {L : ed_L} (hd : Hd I) {c f : Int} (rc : -2147483648 ≤ c ∧ c ≤ 2147483647) (hf : f = 0 ∨ f = 1) {post : ed_post} (h : ∀ z9 I1 L1, lr_charge I L c f z9 I1 L1 → post (.inl (some (.int (iZ z9)))) Yw I1 L1) : ed_Ct g l mL_charge 5 3 18 [.ref 0, .int (iZ c), .int (iZ f)] Yw I L post :=
  lc_charge hl rc hf hd.1 hd.2.2.2.2.2.2.1 h
theorem md_charge {g : ed_g} {l : Launch} (hl : l.stackTraces = false) {I : ed_I} {L : ed_L} (hm : Hm I) {c f : Int} (rc : -2147483648 ≤ c ∧ c ≤ 2147483647) (hf : f = 0 ∨ f = 1) {post : ed_post} (h : ∀ I1 L1, mr_charge I L c f I1 L1 → post (.inl none) Yw I1 L1) : ed_Ct g l mM_charge 3 0 0 [.ref 79, .int (iZ c), .int (iZ f)] Yw I L post :=
  mc_charge hl rc hf hm.1 hm.2.2.2.2.2.2.1 h
theorem ld_debt {g : ed_g} {l : Launch} (hl : l.stackTraces = false) {I : ed_I} {L : ed_L} (hd : Hd I) {c v a : Int} (rc : -2147483648 ≤ c ∧ c ≤ 2147483647) (ra : -2147483648 ≤ a ∧ a ≤ 2147483647) (rv : -9223372036854775808 ≤ v ∧ v ≤ 9223372036854775807) {post : ed_post} (h : ∀ z9 I1 L1, lr_debt I L c v a z9 I1 L1 → post (.inl (some (.int (iZ z9)))) Yw I1 L1) : ed_Ct g l mL_debt 5 5 30 [.ref 0, .int (iZ c), .long (lZ v), .int (iZ a)] Yw I L post :=
  lc_debt hl rc ra rv hd.1 hd.2.2.2.1 h
theorem md_debt {g : ed_g} {l : Launch} (hl : l.stackTraces = false) {I : ed_I} {L : ed_L} (hm : Hm I) {c v a : Int} (rc : -2147483648 ≤ c ∧ c ≤ 2147483647) (ra : -2147483648 ≤ a ∧ a ≤ 2147483647) (rv : -9223372036854775808 ≤ v ∧ v ≤ 9223372036854775807) {post : ed_post} (h : ∀ I1 L1, mr_debt I L c v a I1 L1 → post (.inl none) Yw I1 L1) : ed_Ct g l mM_debt 3 0 0 [.ref 79, .int (iZ c), .long (lZ v), .int (iZ a)] Yw I L post :=
  mc_debt hl rc ra rv hm.1 hm.2.2.2.1 h
theorem ld_gets {g : ed_g} {l : Launch} (hl : l.stackTraces = false) {I : ed_I} {L : ed_L} (hd : Hd I) {p w : Int} (rp : -2147483648 ≤ p ∧ p ≤ 2147483647) (rw : -2147483648 ≤ w ∧ w ≤ 2147483647) {post : ed_post} (h : ∀ z9 I1 L1, lr_gets I L p w z9 I1 L1 → post (.inl (some (.int (iZ z9)))) Yw I1 L1) : ed_Ct g l mL_gets 5 3 18 [.ref 0, .int (iZ p), .int (iZ w), .ref 112] Yw I L post :=
  lc_gets hl rp rw hd.2.1 h
theorem md_gets {g : ed_g} {l : Launch} (hl : l.stackTraces = false) {I : ed_I} {L : ed_L} (hm : Hm I) {p w : Int} (rp : -2147483648 ≤ p ∧ p ≤ 2147483647) (rw : -2147483648 ≤ w ∧ w ≤ 2147483647) {post : ed_post} (h : ∀ z9 I1 L1, mr_gets I L p w z9 I1 L1 → post (.inl (some (.long (lZ z9)))) Yw I1 L1) : ed_Ct g l mM_gets 3 0 0 [.ref 79, .int (iZ p), .int (iZ w)] Yw I L post :=
  mc_gets hl rp rw hm.2.1 h
theorem ld_assetTo {g : ed_g} {l : Launch} (hl : l.stackTraces = false) {I : ed_I} {L : ed_L} (hd : Hd I) {a : Int} (ra : -2147483648 ≤ a ∧ a ≤ 2147483647) {post : ed_post} (h : ∀ z9 I1 L1, lr_assetTo I L a z9 I1 L1 → post (.inl (some (.int (iZ z9)))) Yw I1 L1) : ed_Ct g l mL_assetTo 5 2 12 [.ref 0, .int (iZ a), .ref 112] Yw I L post :=
  lc_assetTo hl ra hd.2.1 hd.2.2.2.2.2.2.2.2.2 h
theorem md_assetTo {g : ed_g} {l : Launch} (hl : l.stackTraces = false) {I : ed_I} {L : ed_L} (hm : Hm I) {a : Int} (ra : -2147483648 ≤ a ∧ a ≤ 2147483647) {post : ed_post} (h : ∀ z9 I1 L1, mr_assetTo I L a z9 I1 L1 → post (.inl (some (.int (iZ z9)))) Yw I1 L1) : ed_Ct g l mM_assetTo 3 0 0 [.ref 79, .int (iZ a)] Yw I L post :=
  mc_assetTo hl ra hm.2.1 h
theorem ld_clauseState {g : ed_g} {l : Launch} (hl : l.stackTraces = false) {I : ed_I} {L : ed_L} (hd : Hd I) {a : Int} (ra : -2147483648 ≤ a ∧ a ≤ 2147483647) {post : ed_post} (h : ∀ z9 I1 L1, lr_clauseState I L a z9 I1 L1 → post (.inl (some (.int (iZ z9)))) Yw I1 L1) : ed_Ct g l mL_clauseState 5 2 12 [.ref 0, .int (iZ a), .ref 112] Yw I L post :=
  lc_clauseState hl ra hd.2.1 hd.2.2.2.2.2.2.2.2.1 h
theorem md_clauseState {g : ed_g} {l : Launch} (hl : l.stackTraces = false) {I : ed_I} {L : ed_L} (hm : Hm I) {a : Int} (ra : -2147483648 ≤ a ∧ a ≤ 2147483647) {post : ed_post} (h : ∀ z9 I1 L1, mr_clauseState I L a z9 I1 L1 → post (.inl (some (.int (iZ z9)))) Yw I1 L1) : ed_Ct g l mM_clauseState 3 0 0 [.ref 79, .int (iZ a)] Yw I L post :=
  mc_clauseState hl ra hm.2.1 h
theorem ld_told {g : ed_g} {l : Launch} (hl : l.stackTraces = false) {I : ed_I} {L : ed_L} (hd : Hd I) {c w : Int} (rc : -2147483648 ≤ c ∧ c ≤ 2147483647) (rw : -2147483648 ≤ w ∧ w ≤ 2147483647) {post : ed_post} (h : ∀ z9 I1 L1, lr_told I L c w z9 I1 L1 → post (.inl (some (.int (iZ z9)))) Yw I1 L1) : ed_Ct g l mL_told 5 3 18 [.ref 0, .int (iZ c), .int (iZ w), .ref 112] Yw I L post :=
  lc_told hl rc rw hd.2.1 hd.2.2.2.2.2.2.2.1 h
theorem md_told {g : ed_g} {l : Launch} (hl : l.stackTraces = false) {I : ed_I} {L : ed_L} (hm : Hm I) {c w : Int} (rc : -2147483648 ≤ c ∧ c ≤ 2147483647) (rw : -2147483648 ≤ w ∧ w ≤ 2147483647) {post : ed_post} (h : ∀ z9 I1 L1, mr_told I L c w z9 I1 L1 → post (.inl (some (.long (lZ z9)))) Yw I1 L1) : ed_Ct g l mM_told 3 0 0 [.ref 79, .int (iZ c), .int (iZ w)] Yw I L post :=
  mc_told hl rc rw hm.2.1 hm.2.2.2.2.2.2.2.1 hm.2.2.2.2.2.2.2.2 h
theorem ld_paid {g : ed_g} {l : Launch} (hl : l.stackTraces = false) {I : ed_I} {L : ed_L} (hd : Hd I) {a : Int} (ra : -2147483648 ≤ a ∧ a ≤ 2147483647) {post : ed_post} (h : ∀ z9 I1 L1, lr_paid I L a z9 I1 L1 → post (.inl (some (.int (iZ z9)))) Yw I1 L1) : ed_Ct g l mL_paid 5 2 12 [.ref 0, .int (iZ a), .ref 112] Yw I L post :=
  lc_paid hl ra hd.2.1 h
theorem md_paid {g : ed_g} {l : Launch} (hl : l.stackTraces = false) {I : ed_I} {L : ed_L} (hm : Hm I) {a : Int} (ra : -2147483648 ≤ a ∧ a ≤ 2147483647) {post : ed_post} (h : ∀ z9 I1 L1, mr_paid I L a z9 I1 L1 → post (.inl (some (.long (lZ z9)))) Yw I1 L1) : ed_Ct g l mM_paid 3 0 0 [.ref 79, .int (iZ a)] Yw I L post :=
  mc_paid hl ra hm.2.1 h
theorem ld_sum {g : ed_g} {l : Launch} (hl : l.stackTraces = false) {I : ed_I} {L : ed_L} (hd : Hd I) {a : Int} (ra : -2147483648 ≤ a ∧ a ≤ 2147483647) {post : ed_post} (h : ∀ z9 I1 L1, lr_sum I L a z9 I1 L1 → post (.inl (some (.int (iZ z9)))) Yw I1 L1) : ed_Ct g l mL_sum 5 2 12 [.ref 0, .int (iZ a), .ref 112] Yw I L post :=
  lc_sum hl ra hd.2.1 h
theorem md_sum {g : ed_g} {l : Launch} (hl : l.stackTraces = false) {I : ed_I} {L : ed_L} (hm : Hm I) {a : Int} (ra : -2147483648 ≤ a ∧ a ≤ 2147483647) {post : ed_post} (h : ∀ z9 I1 L1, mr_sum I L a z9 I1 L1 → post (.inl (some (.long (lZ z9)))) Yw I1 L1) : ed_Ct g l mM_sum 3 0 0 [.ref 79, .int (iZ a)] Yw I L post :=
  mc_sum hl ra hm.2.1 h
theorem ld_close {g : ed_g} {l : Launch} (hl : l.stackTraces = false) {I : ed_I} {L : ed_L} (hd : Hd I)  {post : ed_post} (h : ∀ z9 I1 L1, lr_close I L  z9 I1 L1 → post (.inl (some (.int (iZ z9)))) Yw I1 L1) : ed_Ct g l mL_close 5 2 12 [.ref 0] Yw I L post :=
  lc_close hl hd.1 hd.2.2.1 h
theorem md_close {g : ed_g} {l : Launch} (hl : l.stackTraces = false) {I : ed_I} {L : ed_L} (hm : Hm I)  {post : ed_post} (h : ∀ I1 L1, mr_close I L  I1 L1 → post (.inl none) Yw I1 L1) : ed_Ct g l mM_close 1 0 0 [.ref 79] Yw I L post :=
  mc_close hl hm.1 hm.2.2.1 h
theorem ld_worth {g : ed_g} {l : Launch} (hl : l.stackTraces = false) {I : ed_I} {L : ed_L} (hd : Hd I) {y a : Int} (ra : -2147483648 ≤ a ∧ a ≤ 2147483647) (ry : -9223372036854775808 ≤ y ∧ y ≤ 9223372036854775807) {post : ed_post} (h : ∀ z9 I1 L1, lr_worth I L y a z9 I1 L1 → post (.inl (some (.int (iZ z9)))) Yw I1 L1) : ed_Ct g l mL_worth 5 2 12 [.ref 0, .long (lZ y), .int (iZ a), .ref 112] Yw I L post :=
  lc_worth hl ra ry h
theorem md_worth {g : ed_g} {l : Launch} (hl : l.stackTraces = false) {I : ed_I} {L : ed_L} (hm : Hm I) {y a : Int} (ra : -2147483648 ≤ a ∧ a ≤ 2147483647) (ry : -9223372036854775808 ≤ y ∧ y ≤ 9223372036854775807) {post : ed_post} (h : ∀ z9 I1 L1, mr_worth I L y a z9 I1 L1 → post (.inl (some (.long (lZ z9)))) Yw I1 L1) : ed_Ct g l mM_worth 2 0 0 [.ref 79, .long (lZ y), .int (iZ a)] Yw I L post :=
  mc_worth hl ra ry h
theorem lf_testator {I : ed_I} {L : ed_L} {a : Int} {z9 : Int} {I1 : ed_I} {L1 : ed_L} (h : lr_testator I L a z9 I1 L1) : ∀ k j, 79 ≤ k → I1 k j = I k j := by
  intro k j hk
  unfold lr_testator at h
  rcases h with ⟨b0, -, rfl, rfl⟩ | ⟨b0, b1, -, rfl, rfl⟩ | ⟨b0, b1, -, rfl, rfl⟩
  · rfl
  · rfl
  · rw [upI_lo (by omega) hk, upI_lo (by omega) hk]
theorem lf_person {I : ed_I} {L : ed_L} {a b : Int} {z9 : Int} {I1 : ed_I} {L1 : ed_L} (h : lr_person I L a b z9 I1 L1) : ∀ k j, 79 ≤ k → I1 k j = I k j := by
  intro k j hk
  unfold lr_person at h
  rcases h with ⟨b0, -, rfl, rfl⟩ | ⟨b0, b1, -, rfl, rfl⟩ | ⟨b0, b1, -, rfl, rfl⟩
  · rfl
  · rfl
  · rw [upI_lo (by omega) hk, upI_lo (by omega) hk]
theorem lf_asset {I : ed_I} {L : ed_L} {a v f : Int} {z9 : Int} {I1 : ed_I} {L1 : ed_L} (h : lr_asset I L a v f z9 I1 L1) : ∀ k j, 79 ≤ k → I1 k j = I k j := by
  intro k j hk
  unfold lr_asset at h
  rcases h with ⟨b0, -, rfl, rfl⟩ | ⟨b0, b1, -, rfl, rfl⟩ | ⟨b0, b1, -, rfl, rfl⟩
  · rfl
  · rfl
  · rw [upI_lo (by omega) hk, upI_lo (by omega) hk, upI_lo (by omega) hk]
theorem lf_revalue {I : ed_I} {L : ed_L} {a v : Int} {z9 : Int} {I1 : ed_I} {L1 : ed_L} (h : lr_revalue I L a v z9 I1 L1) : ∀ k j, 79 ≤ k → I1 k j = I k j := by
  intro k j hk
  unfold lr_revalue at h
  rcases h with ⟨b0, -, rfl, rfl⟩ | ⟨b0, b1, -, rfl, rfl⟩ | ⟨b0, b1, -, rfl, rfl⟩
  · rfl
  · rfl
  · rw [upI_lo (by omega) hk]
theorem lf_gone {I : ed_I} {L : ed_L} {a : Int} {z9 : Int} {I1 : ed_I} {L1 : ed_L} (h : lr_gone I L a z9 I1 L1) : ∀ k j, 79 ≤ k → I1 k j = I k j := by
  intro k j hk
  unfold lr_gone at h
  rcases h with ⟨b0, -, rfl, rfl⟩ | ⟨b0, b1, -, rfl, rfl⟩ | ⟨b0, b1, -, rfl, rfl⟩
  · rfl
  · rfl
  · rw [upI_lo (by omega) hk, upI_lo (by omega) hk]
theorem lf_gift {I : ed_I} {L : ed_L} {c a : Int} {z9 : Int} {I1 : ed_I} {L1 : ed_L} (h : lr_gift I L c a z9 I1 L1) : ∀ k j, 79 ≤ k → I1 k j = I k j := by
  intro k j hk
  unfold lr_gift at h
  rcases h with ⟨b0, -, rfl, rfl⟩ | ⟨b0, b1, -, rfl, rfl⟩ | ⟨b0, b1, -, rfl, rfl⟩
  · rfl
  · rfl
  · rw [upI_lo (by omega) hk, upI_lo (by omega) hk, upI_lo (by omega) hk, upI_lo (by omega) hk]
theorem lf_legacy {I : ed_I} {L : ed_L} {c v a : Int} {z9 : Int} {I1 : ed_I} {L1 : ed_L} (h : lr_legacy I L c v a z9 I1 L1) : ∀ k j, 79 ≤ k → I1 k j = I k j := by
  intro k j hk
  unfold lr_legacy at h
  rcases h with ⟨b0, -, rfl, rfl⟩ | ⟨b0, b1, -, rfl, rfl⟩ | ⟨b0, b1, -, rfl, rfl⟩
  · rfl
  · rfl
  · rw [upI_lo (by omega) hk, upI_lo (by omega) hk, upI_lo (by omega) hk, upI_lo (by omega) hk]
theorem lf_annuity {I : ed_I} {L : ed_L} {c y a : Int} {z9 : Int} {I1 : ed_I} {L1 : ed_L} (h : lr_annuity I L c y a z9 I1 L1) : ∀ k j, 79 ≤ k → I1 k j = I k j := by
  intro k j hk
  unfold lr_annuity at h
  rcases h with ⟨b0, -, rfl, rfl⟩ | ⟨b0, b1, -, rfl, rfl⟩ | ⟨b0, b1, -, rfl, rfl⟩
  · rfl
  · rfl
  · rw [upI_lo (by omega) hk, upI_lo (by omega) hk, upI_lo (by omega) hk, upI_lo (by omega) hk]
theorem lf_residue {I : ed_I} {L : ed_L} {c a : Int} {z9 : Int} {I1 : ed_I} {L1 : ed_L} (h : lr_residue I L c a z9 I1 L1) : ∀ k j, 79 ≤ k → I1 k j = I k j := by
  intro k j hk
  unfold lr_residue at h
  rcases h with ⟨b0, -, rfl, rfl⟩ | ⟨b0, b1, -, rfl, rfl⟩ | ⟨b0, b1, -, rfl, rfl⟩
  · rfl
  · rfl
  · rw [upI_lo (by omega) hk, upI_lo (by omega) hk, upI_lo (by omega) hk, upI_lo (by omega) hk]
theorem lf_strike {I : ed_I} {L : ed_L} {c : Int} {z9 : Int} {I1 : ed_I} {L1 : ed_L} (h : lr_strike I L c z9 I1 L1) : ∀ k j, 79 ≤ k → I1 k j = I k j := by
  intro k j hk
  unfold lr_strike at h
  rcases h with ⟨b0, -, rfl, rfl⟩ | ⟨b0, b1, -, rfl, rfl⟩ | ⟨b0, b1, -, rfl, rfl⟩
  · rfl
  · rfl
  · rw [upI_lo (by omega) hk, upI_lo (by omega) hk, upI_lo (by omega) hk, upI_lo (by omega) hk]
theorem lf_taker {I : ed_I} {L : ed_L} {c r p : Int} {z9 : Int} {I1 : ed_I} {L1 : ed_L} (h : lr_taker I L c r p z9 I1 L1) : ∀ k j, 79 ≤ k → I1 k j = I k j := by
  intro k j hk
  unfold lr_taker at h
  rcases h with ⟨b0, -, rfl, rfl⟩ | ⟨b0, b1, -, rfl, rfl⟩ | ⟨b0, b1, -, rfl, rfl⟩
  · rfl
  · rfl
  · rw [upI_lo (by omega) hk, upI_lo (by omega) hk]
theorem lf_charge {I : ed_I} {L : ed_L} {c f : Int} {z9 : Int} {I1 : ed_I} {L1 : ed_L} (h : lr_charge I L c f z9 I1 L1) : ∀ k j, 79 ≤ k → I1 k j = I k j := by
  intro k j hk
  unfold lr_charge at h
  rcases h with ⟨b0, -, rfl, rfl⟩ | ⟨b0, b1, -, rfl, rfl⟩ | ⟨b0, b1, -, rfl, rfl⟩
  · rfl
  · rfl
  · rw [upI_lo (by omega) hk, upI_lo (by omega) hk]
theorem lf_debt {I : ed_I} {L : ed_L} {c v a : Int} {z9 : Int} {I1 : ed_I} {L1 : ed_L} (h : lr_debt I L c v a z9 I1 L1) : ∀ k j, 79 ≤ k → I1 k j = I k j := by
  intro k j hk
  unfold lr_debt at h
  rcases h with ⟨b0, -, rfl, rfl⟩ | ⟨b0, b1, -, rfl, rfl⟩ | ⟨b0, b1, -, rfl, rfl⟩
  · rfl
  · rfl
  · rw [upI_lo (by omega) hk, upI_lo (by omega) hk]
theorem lf_gets {I : ed_I} {L : ed_L} {p w : Int} {z9 : Int} {I1 : ed_I} {L1 : ed_L} (h : lr_gets I L p w z9 I1 L1) : ∀ k j, 79 ≤ k → I1 k j = I k j := by
  intro k j hk
  unfold lr_gets at h
  rcases h with ⟨b0, -, rfl, rfl⟩ | ⟨b0, b1, -, rfl, rfl⟩ | ⟨b0, b1, -, rfl, rfl⟩
  · rfl
  · rfl
  · rfl
theorem lf_assetTo {I : ed_I} {L : ed_L} {a : Int} {z9 : Int} {I1 : ed_I} {L1 : ed_L} (h : lr_assetTo I L a z9 I1 L1) : ∀ k j, 79 ≤ k → I1 k j = I k j := by
  intro k j hk
  unfold lr_assetTo at h
  rcases h with ⟨b0, -, rfl, rfl⟩ | ⟨b0, b1, -, rfl, rfl⟩ | ⟨b0, b1, -, rfl, rfl⟩
  · rfl
  · rfl
  · rfl
theorem lf_clauseState {I : ed_I} {L : ed_L} {a : Int} {z9 : Int} {I1 : ed_I} {L1 : ed_L} (h : lr_clauseState I L a z9 I1 L1) : ∀ k j, 79 ≤ k → I1 k j = I k j := by
  intro k j hk
  unfold lr_clauseState at h
  rcases h with ⟨b0, -, rfl, rfl⟩ | ⟨b0, b1, -, rfl, rfl⟩ | ⟨b0, b1, -, rfl, rfl⟩
  · rfl
  · rfl
  · rfl
theorem lf_told {I : ed_I} {L : ed_L} {c w : Int} {z9 : Int} {I1 : ed_I} {L1 : ed_L} (h : lr_told I L c w z9 I1 L1) : ∀ k j, 79 ≤ k → I1 k j = I k j := by
  intro k j hk
  unfold lr_told at h
  rcases h with ⟨b0, -, rfl, rfl⟩ | ⟨b0, b1, -, rfl, rfl⟩ | ⟨b0, b1, -, rfl, rfl⟩
  · rfl
  · rfl
  · rfl
theorem lf_paid {I : ed_I} {L : ed_L} {a : Int} {z9 : Int} {I1 : ed_I} {L1 : ed_L} (h : lr_paid I L a z9 I1 L1) : ∀ k j, 79 ≤ k → I1 k j = I k j := by
  intro k j hk
  unfold lr_paid at h
  rcases h with ⟨b0, -, rfl, rfl⟩ | ⟨b0, b1, -, rfl, rfl⟩ | ⟨b0, b1, -, rfl, rfl⟩
  · rfl
  · rfl
  · rfl
theorem lf_sum {I : ed_I} {L : ed_L} {a : Int} {z9 : Int} {I1 : ed_I} {L1 : ed_L} (h : lr_sum I L a z9 I1 L1) : ∀ k j, 79 ≤ k → I1 k j = I k j := by
  intro k j hk
  unfold lr_sum at h
  rcases h with ⟨b0, -, rfl, rfl⟩ | ⟨b0, b1, -, rfl, rfl⟩ | ⟨b0, b1, -, rfl, rfl⟩
  · rfl
  · rfl
  · rfl
theorem lf_close {I : ed_I} {L : ed_L} {z9 : Int} {I1 : ed_I} {L1 : ed_L} (h : lr_close I L  z9 I1 L1) : ∀ k j, 79 ≤ k → I1 k j = I k j := by
  intro k j hk
  unfold lr_close at h
  rcases h with ⟨b0, -, rfl, rfl⟩ | ⟨b0, -, rfl, rfl⟩
  · rfl
  · rw [upI_lo (by omega) hk]
theorem lf_worth {I : ed_I} {L : ed_L} {y a : Int} {z9 : Int} {I1 : ed_I} {L1 : ed_L} (h : lr_worth I L y a z9 I1 L1) : ∀ k j, 79 ≤ k → I1 k j = I k j := by
  intro k j hk
  unfold lr_worth at h
  rcases h with ⟨b0, -, rfl, rfl⟩ | ⟨b0, -, rfl, rfl⟩
  · rfl
  · rfl
theorem anV_rng {y a : Int} (hy : 0 ≤ y ∧ y ≤ 1000000000) (ha : 0 ≤ a ∧ a ≤ 99) : -9223372036854775808 ≤ anV y a ∧ anV y a ≤ 9223372036854775807 := by
  have h := anM (n := (100 - a).toNat) hy (by omega)
  unfold anV
  omega
def Ok2 (k : Int) (I2 : ed_I) (L2 : ed_L) : Prop := I2 79 0 = k ∧ (0 ≤ k ∧ k ≤ 2) ∧ Rel I2 L2
def Eq2 (k : Int) (L2 : ed_L) (w : Int) : Prop := k = 0 → L2 112 0 = w ∧ -9223372036854775808 ≤ w ∧ w ≤ 9223372036854775807
def EqI (k : Int) (L2 : ed_L) (w : Int) : Prop := k = 0 → L2 112 0 = w ∧ -1 ≤ w ∧ w ≤ 100000
/-- what the two sides show of each other behind a helper's call -/
def F2 (I I1 : ed_I) : Prop := (I1 79 2 = I 0 7 ∧ I1 79 3 = I 0 5 ∧ I1 79 4 = I 0 6) ∧ ∀ j, 0 ≤ j → j ≤ 40 → I1 81 j = I 7 j ∧ I1 83 j = I 9 j ∧ I1 85 j = I 15 j ∧ (I 7 j = 0 ∨ I 7 j = 1) ∧ (I 9 j = 0 ∨ I 9 j = 1) ∧ 0 ≤ I 15 j ∧ I 15 j ≤ 4 ∧ ((I 15 j = 1 ∨ I 15 j = 2) → I1 86 j = I 17 j) ∧ (I 15 j ≠ 1 → I 15 j ≠ 2 → I 17 j = 0) ∧ (I 15 j = 1 → 1 ≤ I 17 j)
theorem Rel.f2 {I I1 : ed_I} {L : ed_L} (h : Rel I L) (e : ∀ k j, 79 ≤ k → I1 k j = I k j) : F2 I I1 := by
  obtain ⟨⟨h1, h2, h3, h4, h5, h6, h7, h8, h9⟩, hj, hg, hn, ho⟩ := h
  refine ⟨⟨by rw [e 79 2 (by decide)]; exact h6, by rw [e 79 3 (by decide)]; exact h4, by rw [e 79 4 (by decide)]; exact h5⟩, fun j a b => ?_⟩
  have q2 := (hj j a b).2.1
  have q3 := (hj j a b).2.2.1
  rw [e 81 j (by decide), e 83 j (by decide), e 85 j (by decide), e 86 j (by decide)]
  exact ⟨q2.1, q2.2.2.2.2.2.1, q3.1, q2.2.1, q2.2.2.2.2.2.2.1, q3.2.1, q3.2.2.1, q3.2.2.2.2.2.2.2.1, q3.2.2.2.2.2.2.2.2.1, q3.2.2.2.2.2.2.2.2.2⟩
theorem had_gift {I I1 : ed_I} (f : F2 I I1) {c a : Int} (ha : 1 ≤ a ∧ a ≤ 40) : (∀ j, 1 ≤ j → j ≤ 40 → j ≠ c → I 17 j ≠ a) ↔ ¬ mHad I1 c a 1 41 := by
  constructor
  · rintro h ⟨j, j1, j2, j3, j4, j5, j6⟩
    have q := f.2 j (by omega) (by omega)
    exact h j j1 (by omega) j3 (by omega)
  · intro h j j1 j2 j3 j4
    have q := f.2 j (by omega) (by omega)
    exact h ⟨j, j1, by omega, j3, by omega, by omega, by omega⟩
theorem had_legacy {I I1 : ed_I} (f : F2 I I1) {c a : Int} (ha : 0 ≤ a ∧ a ≤ 40) : (∀ j, 1 ≤ j → j ≤ 40 → ¬ (j ≠ c ∧ I 15 j = 1 ∧ I 17 j = a)) ↔ ¬ mHad I1 c a 0 41 := by
  constructor
  · rintro h ⟨j, j1, j2, j3, j4, j5, j6⟩
    have q := f.2 j (by omega) (by omega)
    exact h j j1 (by omega) ⟨j3, by omega, by omega⟩
  · rintro h j j1 j2 ⟨j3, j4, j5⟩
    have q := f.2 j (by omega) (by omega)
    exact h ⟨j, j1, by omega, j3, Or.inl (by omega), by omega, by omega⟩
theorem xx_testator {I I1 I2 : ed_I} {L L1 L2 : ed_L} {a : Int} {k : Int} (h : Rel I L) (h1 : lr_testator I L a k I1 L1) (h2 : mr_testator I1 L1 a I2 L2) : Ok2 k I2 L2 := by
  have f := h.f2 (lf_testator h1)
  have f1 := f.1
  unfold lr_testator at h1
  unfold mr_testator at h2
  rcases h1 with ⟨b0, ek, eI, eL⟩ | ⟨b0, b1, ek, eI, eL⟩ | ⟨b0, b1, ek, eI, eL⟩
  · rcases h2 with ⟨d0, uI, uL⟩ | ⟨d0, d1, uI, uL⟩ | ⟨d0, d1, uI, uL⟩
    · subst ek eI eL uI uL
      exact ⟨rfl, by decide, rel_fault h 1⟩
    · exfalso; clear h f; omega
    · exfalso; clear h f; omega
  · rcases h2 with ⟨d0, uI, uL⟩ | ⟨d0, d1, uI, uL⟩ | ⟨d0, d1, uI, uL⟩
    · exfalso; clear h f; omega
    · subst ek eI eL uI uL
      exact ⟨rfl, by decide, rel_fault h 2⟩
    · exfalso; clear h f; omega
  · rcases h2 with ⟨d0, uI, uL⟩ | ⟨d0, d1, uI, uL⟩ | ⟨d0, d1, uI, uL⟩
    · exfalso; clear h f; omega
    · exfalso; clear h f; omega
    · subst ek eI eL uI uL
      exact ⟨rfl, by decide, rel_testator h b0⟩
theorem xx_person {I I1 I2 : ed_I} {L L1 L2 : ed_L} {a b : Int} {k : Int} (h : Rel I L) (h1 : lr_person I L a b k I1 L1) (h2 : mr_person I1 L1 a b I2 L2) : Ok2 k I2 L2 := by
  have f := h.f2 (lf_person h1)
  have f1 := f.1
  unfold lr_person at h1
  unfold mr_person at h2
  rcases h1 with ⟨b0, ek, eI, eL⟩ | ⟨b0, b1, ek, eI, eL⟩ | ⟨b0, b1, ek, eI, eL⟩
  · rcases h2 with ⟨d0, uI, uL⟩ | ⟨d0, d1, uI, uL⟩ | ⟨d0, d1, uI, uL⟩
    · subst ek eI eL uI uL
      exact ⟨rfl, by decide, rel_fault h 1⟩
    · exfalso; clear h f; omega
    · exfalso; clear h f; omega
  · rcases h2 with ⟨d0, uI, uL⟩ | ⟨d0, d1, uI, uL⟩ | ⟨d0, d1, uI, uL⟩
    · exfalso; clear h f; omega
    · subst ek eI eL uI uL
      exact ⟨rfl, by decide, rel_fault h 2⟩
    · exfalso; clear h f; omega
  · rcases h2 with ⟨d0, uI, uL⟩ | ⟨d0, d1, uI, uL⟩ | ⟨d0, d1, uI, uL⟩
    · exfalso; clear h f; omega
    · exfalso; clear h f; omega
    · subst ek eI eL uI uL
      exact ⟨rfl, by decide, rel_person h b0⟩
theorem xx_asset {I I1 I2 : ed_I} {L L1 L2 : ed_L} {a v f : Int} {k : Int} (h : Rel I L) (hf : f = 0 ∨ f = 1) (h1 : lr_asset I L a v f k I1 L1) (h2 : mr_asset I1 L1 a v f I2 L2) : Ok2 k I2 L2 := by
  have f := h.f2 (lf_asset h1)
  have f1 := f.1
  unfold lr_asset at h1
  unfold mr_asset at h2
  rcases h1 with ⟨b0, ek, eI, eL⟩ | ⟨b0, b1, ek, eI, eL⟩ | ⟨b0, b1, ek, eI, eL⟩
  · rcases h2 with ⟨d0, uI, uL⟩ | ⟨d0, d1, uI, uL⟩ | ⟨d0, d1, uI, uL⟩
    · subst ek eI eL uI uL
      exact ⟨rfl, by decide, rel_fault h 1⟩
    · exfalso; clear h; by_cases q : 1 ≤ a ∧ a ≤ 40
      · have q2 := f.2 a (by omega) (by omega); clear f; omega
      · clear f; omega
    · exfalso; clear h; by_cases q : 1 ≤ a ∧ a ≤ 40
      · have q2 := f.2 a (by omega) (by omega); clear f; omega
      · clear f; omega
  · rcases h2 with ⟨d0, uI, uL⟩ | ⟨d0, d1, uI, uL⟩ | ⟨d0, d1, uI, uL⟩
    · exfalso; clear h; by_cases q : 1 ≤ a ∧ a ≤ 40
      · have q2 := f.2 a (by omega) (by omega); clear f; omega
      · clear f; omega
    · subst ek eI eL uI uL
      exact ⟨rfl, by decide, rel_fault h 2⟩
    · exfalso; clear h; by_cases q : 1 ≤ a ∧ a ≤ 40
      · have q2 := f.2 a (by omega) (by omega); clear f; omega
      · clear f; omega
  · rcases h2 with ⟨d0, uI, uL⟩ | ⟨d0, d1, uI, uL⟩ | ⟨d0, d1, uI, uL⟩
    · exfalso; clear h; by_cases q : 1 ≤ a ∧ a ≤ 40
      · have q2 := f.2 a (by omega) (by omega); clear f; omega
      · clear f; omega
    · exfalso; clear h; by_cases q : 1 ≤ a ∧ a ≤ 40
      · have q2 := f.2 a (by omega) (by omega); clear f; omega
      · clear f; omega
    · subst ek eI eL uI uL
      exact ⟨rfl, by decide, rel_asset h b0 hf b1.2⟩
theorem xx_revalue {I I1 I2 : ed_I} {L L1 L2 : ed_L} {a v : Int} {k w9 : Int} (h : Rel I L) (h1 : lr_revalue I L a v k I1 L1) (h2 : mr_revalue I1 L1 a v w9 I2 L2) : Ok2 k I2 L2 ∧ Eq2 k L2 w9 := by
  have f := h.f2 (lf_revalue h1)
  have f1 := f.1
  unfold lr_revalue at h1
  unfold mr_revalue at h2
  rcases h1 with ⟨b0, ek, eI, eL⟩ | ⟨b0, b1, ek, eI, eL⟩ | ⟨b0, b1, ek, eI, eL⟩
  · rcases h2 with ⟨d0, uk, uI, uL⟩ | ⟨d0, d1, uk, uI, uL⟩ | ⟨d0, d1, uk, uI, uL⟩
    · subst ek eI eL uk uI uL
      exact ⟨⟨rfl, by decide, rel_fault h 1⟩, fun q => absurd q (by decide)⟩
    · exfalso; clear h; by_cases q : 1 ≤ a ∧ a ≤ 40
      · have q2 := f.2 a (by omega) (by omega); clear f; omega
      · clear f; omega
    · exfalso; clear h; by_cases q : 1 ≤ a ∧ a ≤ 40
      · have q2 := f.2 a (by omega) (by omega); clear f; omega
      · clear f; omega
  · rcases h2 with ⟨d0, uk, uI, uL⟩ | ⟨d0, d1, uk, uI, uL⟩ | ⟨d0, d1, uk, uI, uL⟩
    · exfalso; clear h; by_cases q : 1 ≤ a ∧ a ≤ 40
      · have q2 := f.2 a (by omega) (by omega); clear f; omega
      · clear f; omega
    · subst ek eI eL uk uI uL
      exact ⟨⟨rfl, by decide, rel_fault h 2⟩, fun q => absurd q (by decide)⟩
    · exfalso; clear h; by_cases q : 1 ≤ a ∧ a ≤ 40
      · have q2 := f.2 a (by omega) (by omega); clear f; omega
      · clear f; omega
  · rcases h2 with ⟨d0, uk, uI, uL⟩ | ⟨d0, d1, uk, uI, uL⟩ | ⟨d0, d1, uk, uI, uL⟩
    · exfalso; clear h; by_cases q : 1 ≤ a ∧ a ≤ 40
      · have q2 := f.2 a (by omega) (by omega); clear f; omega
      · clear f; omega
    · exfalso; clear h; by_cases q : 1 ≤ a ∧ a ≤ 40
      · have q2 := f.2 a (by omega) (by omega); clear f; omega
      · clear f; omega
    · subst ek eI eL uk uI uL
      exact ⟨⟨rfl, by decide, rel_revalue h b0.1.1 b0.2⟩, fun _ => ⟨((h.2.1 a (by omega) (by omega)).2.1.2.2.1).symm, by have q := (h.2.1 a (by omega) (by omega)).2.1; show _ ≤ L 82 a; omega, by have q := (h.2.1 a (by omega) (by omega)).2.1; show L 82 a ≤ _; omega⟩⟩
theorem xx_gone {I I1 I2 : ed_I} {L L1 L2 : ed_L} {a : Int} {k : Int} (h : Rel I L) (h1 : lr_gone I L a k I1 L1) (h2 : mr_gone I1 L1 a I2 L2) : Ok2 k I2 L2 := by
  have f := h.f2 (lf_gone h1)
  have f1 := f.1
  unfold lr_gone at h1
  unfold mr_gone at h2
  rcases h1 with ⟨b0, ek, eI, eL⟩ | ⟨b0, b1, ek, eI, eL⟩ | ⟨b0, b1, ek, eI, eL⟩
  · rcases h2 with ⟨d0, uI, uL⟩ | ⟨d0, d1, uI, uL⟩ | ⟨d0, d1, uI, uL⟩
    · subst ek eI eL uI uL
      exact ⟨rfl, by decide, rel_fault h 1⟩
    · exfalso; clear h; by_cases q : 1 ≤ a ∧ a ≤ 40
      · have q2 := f.2 a (by omega) (by omega); clear f; omega
      · clear f; omega
    · exfalso; clear h; by_cases q : 1 ≤ a ∧ a ≤ 40
      · have q2 := f.2 a (by omega) (by omega); clear f; omega
      · clear f; omega
  · rcases h2 with ⟨d0, uI, uL⟩ | ⟨d0, d1, uI, uL⟩ | ⟨d0, d1, uI, uL⟩
    · exfalso; clear h; by_cases q : 1 ≤ a ∧ a ≤ 40
      · have q2 := f.2 a (by omega) (by omega); clear f; omega
      · clear f; omega
    · subst ek eI eL uI uL
      exact ⟨rfl, by decide, rel_fault h 2⟩
    · exfalso; clear h; by_cases q : 1 ≤ a ∧ a ≤ 40
      · have q2 := f.2 a (by omega) (by omega); clear f; omega
      · clear f; omega
  · rcases h2 with ⟨d0, uI, uL⟩ | ⟨d0, d1, uI, uL⟩ | ⟨d0, d1, uI, uL⟩
    · exfalso; clear h; by_cases q : 1 ≤ a ∧ a ≤ 40
      · have q2 := f.2 a (by omega) (by omega); clear f; omega
      · clear f; omega
    · exfalso; clear h; by_cases q : 1 ≤ a ∧ a ≤ 40
      · have q2 := f.2 a (by omega) (by omega); clear f; omega
      · clear f; omega
    · subst ek eI eL uI uL
      exact ⟨rfl, by decide, rel_gone h b0⟩
theorem xx_gift {I I1 I2 : ed_I} {L L1 L2 : ed_L} {c a : Int} {k : Int} (h : Rel I L) (h1 : lr_gift I L c a k I1 L1) (h2 : mr_gift I1 L1 c a I2 L2) : Ok2 k I2 L2 := by
  have f := h.f2 (lf_gift h1)
  have f1 := f.1
  unfold lr_gift at h1
  unfold mr_gift at h2
  rcases h1 with ⟨b0, ek, eI, eL⟩ | ⟨b0, b1, ek, eI, eL⟩ | ⟨b0, b1, ek, eI, eL⟩
  · rcases h2 with ⟨d0, uI, uL⟩ | ⟨d0, d1, uI, uL⟩ | ⟨d0, d1, uI, uL⟩
    · subst ek eI eL uI uL
      exact ⟨rfl, by decide, rel_fault h 1⟩
    · exfalso; clear d1 h; by_cases q : 1 ≤ a ∧ a ≤ 40
      · have q2 := f.2 a (by omega) (by omega); clear f; omega
      · clear f; omega
    · exfalso; clear d1 h; by_cases q : 1 ≤ a ∧ a ≤ 40
      · have q2 := f.2 a (by omega) (by omega); clear f; omega
      · clear f; omega
  · rcases h2 with ⟨d0, uI, uL⟩ | ⟨d0, d1, uI, uL⟩ | ⟨d0, d1, uI, uL⟩
    · exfalso; clear b1 h; by_cases q : 1 ≤ a ∧ a ≤ 40
      · have q2 := f.2 a (by omega) (by omega); clear f; omega
      · clear f; omega
    · subst ek eI eL uI uL
      exact ⟨rfl, by decide, rel_fault h 2⟩
    · exact absurd ⟨by omega, (had_gift f (by omega)).mpr d1.2⟩ b1
  · rcases h2 with ⟨d0, uI, uL⟩ | ⟨d0, d1, uI, uL⟩ | ⟨d0, d1, uI, uL⟩
    · exfalso; clear b1 h; by_cases q : 1 ≤ a ∧ a ≤ 40
      · have q2 := f.2 a (by omega) (by omega); clear f; omega
      · clear f; omega
    · exact absurd ⟨by omega, (had_gift f (by omega)).mp b1.2⟩ d1
    · subst ek eI eL uI uL
      exact ⟨rfl, by decide, rel_write h b0.1 (by decide) (by omega) (by omega) ⟨fun q => absurd q (by decide), fun q => absurd q (by decide), fun q => absurd q (by decide), fun _ => rfl⟩ (fun _ => b1.2) (fun j j1 j2 q => b1.2 j j1 j2 q.1 q.2.2) (fun _ => ⟨by have := f.2 a (by omega) (by omega); omega, fun q => absurd q (by decide)⟩)⟩
theorem xx_legacy {I I1 I2 : ed_I} {L L1 L2 : ed_L} {c v a : Int} {k : Int} (h : Rel I L) (h1 : lr_legacy I L c v a k I1 L1) (h2 : mr_legacy I1 L1 c v a I2 L2) : Ok2 k I2 L2 := by
  have f := h.f2 (lf_legacy h1)
  have f1 := f.1
  unfold lr_legacy at h1
  unfold mr_legacy at h2
  rcases h1 with ⟨b0, ek, eI, eL⟩ | ⟨b0, b1, ek, eI, eL⟩ | ⟨b0, b1, ek, eI, eL⟩
  · rcases h2 with ⟨d0, uI, uL⟩ | ⟨d0, d1, uI, uL⟩ | ⟨d0, d1, uI, uL⟩
    · subst ek eI eL uI uL
      exact ⟨rfl, by decide, rel_fault h 1⟩
    · exfalso; clear d1 h; by_cases q : 1 ≤ a ∧ a ≤ 40
      · have q2 := f.2 a (by omega) (by omega); clear f; omega
      · clear f; omega
    · exfalso; clear d1 h; by_cases q : 1 ≤ a ∧ a ≤ 40
      · have q2 := f.2 a (by omega) (by omega); clear f; omega
      · clear f; omega
  · rcases h2 with ⟨d0, uI, uL⟩ | ⟨d0, d1, uI, uL⟩ | ⟨d0, d1, uI, uL⟩
    · exfalso; clear b1 h; by_cases q : 1 ≤ a ∧ a ≤ 40
      · have q2 := f.2 a (by omega) (by omega); clear f; omega
      · clear f; omega
    · subst ek eI eL uI uL
      exact ⟨rfl, by decide, rel_fault h 2⟩
    · exact absurd ⟨by omega, (had_legacy f (by omega)).mpr d1.2⟩ b1
  · rcases h2 with ⟨d0, uI, uL⟩ | ⟨d0, d1, uI, uL⟩ | ⟨d0, d1, uI, uL⟩
    · exfalso; clear b1 h; by_cases q : 1 ≤ a ∧ a ≤ 40
      · have q2 := f.2 a (by omega) (by omega); clear f; omega
      · clear f; omega
    · exact absurd ⟨by omega, (had_legacy f (by omega)).mp b1.2⟩ d1
    · subst ek eI eL uI uL
      exact ⟨rfl, by decide, rel_write h b0.1 (by decide) (by omega) (by omega) ⟨fun _ => ⟨rfl, b0.2.1⟩, fun q => absurd q (by decide), fun q => absurd q (by decide), fun q => absurd q (by decide)⟩ (fun q => absurd q (by decide)) b1.2 (fun q => by have := f.2 a (by omega) (by omega); omega)⟩
theorem xx_annuity {I I1 I2 : ed_I} {L L1 L2 : ed_L} {c y a : Int} {k : Int} (h : Rel I L) (h1 : lr_annuity I L c y a k I1 L1) (h2 : mr_annuity I1 L1 c y a I2 L2) : Ok2 k I2 L2 := by
  have f := h.f2 (lf_annuity h1)
  have f1 := f.1
  unfold lr_annuity at h1
  unfold mr_annuity at h2
  rcases h1 with ⟨b0, ek, eI, eL⟩ | ⟨b0, b1, ek, eI, eL⟩ | ⟨b0, b1, ek, eI, eL⟩
  · rcases h2 with ⟨d0, uI, uL⟩ | ⟨d0, d1, uI, uL⟩ | ⟨d0, d1, uI, uL⟩
    · subst ek eI eL uI uL
      exact ⟨rfl, by decide, rel_fault h 1⟩
    · exfalso; clear h f; omega
    · exfalso; clear h f; omega
  · rcases h2 with ⟨d0, uI, uL⟩ | ⟨d0, d1, uI, uL⟩ | ⟨d0, d1, uI, uL⟩
    · exfalso; clear h f; omega
    · subst ek eI eL uI uL
      exact ⟨rfl, by decide, rel_fault h 2⟩
    · exfalso; clear h f; omega
  · rcases h2 with ⟨d0, uI, uL⟩ | ⟨d0, d1, uI, uL⟩ | ⟨d0, d1, uI, uL⟩
    · exfalso; clear h f; omega
    · exfalso; clear h f; omega
    · subst ek eI eL uI uL
      exact ⟨rfl, by decide, rel_write h b0.1 (by decide) (by omega) (by omega) ⟨fun q => absurd q (by decide), fun _ => ⟨rfl, b0.2.1.1, b0.2.1.2, b0.2.2⟩, fun q => absurd q (by decide), fun q => absurd q (by decide)⟩ (fun q => absurd q (by decide)) (fun j j1 j2 q => by have := f.2 j (by omega) (by omega); omega) (fun q => absurd rfl q)⟩
theorem xx_residue {I I1 I2 : ed_I} {L L1 L2 : ed_L} {c a : Int} {k : Int} (h : Rel I L) (h1 : lr_residue I L c a k I1 L1) (h2 : mr_residue I1 L1 c a I2 L2) : Ok2 k I2 L2 := by
  have f := h.f2 (lf_residue h1)
  have f1 := f.1
  unfold lr_residue at h1
  unfold mr_residue at h2
  rcases h1 with ⟨b0, ek, eI, eL⟩ | ⟨b0, b1, ek, eI, eL⟩ | ⟨b0, b1, ek, eI, eL⟩
  · rcases h2 with ⟨d0, uI, uL⟩ | ⟨d0, d1, uI, uL⟩ | ⟨d0, d1, uI, uL⟩
    · subst ek eI eL uI uL
      exact ⟨rfl, by decide, rel_fault h 1⟩
    · exfalso; clear h f; omega
    · exfalso; clear h f; omega
  · rcases h2 with ⟨d0, uI, uL⟩ | ⟨d0, d1, uI, uL⟩ | ⟨d0, d1, uI, uL⟩
    · exfalso; clear h f; omega
    · subst ek eI eL uI uL
      exact ⟨rfl, by decide, rel_fault h 2⟩
    · exfalso; clear h f; omega
  · rcases h2 with ⟨d0, uI, uL⟩ | ⟨d0, d1, uI, uL⟩ | ⟨d0, d1, uI, uL⟩
    · exfalso; clear h f; omega
    · exfalso; clear h f; omega
    · subst ek eI eL uI uL
      exact ⟨rfl, by decide, rel_write h b0.1 (by decide) (by omega) (by omega) ⟨fun q => absurd q (by decide), fun q => absurd q (by decide), fun _ => ⟨rfl, b0.2⟩, fun q => absurd q (by decide)⟩ (fun q => absurd q (by decide)) (fun j j1 j2 q => by have := f.2 j (by omega) (by omega); omega) (fun q => absurd rfl q)⟩
theorem xx_strike {I I1 I2 : ed_I} {L L1 L2 : ed_L} {c : Int} {k : Int} (h : Rel I L) (h1 : lr_strike I L c k I1 L1) (h2 : mr_strike I1 L1 c I2 L2) : Ok2 k I2 L2 := by
  have f := h.f2 (lf_strike h1)
  have f1 := f.1
  unfold lr_strike at h1
  unfold mr_strike at h2
  rcases h1 with ⟨b0, ek, eI, eL⟩ | ⟨b0, b1, ek, eI, eL⟩ | ⟨b0, b1, ek, eI, eL⟩
  · rcases h2 with ⟨d0, uI, uL⟩ | ⟨d0, d1, uI, uL⟩ | ⟨d0, d1, uI, uL⟩
    · subst ek eI eL uI uL
      exact ⟨rfl, by decide, rel_fault h 1⟩
    · exfalso; clear h f; omega
    · exfalso; clear h f; omega
  · rcases h2 with ⟨d0, uI, uL⟩ | ⟨d0, d1, uI, uL⟩ | ⟨d0, d1, uI, uL⟩
    · exfalso; clear h f; omega
    · subst ek eI eL uI uL
      exact ⟨rfl, by decide, rel_fault h 2⟩
    · exfalso; clear h f; omega
  · rcases h2 with ⟨d0, uI, uL⟩ | ⟨d0, d1, uI, uL⟩ | ⟨d0, d1, uI, uL⟩
    · exfalso; clear h f; omega
    · exfalso; clear h f; omega
    · subst ek eI eL uI uL
      exact ⟨rfl, by decide, rel_strike h b0⟩
theorem xx_taker {I I1 I2 : ed_I} {L L1 L2 : ed_L} {c r p : Int} {k : Int} (h : Rel I L) (h1 : lr_taker I L c r p k I1 L1) (h2 : mr_taker I1 L1 c r p I2 L2) : Ok2 k I2 L2 := by
  have f := h.f2 (lf_taker h1)
  have f1 := f.1
  unfold lr_taker at h1
  unfold mr_taker at h2
  rcases h1 with ⟨b0, ek, eI, eL⟩ | ⟨b0, b1, ek, eI, eL⟩ | ⟨b0, b1, ek, eI, eL⟩
  · rcases h2 with ⟨d0, uI, uL⟩ | ⟨d0, d1, uI, uL⟩ | ⟨d0, d1, uI, uL⟩
    · subst ek eI eL uI uL
      exact ⟨rfl, by decide, rel_fault h 1⟩
    · exfalso; clear h f; omega
    · exfalso; clear h f; omega
  · rcases h2 with ⟨d0, uI, uL⟩ | ⟨d0, d1, uI, uL⟩ | ⟨d0, d1, uI, uL⟩
    · exfalso; clear h f; omega
    · subst ek eI eL uI uL
      exact ⟨rfl, by decide, rel_fault h 2⟩
    · exfalso; clear h f; omega
  · rcases h2 with ⟨d0, uI, uL⟩ | ⟨d0, d1, uI, uL⟩ | ⟨d0, d1, uI, uL⟩
    · exfalso; clear h f; omega
    · exfalso; clear h f; omega
    · subst ek eI eL uI uL
      exact ⟨rfl, by decide, rel_taker h b0⟩
theorem xx_charge {I I1 I2 : ed_I} {L L1 L2 : ed_L} {c f : Int} {k : Int} (h : Rel I L) (hf : f = 0 ∨ f = 1) (h1 : lr_charge I L c f k I1 L1) (h2 : mr_charge I1 L1 c f I2 L2) : Ok2 k I2 L2 := by
  have f := h.f2 (lf_charge h1)
  have f1 := f.1
  unfold lr_charge at h1
  unfold mr_charge at h2
  rcases h1 with ⟨b0, ek, eI, eL⟩ | ⟨b0, b1, ek, eI, eL⟩ | ⟨b0, b1, ek, eI, eL⟩
  · rcases h2 with ⟨d0, uI, uL⟩ | ⟨d0, d1, uI, uL⟩ | ⟨d0, d1, uI, uL⟩
    · subst ek eI eL uI uL
      exact ⟨rfl, by decide, rel_fault h 1⟩
    · exfalso; clear h; by_cases q : 1 ≤ c ∧ c ≤ 40
      · have q2 := f.2 c (by omega) (by omega); clear f; omega
      · clear f; omega
    · exfalso; clear h; by_cases q : 1 ≤ c ∧ c ≤ 40
      · have q2 := f.2 c (by omega) (by omega); clear f; omega
      · clear f; omega
  · rcases h2 with ⟨d0, uI, uL⟩ | ⟨d0, d1, uI, uL⟩ | ⟨d0, d1, uI, uL⟩
    · exfalso; clear h; by_cases q : 1 ≤ c ∧ c ≤ 40
      · have q2 := f.2 c (by omega) (by omega); clear f; omega
      · clear f; omega
    · subst ek eI eL uI uL
      exact ⟨rfl, by decide, rel_fault h 2⟩
    · exfalso; clear h; by_cases q : 1 ≤ c ∧ c ≤ 40
      · have q2 := f.2 c (by omega) (by omega); clear f; omega
      · clear f; omega
  · rcases h2 with ⟨d0, uI, uL⟩ | ⟨d0, d1, uI, uL⟩ | ⟨d0, d1, uI, uL⟩
    · exfalso; clear h; by_cases q : 1 ≤ c ∧ c ≤ 40
      · have q2 := f.2 c (by omega) (by omega); clear f; omega
      · clear f; omega
    · exfalso; clear h; by_cases q : 1 ≤ c ∧ c ≤ 40
      · have q2 := f.2 c (by omega) (by omega); clear f; omega
      · clear f; omega
    · subst ek eI eL uI uL
      exact ⟨rfl, by decide, rel_charge h b0 hf⟩
theorem xx_debt {I I1 I2 : ed_I} {L L1 L2 : ed_L} {c v a : Int} {k : Int} (h : Rel I L) (h1 : lr_debt I L c v a k I1 L1) (h2 : mr_debt I1 L1 c v a I2 L2) : Ok2 k I2 L2 := by
  have f := h.f2 (lf_debt h1)
  have f1 := f.1
  unfold lr_debt at h1
  unfold mr_debt at h2
  rcases h1 with ⟨b0, ek, eI, eL⟩ | ⟨b0, b1, ek, eI, eL⟩ | ⟨b0, b1, ek, eI, eL⟩
  · rcases h2 with ⟨d0, uI, uL⟩ | ⟨d0, d1, uI, uL⟩ | ⟨d0, d1, uI, uL⟩
    · subst ek eI eL uI uL
      exact ⟨rfl, by decide, rel_fault h 1⟩
    · exfalso; clear h; by_cases q : 1 ≤ a ∧ a ≤ 40
      · have q2 := f.2 a (by omega) (by omega); clear f; omega
      · clear f; omega
    · exfalso; clear h; by_cases q : 1 ≤ a ∧ a ≤ 40
      · have q2 := f.2 a (by omega) (by omega); clear f; omega
      · clear f; omega
  · rcases h2 with ⟨d0, uI, uL⟩ | ⟨d0, d1, uI, uL⟩ | ⟨d0, d1, uI, uL⟩
    · exfalso; clear h; by_cases q : 1 ≤ a ∧ a ≤ 40
      · have q2 := f.2 a (by omega) (by omega); clear f; omega
      · clear f; omega
    · subst ek eI eL uI uL
      exact ⟨rfl, by decide, rel_fault h 2⟩
    · exfalso; clear h; by_cases q : 1 ≤ a ∧ a ≤ 40
      · have q2 := f.2 a (by omega) (by omega); clear f; omega
      · clear f; omega
  · rcases h2 with ⟨d0, uI, uL⟩ | ⟨d0, d1, uI, uL⟩ | ⟨d0, d1, uI, uL⟩
    · exfalso; clear h; by_cases q : 1 ≤ a ∧ a ≤ 40
      · have q2 := f.2 a (by omega) (by omega); clear f; omega
      · clear f; omega
    · exfalso; clear h; by_cases q : 1 ≤ a ∧ a ≤ 40
      · have q2 := f.2 a (by omega) (by omega); clear f; omega
      · clear f; omega
    · subst ek eI eL uI uL
      exact ⟨rfl, by decide, rel_debt h b0⟩
theorem xx_gets {I I1 I2 : ed_I} {L L1 L2 : ed_L} {p w : Int} {k w9 : Int} (h : Rel I L) (h1 : lr_gets I L p w k I1 L1) (h2 : mr_gets I1 L1 p w w9 I2 L2) : Ok2 k I2 L2 ∧ Eq2 k L2 w9 := by
  have f := h.f2 (lf_gets h1)
  have f1 := f.1
  unfold lr_gets at h1
  unfold mr_gets at h2
  rcases h1 with ⟨b0, ek, eI, eL⟩ | ⟨b0, b1, ek, eI, eL⟩ | ⟨b0, b1, ek, eI, eL⟩
  · rcases h2 with ⟨d0, uk, uI, uL⟩ | ⟨d0, d1, uk, uI, uL⟩ | ⟨d0, d1, uk, uI, uL⟩
    · subst ek eI eL uk uI uL
      exact ⟨⟨rfl, by decide, rel_fault h 1⟩, fun q => absurd q (by decide)⟩
    · exfalso; clear h f; omega
    · exfalso; clear h f; omega
  · rcases h2 with ⟨d0, uk, uI, uL⟩ | ⟨d0, d1, uk, uI, uL⟩ | ⟨d0, d1, uk, uI, uL⟩
    · exfalso; clear h f; omega
    · subst ek eI eL uk uI uL
      exact ⟨⟨rfl, by decide, rel_fault h 2⟩, fun q => absurd q (by decide)⟩
    · exfalso; clear h f; omega
  · rcases h2 with ⟨d0, uk, uI, uL⟩ | ⟨d0, d1, uk, uI, uL⟩ | ⟨d0, d1, uk, uI, uL⟩
    · exfalso; clear h f; omega
    · exfalso; clear h f; omega
    · subst ek eI eL uk uI uL
      refine ⟨⟨rfl, by decide, rel_fault (rel_out h _) 0⟩, fun _ => ?_⟩
      have q := h.2.2.2.2.1 p b0.1.1 b0.1.2
      show (if w = 0 then L 3 p else if w = 1 then L 4 p else L 5 p) = (if w = 0 then L 104 p else if w = 1 then L 105 p else L 106 p) ∧ _ ≤ (if w = 0 then L 104 p else if w = 1 then L 105 p else L 106 p) ∧ (if w = 0 then L 104 p else if w = 1 then L 105 p else L 106 p) ≤ _
      clear h f1 f b1 d1 b0 d0
      split <;> (try split) <;> omega
theorem xx_assetTo {I I1 I2 : ed_I} {L L1 L2 : ed_L} {a : Int} {k w9 : Int} (h : Rel I L) (h1 : lr_assetTo I L a k I1 L1) (h2 : mr_assetTo I1 L1 a w9 I2 L2) : Ok2 k I2 L2 ∧ EqI k L2 w9 := by
  have f := h.f2 (lf_assetTo h1)
  have f1 := f.1
  unfold lr_assetTo at h1
  unfold mr_assetTo at h2
  rcases h1 with ⟨b0, ek, eI, eL⟩ | ⟨b0, b1, ek, eI, eL⟩ | ⟨b0, b1, ek, eI, eL⟩
  · rcases h2 with ⟨d0, uk, uI, uL⟩ | ⟨d0, d1, uk, uI, uL⟩ | ⟨d0, d1, uk, uI, uL⟩
    · subst ek eI eL uk uI uL
      exact ⟨⟨rfl, by decide, rel_fault h 1⟩, fun q => absurd q (by decide)⟩
    · exfalso; clear h f; omega
    · exfalso; clear h f; omega
  · rcases h2 with ⟨d0, uk, uI, uL⟩ | ⟨d0, d1, uk, uI, uL⟩ | ⟨d0, d1, uk, uI, uL⟩
    · exfalso; clear h f; omega
    · subst ek eI eL uk uI uL
      exact ⟨⟨rfl, by decide, rel_fault h 2⟩, fun q => absurd q (by decide)⟩
    · exfalso; clear h f; omega
  · rcases h2 with ⟨d0, uk, uI, uL⟩ | ⟨d0, d1, uk, uI, uL⟩ | ⟨d0, d1, uk, uI, uL⟩
    · exfalso; clear h f; omega
    · exfalso; clear h f; omega
    · subst ek eI eL uk uI uL
      exact ⟨⟨rfl, by decide, rel_fault (rel_out h _) 0⟩, fun _ => ⟨h.2.2.2.2.2.1 a (by omega) (by omega) (by omega), by have q := h.2.2.2.2.2.1 a (by omega) (by omega) (by omega); have q2 := h.2.2.2.2.2.2.1 a (by omega) (by omega); show _ ≤ I1 107 a; omega, by have q := h.2.2.2.2.2.1 a (by omega) (by omega) (by omega); have q2 := h.2.2.2.2.2.2.1 a (by omega) (by omega); show I1 107 a ≤ _; omega⟩⟩
theorem xx_clauseState {I I1 I2 : ed_I} {L L1 L2 : ed_L} {a : Int} {k w9 : Int} (h : Rel I L) (h1 : lr_clauseState I L a k I1 L1) (h2 : mr_clauseState I1 L1 a w9 I2 L2) : Ok2 k I2 L2 ∧ EqI k L2 w9 := by
  have f := h.f2 (lf_clauseState h1)
  have f1 := f.1
  unfold lr_clauseState at h1
  unfold mr_clauseState at h2
  rcases h1 with ⟨b0, ek, eI, eL⟩ | ⟨b0, b1, ek, eI, eL⟩ | ⟨b0, b1, ek, eI, eL⟩
  · rcases h2 with ⟨d0, uk, uI, uL⟩ | ⟨d0, d1, uk, uI, uL⟩ | ⟨d0, d1, uk, uI, uL⟩
    · subst ek eI eL uk uI uL
      exact ⟨⟨rfl, by decide, rel_fault h 1⟩, fun q => absurd q (by decide)⟩
    · exfalso; clear h f; omega
    · exfalso; clear h f; omega
  · rcases h2 with ⟨d0, uk, uI, uL⟩ | ⟨d0, d1, uk, uI, uL⟩ | ⟨d0, d1, uk, uI, uL⟩
    · exfalso; clear h f; omega
    · subst ek eI eL uk uI uL
      exact ⟨⟨rfl, by decide, rel_fault h 2⟩, fun q => absurd q (by decide)⟩
    · exfalso; clear h f; omega
  · rcases h2 with ⟨d0, uk, uI, uL⟩ | ⟨d0, d1, uk, uI, uL⟩ | ⟨d0, d1, uk, uI, uL⟩
    · exfalso; clear h f; omega
    · exfalso; clear h f; omega
    · subst ek eI eL uk uI uL
      exact ⟨⟨rfl, by decide, rel_fault (rel_out h _) 0⟩, fun _ => ⟨(h.2.2.2.2.2.2.2.1 a (by omega) (by omega) (by omega)).1, by have q2 := h.2.2.2.2.2.2.2.2.1 a (by omega) (by omega); show _ ≤ I1 94 a; omega, by have q2 := h.2.2.2.2.2.2.2.2.1 a (by omega) (by omega); show I1 94 a ≤ _; omega⟩⟩
theorem xx_told {I I1 I2 : ed_I} {L L1 L2 : ed_L} {c w : Int} {k w9 : Int} (h : Rel I L) (h1 : lr_told I L c w k I1 L1) (h2 : mr_told I1 L1 c w w9 I2 L2) : Ok2 k I2 L2 ∧ Eq2 k L2 w9 := by
  have f := h.f2 (lf_told h1)
  have f1 := f.1
  unfold lr_told at h1
  unfold mr_told at h2
  rcases h1 with ⟨b0, ek, eI, eL⟩ | ⟨b0, b1, ek, eI, eL⟩ | ⟨b0, b1, ek, eI, eL⟩
  · rcases h2 with ⟨d0, uk, uI, uL⟩ | ⟨d0, d1, uk, uI, uL⟩ | ⟨d0, d1, uk, uI, uL⟩
    · subst ek eI eL uk uI uL
      exact ⟨⟨rfl, by decide, rel_fault h 1⟩, fun q => absurd q (by decide)⟩
    · exfalso; clear h f; omega
    · exfalso; clear h f; omega
  · rcases h2 with ⟨d0, uk, uI, uL⟩ | ⟨d0, d1, uk, uI, uL⟩ | ⟨d0, d1, uk, uI, uL⟩
    · exfalso; clear h f; omega
    · subst ek eI eL uk uI uL
      exact ⟨⟨rfl, by decide, rel_fault h 2⟩, fun q => absurd q (by decide)⟩
    · exfalso; clear h f; omega
  · rcases h2 with ⟨d0, uk, uI, uL⟩ | ⟨d0, d1, uk, uI, uL⟩ | ⟨d0, d1, uk, uI, uL⟩
    · exfalso; clear h f; omega
    · exfalso; clear h f; omega
    · subst ek eI eL uk uI uL
      refine ⟨⟨rfl, by decide, rel_fault (rel_out h _) 0⟩, fun _ => ?_⟩
      have q := (h.2.2.2.2.2.2.2.1 c (by omega) b0.1.2 b0.1.1).2
      have q2 := h.2.2.2.2.2.2.2.2.1 c (by omega) b0.1.2
      show (if w = 0 then L 63 c + L 64 c + L 65 c else if w = 1 then L 67 c else if w = 2 then L 64 c else if w = 3 then L 68 c else I1 62 c) = (if I1 94 c ≠ 0 ∧ I1 94 c ≠ 3 then 0 else if w = 0 then L 98 c else if w = 1 then L 99 c else if w = 2 then L 97 c else if w = 3 then L 100 c else I1 95 c) ∧ _ ≤ (if I1 94 c ≠ 0 ∧ I1 94 c ≠ 3 then 0 else if w = 0 then L 98 c else if w = 1 then L 99 c else if w = 2 then L 97 c else if w = 3 then L 100 c else I1 95 c) ∧ (if I1 94 c ≠ 0 ∧ I1 94 c ≠ 3 then 0 else if w = 0 then L 98 c else if w = 1 then L 99 c else if w = 2 then L 97 c else if w = 3 then L 100 c else I1 95 c) ≤ _
      clear h f1 f b1 d1 b0 d0
      by_cases e : I1 94 c ≠ 0 ∧ I1 94 c ≠ 3
      · rw [if_pos e] at q ⊢
        repeat (first | omega | split)
      · rw [if_neg e] at q ⊢
        repeat (first | omega | split)
theorem xx_paid {I I1 I2 : ed_I} {L L1 L2 : ed_L} {a : Int} {k w9 : Int} (h : Rel I L) (h1 : lr_paid I L a k I1 L1) (h2 : mr_paid I1 L1 a w9 I2 L2) : Ok2 k I2 L2 ∧ Eq2 k L2 w9 := by
  have f := h.f2 (lf_paid h1)
  have f1 := f.1
  unfold lr_paid at h1
  unfold mr_paid at h2
  rcases h1 with ⟨b0, ek, eI, eL⟩ | ⟨b0, b1, ek, eI, eL⟩ | ⟨b0, b1, ek, eI, eL⟩
  · rcases h2 with ⟨d0, uk, uI, uL⟩ | ⟨d0, d1, uk, uI, uL⟩ | ⟨d0, d1, uk, uI, uL⟩
    · subst ek eI eL uk uI uL
      exact ⟨⟨rfl, by decide, rel_fault h 1⟩, fun q => absurd q (by decide)⟩
    · exfalso; clear h f; omega
    · exfalso; clear h f; omega
  · rcases h2 with ⟨d0, uk, uI, uL⟩ | ⟨d0, d1, uk, uI, uL⟩ | ⟨d0, d1, uk, uI, uL⟩
    · exfalso; clear h f; omega
    · subst ek eI eL uk uI uL
      exact ⟨⟨rfl, by decide, rel_fault h 2⟩, fun q => absurd q (by decide)⟩
    · exfalso; clear h f; omega
  · rcases h2 with ⟨d0, uk, uI, uL⟩ | ⟨d0, d1, uk, uI, uL⟩ | ⟨d0, d1, uk, uI, uL⟩
    · exfalso; clear h f; omega
    · exfalso; clear h f; omega
    · subst ek eI eL uk uI uL
      exact ⟨⟨rfl, by decide, rel_fault (rel_out h _) 0⟩, fun _ => h.2.2.2.2.2.2.2.2.2.1 a (by omega) (by omega) (by omega)⟩
theorem xx_sum {I I1 I2 : ed_I} {L L1 L2 : ed_L} {a : Int} {k w9 : Int} (h : Rel I L) (h1 : lr_sum I L a k I1 L1) (h2 : mr_sum I1 L1 a w9 I2 L2) : Ok2 k I2 L2 ∧ Eq2 k L2 w9 := by
  have f := h.f2 (lf_sum h1)
  have f1 := f.1
  unfold lr_sum at h1
  unfold mr_sum at h2
  rcases h1 with ⟨b0, ek, eI, eL⟩ | ⟨b0, b1, ek, eI, eL⟩ | ⟨b0, b1, ek, eI, eL⟩
  · rcases h2 with ⟨d0, uk, uI, uL⟩ | ⟨d0, d1, uk, uI, uL⟩ | ⟨d0, d1, uk, uI, uL⟩
    · subst ek eI eL uk uI uL
      exact ⟨⟨rfl, by decide, rel_fault h 1⟩, fun q => absurd q (by decide)⟩
    · exfalso; clear h f; omega
    · exfalso; clear h f; omega
  · rcases h2 with ⟨d0, uk, uI, uL⟩ | ⟨d0, d1, uk, uI, uL⟩ | ⟨d0, d1, uk, uI, uL⟩
    · exfalso; clear h f; omega
    · subst ek eI eL uk uI uL
      exact ⟨⟨rfl, by decide, rel_fault h 2⟩, fun q => absurd q (by decide)⟩
    · exfalso; clear h f; omega
  · rcases h2 with ⟨d0, uk, uI, uL⟩ | ⟨d0, d1, uk, uI, uL⟩ | ⟨d0, d1, uk, uI, uL⟩
    · exfalso; clear h f; omega
    · exfalso; clear h f; omega
    · subst ek eI eL uk uI uL
      exact ⟨⟨rfl, by decide, rel_fault (rel_out h _) 0⟩, fun _ => h.2.2.2.2.2.2.2.2.2.2.1 a (by omega) (by omega)⟩
theorem xx_close {I I1 I2 : ed_I} {L L1 L2 : ed_L} {k : Int} (h : Rel I L) (h1 : lr_close I L  k I1 L1) (h2 : mr_close I1 L1  I2 L2) : Ok2 k I2 L2 := by
  have f := h.f2 (lf_close h1)
  have f1 := f.1
  unfold lr_close at h1
  unfold mr_close at h2
  rcases h1 with ⟨b0, ek, eI, eL⟩ | ⟨b0, ek, eI, eL⟩
  · rcases h2 with ⟨d0, uI, uL⟩ | ⟨d0, uI, uL⟩
    · subst ek eI eL uI uL
      exact ⟨rfl, by decide, rel_fault h 1⟩
    · exfalso; clear h f; omega
  · rcases h2 with ⟨d0, uI, uL⟩ | ⟨d0, uI, uL⟩
    · exfalso; clear h f; omega
    · subst ek eI eL uI uL
      exact ⟨rfl, by decide, rel_close h⟩
theorem xx_worth {I I1 I2 : ed_I} {L L1 L2 : ed_L} {y a : Int} {k w9 : Int} (h : Rel I L) (h1 : lr_worth I L y a k I1 L1) (h2 : mr_worth I1 L1 y a w9 I2 L2) : Ok2 k I2 L2 ∧ Eq2 k L2 w9 := by
  have f := h.f2 (lf_worth h1)
  have f1 := f.1
  unfold lr_worth at h1
  unfold mr_worth at h2
  rcases h1 with ⟨b0, ek, eI, eL⟩ | ⟨b0, ek, eI, eL⟩
  · rcases h2 with ⟨d0, uk, uI, uL⟩ | ⟨d0, uk, uI, uL⟩
    · subst ek eI eL uk uI uL
      exact ⟨⟨rfl, by decide, rel_fault h 1⟩, fun q => absurd q (by decide)⟩
    · exfalso; clear h f; omega
  · rcases h2 with ⟨d0, uk, uI, uL⟩ | ⟨d0, uk, uI, uL⟩
    · exfalso; clear h f; omega
    · subst ek eI eL uk uI uL
      exact ⟨⟨rfl, by decide, rel_fault (rel_out h _) 0⟩, fun _ => ⟨rfl, anV_rng b0.1 b0.2⟩⟩
