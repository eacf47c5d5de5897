/-! class and reference: what ties their cells -/
def in01 (z : Int) : Prop := z = 0 ∨ z = 1
/-- what was told of person, asset, clause and debt j -/
def Rj (I : ed_I) (L : ed_L) (j : Int) : Prop :=
  (I 80 j = I 2 j ∧ 0 ≤ I 2 j ∧ I 2 j ≤ 100000) ∧
  (I 81 j = I 7 j ∧ (I 7 j = 0 ∨ I 7 j = 1) ∧ L 82 j = L 8 j ∧ 0 ≤ L 8 j ∧ L 8 j ≤ 1000000000000 ∧ I 83 j = I 9 j ∧ (I 9 j = 0 ∨ I 9 j = 1) ∧ I 84 j = I 10 j ∧ (I 10 j = 0 ∨ I 10 j = 1) ∧ (I 7 j = 0 → I 10 j = 0)) ∧
  (I 85 j = I 15 j ∧ 0 ≤ I 15 j ∧ I 15 j ≤ 4 ∧ 0 ≤ I 17 j ∧ I 17 j ≤ 40 ∧ 0 ≤ I 86 j ∧ I 86 j ≤ 40 ∧ ((I 15 j = 1 ∨ I 15 j = 2) → I 86 j = I 17 j) ∧ (I 15 j ≠ 1 → I 15 j ≠ 2 → I 17 j = 0) ∧ (I 15 j = 1 → 1 ≤ I 17 j)) ∧
  ((I 15 j = 2 → L 16 j = L 87 j ∧ 0 ≤ L 87 j ∧ L 87 j ≤ 1000000000000) ∧ (I 15 j = 3 → L 16 j = anV (L 87 j) (I 88 j) ∧ 0 ≤ L 87 j ∧ L 87 j ≤ 1000000000 ∧ 0 ≤ I 88 j ∧ I 88 j ≤ 99) ∧ (I 15 j = 4 → L 16 j = I 88 j ∧ 1 ≤ I 88 j ∧ I 88 j ≤ 1000) ∧ (I 15 j = 0 ∨ I 15 j = 1 → L 16 j = 0)) ∧
  ((I 18 j = 0 ∨ I 18 j = 1) ∧ (I 89 j = 0 ∨ I 89 j = 1) ∧ (I 15 j = 1 → I 89 j = I 18 j)) ∧
  (L 70 j = L 92 j ∧ 0 ≤ L 92 j ∧ L 92 j ≤ 1000000000000 ∧ I 71 j = I 93 j ∧ 0 ≤ I 93 j ∧ I 93 j ≤ 40 ∧ (I 91 j = 0 ∨ I 91 j = 1) ∧ (I 91 j = 0 → L 92 j = 0 ∧ I 93 j = 0))
/-- flags and the testator's day -/
def R1 (I : ed_I) : Prop := (I 0 5 = 0 ∨ I 0 5 = 1) ∧ (I 0 6 = 0 ∨ I 0 6 = 1) ∧ (I 0 7 = 0 ∨ I 0 7 = 1) ∧ I 79 3 = I 0 5 ∧ I 79 4 = I 0 6 ∧ I 79 2 = I 0 7 ∧ I 79 1 = I 1 0 ∧ 0 ≤ I 1 0 ∧ I 1 0 ≤ 100000
/-- no other clause has a given asset; a clause's asset is known -/
def Rg (I : ed_I) : Prop := (∀ j k, 1 ≤ j → j ≤ 40 → 1 ≤ k → k ≤ 40 → j ≠ k → I 15 j = 1 → I 17 k ≠ I 17 j) ∧ (∀ j, 1 ≤ j → j ≤ 40 → I 17 j ≠ 0 → I 7 (I 17 j) = 1 ∧ (I 15 j = 2 → I 9 (I 17 j) = 1)) ∧ (∀ j, 1 ≤ j → j ≤ 40 → I 71 j ≠ 0 → I 7 (I 71 j) = 1)
/-- who is named -/
def Rn (I : ed_I) : Prop := ∀ c r, 0 ≤ c → c ≤ 40 → 1 ≤ r → r ≤ 4 → I (20 + c.toNat) r = I 90 (5 * c + r) ∧ 0 ≤ I 90 (5 * c + r) ∧ I 90 (5 * c + r) ≤ 40
/-- what a settling shows -/
def Ro (I : ed_I) (L : ed_L) : Prop :=
  (∀ p, 0 ≤ p → p ≤ 40 → L 3 p = L 104 p ∧ L 4 p = L 105 p ∧ L 5 p = L 106 p ∧ -9223372036854775808 ≤ L 104 p ∧ L 104 p ≤ 9223372036854775807 ∧ -9223372036854775808 ≤ L 105 p ∧ L 105 p ≤ 9223372036854775807 ∧ -9223372036854775808 ≤ L 106 p ∧ L 106 p ≤ 9223372036854775807) ∧
  (∀ p, 0 ≤ p → p ≤ 40 → 1 ≤ p → I 13 p = I 107 p) ∧ (∀ p, 0 ≤ p → p ≤ 40 → -1 ≤ I 13 p ∧ I 13 p ≤ 40) ∧
  (∀ c, 0 ≤ c → c ≤ 40 → 1 ≤ c → I 61 c = I 94 c ∧ (if I 94 c ≠ 0 ∧ I 94 c ≠ 3 then L 63 c + L 64 c + L 65 c = 0 ∧ L 67 c = 0 ∧ L 64 c = 0 ∧ L 68 c = 0 ∧ I 62 c = 0 else L 63 c + L 64 c + L 65 c = L 98 c ∧ L 67 c = L 99 c ∧ L 64 c = L 97 c ∧ L 68 c = L 100 c ∧ I 62 c = I 95 c)) ∧
  (∀ c, 1 ≤ c → c ≤ 40 → -1 ≤ I 61 c ∧ I 61 c ≤ 3 ∧ -1 ≤ I 94 c ∧ I 94 c ≤ 3 ∧ 0 ≤ I 62 c ∧ I 62 c ≤ 40 ∧ 0 ≤ I 95 c ∧ I 95 c ≤ 40 ∧ -9223372036854775808 ≤ L 98 c ∧ L 98 c ≤ 9223372036854775807 ∧ -9223372036854775808 ≤ L 99 c ∧ L 99 c ≤ 9223372036854775807 ∧ -9223372036854775808 ≤ L 97 c ∧ L 97 c ≤ 9223372036854775807 ∧ -9223372036854775808 ≤ L 100 c ∧ L 100 c ≤ 9223372036854775807) ∧
  (∀ d, 0 ≤ d → d ≤ 40 → 1 ≤ d → L 73 d = L 103 d ∧ -9223372036854775808 ≤ L 103 d ∧ L 103 d ≤ 9223372036854775807) ∧ (∀ k, 0 ≤ k → k ≤ 7 → L 78 k = L 108 k ∧ -9223372036854775808 ≤ L 108 k ∧ L 108 k ≤ 9223372036854775807) ∧ L 11 0 = 0
def Rel (I : ed_I) (L : ed_L) : Prop := R1 I ∧ (∀ j, 0 ≤ j → j ≤ 40 → Rj I L j) ∧ Rg I ∧ Rn I ∧ Ro I L
theorem upI_o (I : ed_I) (k : Nat) (i v : Int) {a : Nat} {b : Int} (h : a ≠ k ∨ b ≠ i) : upI I k i v a b = I a b := by
  unfold upI
  rw [if_neg (by omega)]
theorem upI_s (I : ed_I) (k : Nat) (i v : Int) : upI I k i v k i = v := by
  unfold upI
  rw [if_pos ⟨rfl, rfl⟩]
theorem rn_up {I : ed_I} (h : Rn I) {k : Nat} (i v : Int) (hk : k < 20 ∨ 60 < k) (h90 : k ≠ 90) : Rn (upI I k i v) := by
  intro c r c0 c1 r0 r1
  rw [upI_o I k i v (Or.inl (by omega)), upI_o I k i v (Or.inl (by omega))]
  exact h c r c0 c1 r0 r1
theorem rel_fault {I : ed_I} {L : ed_L} (h : Rel I L) (v : Int) : Rel (upI I 79 0 v) L := ⟨h.1, h.2.1, h.2.2.1, rn_up h.2.2.2.1 0 v (by decide) (by decide), h.2.2.2.2⟩
theorem rel_out {I : ed_I} {L : ed_L} (h : Rel I L) (v : Int) : Rel I (upI L 112 0 v) := h
section REL
variable {I : ed_I} {L : ed_L}
theorem rel_testator (h : Rel I L) {a : Int} (ha : 1 ≤ a ∧ a ≤ 100000) : Rel (upI (upI (upI (upI (upI I 1 0 a) 0 6 0) 79 0 0) 79 4 0) 79 1 a) L := by
  obtain ⟨⟨h1, h2, h3, h4, h5, h6, h7, h8, h9⟩, hj, hg, hn, ho⟩ := h
  refine ⟨⟨h1, Or.inl rfl, h3, h4, rfl, h6, rfl, ?_, ?_⟩, hj, hg, ?_, ho⟩
  · show 0 ≤ a; omega
  · show a ≤ 100000; omega
  · exact rn_up (rn_up (rn_up (rn_up (rn_up hn _ _ (by decide) (by decide)) _ _ (by decide) (by decide)) _ _ (by decide) (by decide)) _ _ (by decide) (by decide)) _ _ (by decide) (by decide)
theorem rel_person (h : Rel I L) {a b : Int} (ha : (1 ≤ a ∧ a ≤ 40) ∧ 0 ≤ b ∧ b ≤ 100000) : Rel (upI (upI (upI (upI (upI I 2 a b) 0 6 0) 79 0 0) 79 4 0) 80 a b) L := by
  obtain ⟨⟨h1, h2, h3, h4, h5, h6, h7, h8, h9⟩, hj, hg, hn, ho⟩ := h
  refine ⟨⟨h1, Or.inl rfl, h3, h4, rfl, h6, h7, h8, h9⟩, fun j j0 j1 => ?_, hg, ?_, ho⟩
  · obtain ⟨p1, p2, p3, p4, p5, p6⟩ := hj j j0 j1
    refine ⟨?_, p2, p3, p4, p5, p6⟩
    by_cases e : j = a
    · subst e; simp [upI]; omega
    · simp [upI, e]; omega
  · exact rn_up (rn_up (rn_up (rn_up (rn_up hn _ _ (by decide) (by decide)) _ _ (by decide) (by decide)) _ _ (by decide) (by decide)) _ _ (by decide) (by decide)) _ _ (by decide) (by decide)
theorem rel_asset (h : Rel I L) {a v f : Int} (ha : (1 ≤ a ∧ a ≤ 40) ∧ 0 ≤ v ∧ v ≤ 1000000000000) (hf : f = 0 ∨ f = 1) (hk : I 7 a = 0) : Rel (upI (upI (upI (upI (upI (upI (upI (upI I 7 a 1) 9 a f) 0 6 0) 79 0 0) 79 4 0) 81 a 1) 83 a f) 84 a 0) (upI (upI L 8 a v) 82 a v) := by
  obtain ⟨⟨h1, h2, h3, h4, h5, h6, h7, h8, h9⟩, hj, hg, hn, ho⟩ := h
  refine ⟨⟨h1, Or.inl rfl, h3, h4, rfl, h6, h7, h8, h9⟩, fun j j0 j1 => ?_, ⟨hg.1, fun j j0 j1 j2 => ?_, fun j j0 j1 j2 => ?_⟩, ?_, ho⟩
  · obtain ⟨p1, p2, p3, p4, p5, p6⟩ := hj j j0 j1
    refine ⟨p1, ?_, p3, p4, p5, p6⟩
    by_cases e : j = a
    · subst e; simp [upI]; clear p1 p3 p4 p5 p6 h1 h2 h3 hj hg hn ho; omega
    · simp [upI, e]; simpa using p2
  · have q := hg.2.1 j j0 j1 j2
    have e : I 17 j ≠ a := fun e => by rw [e] at q; omega
    show upI (upI I 7 a 1) 9 a f 7 (I 17 j) = 1 ∧ (I 15 j = 2 → upI (upI I 7 a 1) 9 a f 9 (I 17 j) = 1)
    simp [upI, e]
    exact q
  · have q := hg.2.2 j j0 j1 j2
    have e : I 71 j ≠ a := fun e => by rw [e] at q; omega
    show upI (upI I 7 a 1) 9 a f 7 (I 71 j) = 1
    simp [upI, e]
    exact q
  · exact rn_up (rn_up (rn_up (rn_up (rn_up (rn_up (rn_up (rn_up hn _ _ (by decide) (by decide)) _ _ (by decide) (by decide)) _ _ (by decide) (by decide)) _ _ (by decide) (by decide)) _ _ (by decide) (by decide)) _ _ (by decide) (by decide)) _ _ (by decide) (by decide)) _ _ (by decide) (by decide)
theorem rel_revalue (h : Rel I L) {a v w : Int} (ha : 1 ≤ a ∧ a ≤ 40) (hv : 0 ≤ v ∧ v ≤ 1000000000000) : Rel (upI (upI (upI I 0 6 0) 79 0 0) 79 4 0) (upI (upI (upI L 8 a v) 112 0 w) 82 a v) := by
  obtain ⟨⟨h1, h2, h3, h4, h5, h6, h7, h8, h9⟩, hj, hg, hn, ho⟩ := h
  refine ⟨⟨h1, Or.inl rfl, h3, h4, rfl, h6, h7, h8, h9⟩, fun j j0 j1 => ?_, hg, ?_, ho⟩
  · obtain ⟨p1, p2, p3, p4, p5, p6⟩ := hj j j0 j1
    refine ⟨p1, ?_, p3, p4, p5, p6⟩
    by_cases e : j = a
    · subst e; simp [upI]; clear p1 p3 p4 p5 p6 h1 h2 h3 hj hg hn ho; omega
    · simp [upI, e]; simpa using p2
  · exact rn_up (rn_up (rn_up hn _ _ (by decide) (by decide)) _ _ (by decide) (by decide)) _ _ (by decide) (by decide)
theorem rel_gone (h : Rel I L) {a : Int} (ha : (1 ≤ a ∧ a ≤ 40) ∧ I 7 a ≠ 0) : Rel (upI (upI (upI (upI (upI I 10 a 1) 0 6 0) 79 0 0) 79 4 0) 84 a 1) L := by
  obtain ⟨⟨h1, h2, h3, h4, h5, h6, h7, h8, h9⟩, hj, hg, hn, ho⟩ := h
  refine ⟨⟨h1, Or.inl rfl, h3, h4, rfl, h6, h7, h8, h9⟩, fun j j0 j1 => ?_, hg, ?_, ho⟩
  · obtain ⟨p1, p2, p3, p4, p5, p6⟩ := hj j j0 j1
    refine ⟨p1, ?_, p3, p4, p5, p6⟩
    by_cases e : j = a
    · subst e; simp [upI]; clear p1 p3 p4 p5 p6 h1 h2 h3 hj hg hn ho; omega
    · simp [upI, e]; simpa using p2
  · exact rn_up (rn_up (rn_up (rn_up (rn_up hn _ _ (by decide) (by decide)) _ _ (by decide) (by decide)) _ _ (by decide) (by decide)) _ _ (by decide) (by decide)) _ _ (by decide) (by decide)
/-- a clause written anew: kind k, amount m, asset a; the reference keeps mm and n -/
theorem rel_write (h : Rel I L) {c k m a mm n : Int} (hc : 1 ≤ c ∧ c ≤ 40) (hk : 1 ≤ k ∧ k ≤ 4) (ha : 0 ≤ a ∧ a ≤ 40) (hka : (k ≠ 1 → k ≠ 2 → a = 0) ∧ (k = 1 → 1 ≤ a))
    (hm : (k = 2 → m = mm ∧ 0 ≤ mm ∧ mm ≤ 1000000000000) ∧ (k = 3 → m = anV mm n ∧ 0 ≤ mm ∧ mm ≤ 1000000000 ∧ 0 ≤ n ∧ n ≤ 99) ∧ (k = 4 → m = n ∧ 1 ≤ n ∧ n ≤ 1000) ∧ (k = 0 ∨ k = 1 → m = 0))
    (hg1 : k = 1 → ∀ j, 1 ≤ j → j ≤ 40 → j ≠ c → I 17 j ≠ a) (hg2 : ∀ j, 1 ≤ j → j ≤ 40 → ¬ (j ≠ c ∧ I 15 j = 1 ∧ I 17 j = a)) (hg3 : a ≠ 0 → I 7 a = 1 ∧ (k = 2 → I 9 a = 1)) :
    Rel (upI (upI (upI (upI (upI (upI (upI (upI (upI (upI I 15 c k) 17 c a) 18 c 1) 0 6 0) 79 0 0) 79 4 0) 85 c k) 86 c a) 88 c n) 89 c 1) (upI (upI L 16 c m) 87 c mm) := by
  obtain ⟨⟨h1, h2, h3, h4, h5, h6, h7, h8, h9⟩, hj, hg, hn, ho⟩ := h
  refine ⟨⟨h1, Or.inl rfl, h3, h4, rfl, h6, h7, h8, h9⟩, fun j j0 j1 => ?_, ⟨fun j i j0 j1 i0 i1 hji hk1 => ?_, fun j j0 j1 j2 => ?_, hg.2.2⟩, ?_, ho⟩
  · obtain ⟨p1, p2, p3, p4, p5, p6⟩ := hj j j0 j1
    by_cases e : j = c
    · subst e
      refine ⟨p1, p2, ?_, ?_, ?_, p6⟩
      · simp [upI]; clear p1 p2 p3 p4 p5 p6 h1 h2 h3 hj hg hn ho hm hg1 hg2 hg3; omega
      · simp only [upI]; simp; simpa using hm
      · simp [upI]
    · refine ⟨p1, p2, ?_, ?_, ?_, p6⟩
      · simp [upI, e]; simpa using p3
      · simp [upI, e]; simpa using p4
      · simp [upI, e]; simpa using p5
  · show upI (upI (upI I 15 c k) 17 c a) 18 c 1 17 i ≠ upI (upI (upI I 15 c k) 17 c a) 18 c 1 17 j
    replace hk1 : upI (upI (upI I 15 c k) 17 c a) 18 c 1 15 j = 1 := hk1
    by_cases ej : j = c
    · subst ej
      have ei : i ≠ j := fun h => hji h.symm
      simp [upI] at hk1
      simp [upI, ei]
      exact hg1 hk1 i i0 i1 ei
    · simp [upI, ej] at hk1
      by_cases ei : i = c
      · subst ei
        simp [upI, ej]
        exact fun h => hg2 j j0 j1 ⟨ej, hk1, h.symm⟩
      · simp [upI, ej, ei]
        exact hg.1 j i j0 j1 i0 i1 hji hk1
  · have j2 : upI (upI (upI I 15 c k) 17 c a) 18 c 1 17 j ≠ 0 := j2
    show I 7 (upI (upI (upI I 15 c k) 17 c a) 18 c 1 17 j) = 1 ∧ (upI (upI (upI I 15 c k) 17 c a) 18 c 1 15 j = 2 → I 9 (upI (upI (upI I 15 c k) 17 c a) 18 c 1 17 j) = 1)
    by_cases ej : j = c
    · subst ej
      simp [upI] at j2 ⊢
      exact hg3 j2
    · simp [upI, ej] at j2 ⊢
      exact hg.2.1 j j0 j1 j2
  · exact rn_up (rn_up (rn_up (rn_up (rn_up (rn_up (rn_up (rn_up (rn_up (rn_up hn _ _ (by decide) (by decide)) _ _ (by decide) (by decide)) _ _ (by decide) (by decide)) _ _ (by decide) (by decide)) _ _ (by decide) (by decide)) _ _ (by decide) (by decide)) _ _ (by decide) (by decide)) _ _ (by decide) (by decide)) _ _ (by decide) (by decide)) _ _ (by decide) (by decide)
theorem rel_strike (h : Rel I L) {c : Int} (hc : 1 ≤ c ∧ c ≤ 40) : Rel (upI (upI (upI (upI (upI (upI (upI I 15 c 0) 17 c 0) 18 c 1) 0 6 0) 79 0 0) 79 4 0) 85 c 0) (upI L 16 c 0) := by
  obtain ⟨⟨h1, h2, h3, h4, h5, h6, h7, h8, h9⟩, hj, hg, hn, ho⟩ := h
  refine ⟨⟨h1, Or.inl rfl, h3, h4, rfl, h6, h7, h8, h9⟩, fun j j0 j1 => ?_, ⟨fun j i j0 j1 i0 i1 hji hk1 => ?_, fun j j0 j1 j2 => ?_, hg.2.2⟩, ?_, ho⟩
  · obtain ⟨p1, p2, p3, p4, p5, p6⟩ := hj j j0 j1
    by_cases e : j = c
    · subst e
      refine ⟨p1, p2, ?_, ?_, ?_, p6⟩
      · simp [upI]; omega
      · simp [upI]
      · simp [upI]; omega
    · refine ⟨p1, p2, ?_, ?_, ?_, p6⟩
      · simp [upI, e]; simpa using p3
      · simp [upI, e]; simpa using p4
      · simp [upI, e]; simpa using p5
  · show upI (upI (upI I 15 c 0) 17 c 0) 18 c 1 17 i ≠ upI (upI (upI I 15 c 0) 17 c 0) 18 c 1 17 j
    have hk1 : upI (upI (upI I 15 c 0) 17 c 0) 18 c 1 15 j = 1 := hk1
    by_cases ej : j = c
    · subst ej
      simp [upI] at hk1
    · simp [upI, ej] at hk1
      have hq := (hj j (by omega) j1).2.2.1
      by_cases ei : i = c
      · subst ei
        simp [upI, ej]
        omega
      · simp [upI, ej, ei]
        exact hg.1 j i j0 j1 i0 i1 hji hk1
  · have j2 : upI (upI (upI I 15 c 0) 17 c 0) 18 c 1 17 j ≠ 0 := j2
    show I 7 (upI (upI (upI I 15 c 0) 17 c 0) 18 c 1 17 j) = 1 ∧ (upI (upI (upI I 15 c 0) 17 c 0) 18 c 1 15 j = 2 → I 9 (upI (upI (upI I 15 c 0) 17 c 0) 18 c 1 17 j) = 1)
    by_cases ej : j = c
    · subst ej
      simp [upI] at j2
    · simp [upI, ej] at j2 ⊢
      exact hg.2.1 j j0 j1 j2
  · exact rn_up (rn_up (rn_up (rn_up (rn_up (rn_up (rn_up hn _ _ (by decide) (by decide)) _ _ (by decide) (by decide)) _ _ (by decide) (by decide)) _ _ (by decide) (by decide)) _ _ (by decide) (by decide)) _ _ (by decide) (by decide)) _ _ (by decide) (by decide)
theorem rel_taker (h : Rel I L) {c r p : Int} (hc : (1 ≤ c ∧ c ≤ 40) ∧ (1 ≤ r ∧ r ≤ 4) ∧ 0 ≤ p ∧ p ≤ 40) : Rel (upI (upI (upI (upI (upI I (20 + c.toNat) r p) 0 6 0) 79 0 0) 79 4 0) 90 (5 * c + r) p) L := by
  obtain ⟨⟨h1, h2, h3, h4, h5, h6, h7, h8, h9⟩, hj, hg, hn, ho⟩ := h
  have key : ∀ (k : Nat) (j : Int), k < 20 ∨ 60 < k → upI I (20 + c.toNat) r p k j = I k j := fun k j hk => upI_o I _ _ _ (Or.inl (by omega))
  have e : upI (upI (upI (upI (upI I (20 + c.toNat) r p) 0 6 0) 79 0 0) 79 4 0) 90 (5 * c + r) p = upI (upI (upI (upI (upI I 0 6 0) 79 0 0) 79 4 0) 90 (5 * c + r) p) (20 + c.toNat) r p := by
    funext k j
    simp only [upI]
    by_cases hk : k = 20 + c.toNat
    · subst hk
      have n1 : ¬ 20 + c.toNat = 90 := by omega
      have n2 : ¬ 20 + c.toNat = 79 := by omega
      have n3 : ¬ 20 + c.toNat = 0 := by omega
      simp [n1, n2, n3]
    · simp [hk]
  rw [e]
  have h0 : Rel (upI (upI (upI I 0 6 0) 79 0 0) 79 4 0) L := ⟨⟨h1, Or.inl rfl, h3, h4, rfl, h6, h7, h8, h9⟩, hj, hg, rn_up (rn_up (rn_up hn _ _ (by decide) (by decide)) _ _ (by decide) (by decide)) _ _ (by decide) (by decide), ho⟩
  generalize upI (upI (upI I 0 6 0) 79 0 0) 79 4 0 = J at h0
  have K : ∀ (k : Nat) (j : Int), k ≠ 90 → (k < 20 ∨ 60 < k) → upI (upI J 90 (5 * c + r) p) (20 + c.toNat) r p k j = J k j := fun k j h90 hk => by rw [upI_o _ _ _ _ (Or.inl (by omega)), upI_o _ _ _ _ (Or.inl h90)]
  generalize hJ2 : upI (upI J 90 (5 * c + r) p) (20 + c.toNat) r p = J2 at K
  obtain ⟨q1, q2, q3, q4, q5⟩ := h0
  refine ⟨?_, ?_, ?_, ?_, ?_⟩
  · simp only [R1, K _ _ (show (0 : Nat) ≠ 90 by decide) (Or.inl (by decide)), K _ _ (show (79 : Nat) ≠ 90 by decide) (Or.inr (by decide)), K _ _ (show (1 : Nat) ≠ 90 by decide) (Or.inl (by decide))]
    exact q1
  · intro j j0 j1
    have := q2 j j0 j1
    simp only [Rj] at this ⊢
    simp only [K 80 _ (by decide) (by decide), K 2 _ (by decide) (by decide), K 81 _ (by decide) (by decide), K 7 _ (by decide) (by decide), K 83 _ (by decide) (by decide), K 9 _ (by decide) (by decide), K 84 _ (by decide) (by decide), K 10 _ (by decide) (by decide), K 85 _ (by decide) (by decide), K 15 _ (by decide) (by decide), K 17 _ (by decide) (by decide), K 86 _ (by decide) (by decide), K 88 _ (by decide) (by decide), K 18 _ (by decide) (by decide), K 89 _ (by decide) (by decide), K 71 _ (by decide) (by decide), K 93 _ (by decide) (by decide), K 91 _ (by decide) (by decide)]
    exact this
  · simp only [Rg, K 15 _ (by decide) (by decide), K 17 _ (by decide) (by decide), K 7 _ (by decide) (by decide), K 9 _ (by decide) (by decide), K 71 _ (by decide) (by decide)]
    exact q3
  · intro c' r' c0 c1 r0 r1
    rw [← hJ2]
    by_cases ec : c' = c ∧ r' = r
    · obtain ⟨rfl, rfl⟩ := ec
      rw [upI_s, upI_o _ _ _ _ (Or.inl (by omega)), upI_s]
      exact ⟨rfl, by omega, by omega⟩
    · rw [upI_o _ _ _ _ (show 20 + c'.toNat ≠ 20 + c.toNat ∨ r' ≠ r by omega), upI_o J _ _ _ (Or.inl (by omega)), upI_o _ _ _ _ (show (90 : Nat) ≠ 20 + c.toNat ∨ _ from Or.inl (by omega)), upI_o J _ _ _ (Or.inr (by omega))]
      exact q4 c' r' c0 c1 r0 r1
  · simp only [Ro] at q5 ⊢
    simp only [K 13 _ (by decide) (by decide), K 107 _ (by decide) (by decide), K 61 _ (by decide) (by decide), K 94 _ (by decide) (by decide), K 62 _ (by decide) (by decide), K 95 _ (by decide) (by decide)]
    exact q5
theorem rel_charge (h : Rel I L) {c f : Int} (hc : (1 ≤ c ∧ c ≤ 40) ∧ I 15 c = 1) (hf : f = 0 ∨ f = 1) : Rel (upI (upI (upI (upI (upI I 18 c f) 0 6 0) 79 0 0) 79 4 0) 89 c f) L := by
  obtain ⟨⟨h1, h2, h3, h4, h5, h6, h7, h8, h9⟩, hj, hg, hn, ho⟩ := h
  refine ⟨⟨h1, Or.inl rfl, h3, h4, rfl, h6, h7, h8, h9⟩, fun j j0 j1 => ?_, hg, ?_, ho⟩
  · obtain ⟨p1, p2, p3, p4, p5, p6⟩ := hj j j0 j1
    refine ⟨p1, p2, p3, p4, ?_, p6⟩
    by_cases e : j = c
    · subst e; simp [upI]; omega
    · simp [upI, e]; simpa using p5
  · exact rn_up (rn_up (rn_up (rn_up (rn_up hn _ _ (by decide) (by decide)) _ _ (by decide) (by decide)) _ _ (by decide) (by decide)) _ _ (by decide) (by decide)) _ _ (by decide) (by decide)
theorem rel_debt (h : Rel I L) {c v a : Int} (hc : (1 ≤ c ∧ c ≤ 40) ∧ (0 ≤ v ∧ v ≤ 1000000000000) ∧ (a = 0 ∨ ((1 ≤ a ∧ a ≤ 40) ∧ I 7 a ≠ 0))) : Rel (upI (upI (upI (upI (upI (upI I 71 c a) 0 6 0) 79 0 0) 79 4 0) 91 c 1) 93 c a) (upI (upI L 70 c v) 92 c v) := by
  obtain ⟨⟨h1, h2, h3, h4, h5, h6, h7, h8, h9⟩, hj, hg, hn, ho⟩ := h
  refine ⟨⟨h1, Or.inl rfl, h3, h4, rfl, h6, h7, h8, h9⟩, fun j j0 j1 => ?_, ⟨hg.1, hg.2.1, fun j j0 j1 j2 => ?_⟩, ?_, ho⟩
  · obtain ⟨p1, p2, p3, p4, p5, p6⟩ := hj j j0 j1
    refine ⟨p1, p2, p3, p4, p5, ?_⟩
    by_cases e : j = c
    · subst e; simp [upI]; omega
    · simp [upI, e]; simpa using p6
  · have j2 : upI I 71 c a 71 j ≠ 0 := j2
    show I 7 (upI I 71 c a 71 j) = 1
    by_cases e : j = c
    · subst e
      rw [upI_s] at j2 ⊢
      have := (hj a (by omega) (by omega)).2.1
      omega
    · rw [upI_o _ _ _ _ (Or.inr e)] at j2 ⊢
      exact hg.2.2 j j0 j1 j2
  · exact rn_up (rn_up (rn_up (rn_up (rn_up (rn_up hn _ _ (by decide) (by decide)) _ _ (by decide) (by decide)) _ _ (by decide) (by decide)) _ _ (by decide) (by decide)) _ _ (by decide) (by decide)) _ _ (by decide) (by decide)
theorem rel_close (h : Rel I L) : Rel (upI (upI (upI I 0 7 1) 79 0 0) 79 2 1) L := by
  obtain ⟨⟨h1, h2, h3, h4, h5, h6, h7, h8, h9⟩, hj, hg, hn, ho⟩ := h
  exact ⟨⟨h1, h2, Or.inr rfl, h4, h5, rfl, h7, h8, h9⟩, hj, hg, rn_up (rn_up (rn_up hn _ _ (by decide) (by decide)) _ _ (by decide) (by decide)) _ _ (by decide) (by decide), ho⟩
end REL
theorem rel_0 : Rel (fun _ _ => 0) (fun _ _ => 0) := by
  refine ⟨by simp [R1], fun j _ _ => by simp [Rj], by simp [Rg], by simp [Rn], by simp [Ro]⟩
