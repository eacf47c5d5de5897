/-! class and reference show the same after a settling -/
theorem rel_told {I I2 : ed_I} {L L2 : ed_L} (h : Rel I L) (eI : ∀ k, k ∉ [0, 12, 13, 61, 62, 79, 94, 95, 107] → I2 k = I k) (eL : ∀ k, k ∈ [8, 16, 70, 82, 87, 92] → L2 k = L k) (r1 : R1 I2) (ro : Ro I2 L2) : Rel I2 L2 := by
  refine ⟨r1, fun j j0 j1 => ?_, ?_, fun c r c0 c1 r0 r1 => ?_, ro⟩
  · have q := h.2.1 j j0 j1
    unfold Rj at q ⊢
    rw [eI 80 (by decide), eI 2 (by decide), eI 81 (by decide), eI 7 (by decide), eI 83 (by decide), eI 9 (by decide), eI 84 (by decide), eI 10 (by decide), eI 85 (by decide), eI 15 (by decide), eI 17 (by decide), eI 86 (by decide), eI 88 (by decide), eI 18 (by decide), eI 89 (by decide), eI 71 (by decide), eI 93 (by decide), eI 91 (by decide), eL 82 (by decide), eL 8 (by decide), eL 16 (by decide), eL 87 (by decide), eL 70 (by decide), eL 92 (by decide)]
    exact q
  · have q := h.2.2.1
    unfold Rg at q ⊢
    rw [eI 15 (by decide), eI 17 (by decide), eI 7 (by decide), eI 9 (by decide), eI 71 (by decide)]
    exact q
  · rw [eI (20 + c.toNat) (by simp only [List.mem_cons, List.not_mem_nil, or_false, not_or]; omega), eI 90 (by decide)]
    exact h.2.2.2.1 c r c0 c1 r0 r1
theorem ac_rng {q : Int → Bool} {p v l : Int → Int} {B B0 : Int} (hl : ∀ b, -B0 ≤ l b ∧ l b ≤ B0) (hv : ∀ j, 1 ≤ j → j ≤ 40 → q j = true → -B ≤ v j ∧ v j ≤ B) (hB : 0 ≤ B) : ∀ n : Nat, n ≤ 40 → ∀ b, -B0 - B * n ≤ ac q p v l n b ∧ ac q p v l n b ≤ B0 + B * n
  | 0, _ => fun b => by
    have := hl b
    show -B0 - B * ((0 : Nat) : Int) ≤ l b ∧ l b ≤ B0 + B * ((0 : Nat) : Int)
    rw [show ((0 : Nat) : Int) = 0 from rfl, Int.mul_zero]
    omega
  | n + 1, hn => fun b => by
    have ih := ac_rng (p := p) hl hv hB n (by omega)
    have ib := ih b
    have e : B * ((n + 1 : Nat) : Int) = B * n + B := by rw [show ((n + 1 : Nat) : Int) = (n : Int) + 1 by omega, Int.mul_add, Int.mul_one]
    show -B0 - B * ((n + 1 : Nat) : Int) ≤ (if q (n + 1) = true then up1 (ac q p v l n) (p (n + 1)) (ac q p v l n (p (n + 1)) + v (n + 1)) else ac q p v l n) b ∧ (if q (n + 1) = true then up1 (ac q p v l n) (p (n + 1)) (ac q p v l n (p (n + 1)) + v (n + 1)) else ac q p v l n) b ≤ B0 + B * ((n + 1 : Nat) : Int)
    rw [e]
    by_cases hq : q (n + 1) = true
    · have h1 := hv (n + 1) (by omega) (by omega) hq
      have i2 := ih (p (n + 1))
      rw [if_pos hq]
      by_cases e2 : b = p (n + 1)
      · rw [e2, up1_s]; omega
      · rw [up1_o _ e2]; omega
    · rw [if_neg hq]; omega
theorem ho_in {q : Int → Bool} {a p l : Int → Int} (hl : ∀ b, -1 ≤ l b ∧ l b ≤ 40) (hp : ∀ j, 1 ≤ j → j ≤ 40 → -1 ≤ p j ∧ p j ≤ 40) : ∀ n : Nat, n ≤ 40 → ∀ b, -1 ≤ ho q a p l n b ∧ ho q a p l n b ≤ 40
  | 0, _ => fun b => hl b
  | n + 1, hn => fun b => by
    have ih := ho_in (q := q) (a := a) hl hp n (by omega) b
    have h1 := hp (n + 1) (by omega) (by omega)
    show -1 ≤ (if q (n + 1) = true then up1 (ho q a p l n) (a (n + 1)) (p (n + 1)) else ho q a p l n) b ∧ (if q (n + 1) = true then up1 (ho q a p l n) (a (n + 1)) (p (n + 1)) else ho q a p l n) b ≤ 40
    by_cases hq : q (n + 1) = true
    · rw [if_pos hq]
      by_cases e2 : b = a (n + 1)
      · rw [e2, up1_s]; exact h1
      · rw [up1_o _ e2]; exact ih
    · rw [if_neg hq]; exact ih
theorem aT_in {I : ed_I} {L : ed_L} (hb : Hb I L) : 0 ≤ sm (aT I L) 40 ∧ sm (aT I L) 40 ≤ 40000000000000 := by
  have e := sm_le (f := aT I L) (B := 1000000000000) (fun j j0 j1 => by
    have q := (hb.1 j (by omega) j1).2.2.2.2.2.2.1
    unfold aT
    split <;> omega) 40 (by decide)
  omega
theorem l11_0 {I : ed_I} {L : ed_L} (hb : Hb I L) : sL2 I L 40 0 = 0 := by
  have q0 := sL2_in hb (b := 0) ⟨by omega, by omega⟩ (n := 40) (by decide)
  have q1 := sL1_in hb (b := 0) ⟨by omega, by omega⟩
  have q2 : sL0 I L 0 = 0 := if_pos rfl
  omega
section RO
variable {I I2 : ed_I} {L L2 : ed_L}
theorem ro_1 (h : Rel I L) (b : 0 < sSh I L)
    (c1 : ∀ j, 1 ≤ j → j ≤ 40 → (I2 61 j = (if st0 I j = 0 then 3 else st0 I j) ∧ I2 62 j = sTo I j) ∧ L2 67 j = sGi I L j + sDr I L j + sGe I L j ∧ L2 68 j = 0 ∧ L2 73 j = L 70 j - (sOrd I L j - spl (sOrd I L) (sMe I L) j))
    (c2 : ∀ b, 0 ≤ b → b ≤ 40 → I2 13 b = -1 ∧ L2 3 b = 0 ∧ L2 4 b = 0 ∧ L2 5 b = 0)
    (c3 : ∀ j, 1 ≤ j → j ≤ 40 → L2 63 j = sGi I L j ∧ L2 64 j = sDr I L j ∧ L2 65 j = sGe I L j)
    (c4 : L2 78 0 = sm (aT I L) 40 ∧ L2 78 2 = sT I L ∧ L2 78 3 = sD I L ∧ L2 78 4 = sG I L ∧ L2 78 5 = sN I L ∧ L2 78 6 = sS I L ∧ L2 78 7 = sRe I L) (c5 : L2 78 1 = sm (L2 73) 40) (c6 : L2 11 0 = sL2 I L 40 0)
    (m1 : ∀ j, 1 ≤ j → j ≤ 40 → (I2 94 j = (if st0 I j = 0 then 3 else st0 I j) ∧ I2 95 j = sTk I j) ∧ L2 97 j = sDr I L j ∧ L2 98 j = sGi I L j + sDr I L j + sGe I L j ∧ L2 99 j = (if st0 I j = 0 then sGi I L j + sDr I L j + sGe I L j else 0) ∧ L2 100 j = 0 ∧ L2 103 j = sOwn I L j + spl (sOrd I L) (sMe I L) j)
    (m2 : ∀ m, 0 ≤ m → m ≤ 40 → I2 107 m = -1 ∧ L2 104 m = 0 ∧ L2 106 m = 0 ∧ L2 105 m = 0)
    (m3 : L2 108 0 = sm (aT I L) 40 ∧ L2 108 2 = sT I L ∧ L2 108 3 = sD I L ∧ L2 108 4 = sG I L ∧ L2 108 5 = sN I L ∧ L2 108 6 = sS I L ∧ L2 108 7 = 0) (m4 : L2 108 1 = sm (L2 103) 40) : Ro I2 L2 := by
  have hb := hb_of h
  have hs := sSum_in hb
  have hT := aT_in hb
  have hre : sRe I L = 0 := by unfold sRe; unfold sSh sMe at b; omega
  have hp : ∀ j, 1 ≤ j → j ≤ 40 → L2 73 j = L2 103 j ∧ -10000000000000000 ≤ L2 103 j ∧ L2 103 j ≤ 10000000000000000 := fun j j0 j1 => by
    have e1 := (c1 j j0 j1).2.2.2
    have e2 := (m1 j j0 j1).2.2.2.2.2
    have e3 : sOrd I L j = L 70 j - sOwn I L j := rfl
    have e4 := spl_in (w := sOrd I L) (A := sMe I L) (by unfold sMe; omega) (fun j j0 j1 => (sOrd_in hb ⟨j0, j1⟩).1) ⟨j0, j1⟩
    have e5 := sOwn_in hb (d := j) ⟨j0, j1⟩
    have e6 := sOrd_in hb (d := j) ⟨j0, j1⟩
    have e7 := (hb.1 j (by omega) j1).2.2.2.2.2.2.2.2
    omega
  have hsm : sm (L2 73) 40 = sm (L2 103) 40 := sm_congr2 40 (fun j j0 j1 => (hp j j0 j1).1)
  have hsr : -1000000000000000000 ≤ sm (L2 103) 40 ∧ sm (L2 103) 40 ≤ 1000000000000000000 := by
    have e := sm_le (f := fun j => L2 103 j + 10000000000000000) (B := 20000000000000000) (fun j j0 j1 => by have := (hp j j0 j1).2; show 0 ≤ L2 103 j + 10000000000000000 ∧ L2 103 j + 10000000000000000 ≤ 20000000000000000; omega) 40 (by decide)
    have e2 := sm_add (L2 103) (fun _ => 10000000000000000) 40
    have e3 : sm (fun _ => 10000000000000000) 40 = 400000000000000000 := by decide
    rw [e2, e3] at e
    omega
  refine ⟨fun p p0 p1 => ?_, fun p p0 p1 p2 => ?_, fun p p0 p1 => ?_, fun c c0 c9 c8 => ?_, fun c c0 c9 => ?_, fun d d0 d9 d8 => ?_, fun k k0 k1 => ?_, ?_⟩
  · obtain ⟨-, x1, x2, x3⟩ := c2 p p0 p1
    obtain ⟨-, y1, y2, y3⟩ := m2 p p0 p1
    rw [x1, x2, x3, y1, y2, y3]
    decide
  · rw [(c2 p p0 p1).1, (m2 p p0 p1).1]
  · rw [(c2 p p0 p1).1]; decide
  · obtain ⟨⟨x1, x2⟩, x3, x4, -⟩ := c1 c c8 c9
    obtain ⟨x5, x6, x7⟩ := c3 c c8 c9
    obtain ⟨⟨y1, y2⟩, y3, y4, y5, y6, -⟩ := m1 c c8 c9
    have hst := st0_in (I := I) c
    refine ⟨by rw [x1, y1], ?_⟩
    rw [x2, x3, x4, x5, x6, x7, y1, y2, y3, y4, y5, y6]
    by_cases e : st0 I c = 0
    · rw [if_pos e, if_neg (by omega), if_pos e]
      exact ⟨rfl, rfl, rfl, rfl, sTo_good e⟩
    · rw [if_neg e, if_pos (by omega)]
      obtain ⟨z1, z2, z3, -⟩ := val_bad (L := L) e
      rw [z1, z2, z3]
      exact ⟨rfl, rfl, rfl, rfl, if_neg e⟩
  · obtain ⟨⟨x1, x2⟩, -⟩ := c1 c c0 c9
    obtain ⟨⟨y1, y2⟩, y3, y4, y5, y6, -⟩ := m1 c c0 c9
    have hst := st0_in (I := I) c
    have t1 := sTo_in hb (j := c) ⟨c0, c9⟩
    have t2 := sTk_in h (j := c) (by omega) c9
    obtain ⟨r1, r2, r3, -⟩ := sRow_in hb (d := c) ⟨c0, c9⟩
    rw [x1, x2, y1, y2, y3, y4, y5, y6]
    split <;> omega
  · have := hp d d8 d9
    omega
  · rcases (show k = 0 ∨ k = 1 ∨ k = 2 ∨ k = 3 ∨ k = 4 ∨ k = 5 ∨ k = 6 ∨ k = 7 by omega) with rfl | rfl | rfl | rfl | rfl | rfl | rfl | rfl
    · rw [c4.1, m3.1]; omega
    · rw [c5, m4, hsm]; omega
    · rw [c4.2.1, m3.2.1]; omega
    · rw [c4.2.2.1, m3.2.2.1]; omega
    · rw [c4.2.2.2.1, m3.2.2.2.1]; omega
    · rw [c4.2.2.2.2.1, m3.2.2.2.2.1]; omega
    · rw [c4.2.2.2.2.2.1, m3.2.2.2.2.2.1]; omega
    · rw [c4.2.2.2.2.2.2, m3.2.2.2.2.2.2, hre]; decide
  · rw [c6]; exact l11_0 hb
theorem ro_2 (h : Rel I L)
    (c1 : ∀ j, 1 ≤ j → j ≤ 40 → (I2 61 j = (if 0 < sBe I L j then 3 else st0 I j) ∧ I2 62 j = sTo I j) ∧ L2 67 j = sBe I L j ∧ L2 68 j = (if sq2 I j = true then sCs I L j else sSr I L j) ∧ L2 73 j = L 70 j)
    (c2 : ∀ b, 0 ≤ b → b ≤ 40 → I2 13 b = ho (sq1 I) (I 17) (sTo I) (fun _ => -1) 40 b ∧ L2 3 b = ac (sq1 I) (sTo I) (fun c => L 8 (I 17 c)) (fun _ => 0) 40 b ∧ L2 5 b = ac (sq1 I) (sTo I) (fun c => L 8 (I 17 c) - sGi I L c + sBe I L c) (fun _ => 0) 40 b ∧ L2 4 b = ac (sq2 I) (sTo I) (sCs I L) (s40 I L) 40 b)
    (c3 : ∀ j, 1 ≤ j → j ≤ 40 → L2 63 j = sGi I L j ∧ L2 64 j = sDr I L j ∧ L2 65 j = sGe I L j)
    (c4 : L2 78 0 = sm (aT I L) 40 ∧ L2 78 2 = sT I L ∧ L2 78 3 = sD I L ∧ L2 78 4 = sG I L ∧ L2 78 5 = sN I L ∧ L2 78 6 = sS I L ∧ L2 78 7 = sRe I L) (c5 : L2 78 1 = sm (L2 73) 40) (c6 : L2 11 0 = sL2 I L 40 0)
    (m1 : ∀ j, 1 ≤ j → j ≤ 40 → (I2 94 j = (if st0 I j = 0 then (if 0 < sBe I L j then 3 else 0) else st0 I j) ∧ I2 95 j = sTk I j) ∧ L2 97 j = sDr I L j ∧ L2 98 j = sGi I L j + sDr I L j + sGe I L j ∧ L2 99 j = sBe I L j ∧ L2 100 j = (if sq2 I j = true then sCs I L j else sSr I L j) ∧ L2 103 j = sOwn I L j + sOrd I L j)
    (m2 : ∀ m, 0 ≤ m → m ≤ 40 → I2 107 m = ho (sq1 I) (I 17) (sTo I) (fun _ => -1) 40 m ∧ L2 104 m = ac (sq1 I) (sTo I) (fun c => L 8 (I 17 c)) (fun _ => 0) 40 m ∧ L2 106 m = ac (sq1 I) (sTo I) (fun c => L 8 (I 17 c) - sGi I L c + sBe I L c) (fun _ => 0) 40 m ∧ L2 105 m = ac (sq2 I) (sTo I) (sCs I L) (s40 I L) 40 m)
    (m3 : L2 108 0 = sm (aT I L) 40 ∧ L2 108 2 = sT I L ∧ L2 108 3 = sD I L ∧ L2 108 4 = sG I L ∧ L2 108 5 = sN I L ∧ L2 108 6 = sS I L ∧ L2 108 7 = sRe I L) (m4 : L2 108 1 = sm (L2 103) 40) : Ro I2 L2 := by
  have hb := hb_of h
  have hs := sSum_in hb
  have hT := aT_in hb
  have hB := sB_in hb
  have hp : ∀ j, 1 ≤ j → j ≤ 40 → L2 73 j = L2 103 j ∧ 0 ≤ L2 103 j ∧ L2 103 j ≤ 1000000000000 := fun j j0 j1 => by
    have e1 := (c1 j j0 j1).2.2.2
    have e2 := (m1 j j0 j1).2.2.2.2.2
    have e3 : sOrd I L j = L 70 j - sOwn I L j := rfl
    have e5 := (hb.1 j (by omega) j1).2.2.2.2.2.2.2.2
    omega
  have hsm : sm (L2 73) 40 = sm (L2 103) 40 := sm_congr2 40 (fun j j0 j1 => (hp j j0 j1).1)
  have hsr := sm_le (f := L2 103) (B := 1000000000000) (fun j j0 j1 => (hp j j0 j1).2) 40 (by decide)
  have h17 : ∀ j, 1 ≤ j → j ≤ 40 → 0 ≤ L 8 (I 17 j) ∧ L 8 (I 17 j) ≤ 1000000000000 := fun j j0 j1 => by
    have q := (hb.1 j (by omega) j1).2.2.1
    exact (hb.1 (I 17 j) q.1 q.2).2.2.2.2.2.2.1
  have hcs : ∀ j, 1 ≤ j → j ≤ 40 → -10000000000000000 ≤ sCs I L j ∧ sCs I L j ≤ 10000000000000000 := fun j j0 j1 => by
    have e1 := sBe_in hb (j := j) ⟨j0, j1⟩
    have e2 := sSr_in hb (j := j) ⟨j0, j1⟩
    obtain ⟨r1, r2, r3, -⟩ := sRow_in hb (d := j) ⟨j0, j1⟩
    unfold sCs
    omega
  have a1 := ac_rng (q := sq1 I) (p := sTo I) (v := fun c => L 8 (I 17 c)) (l := fun _ => 0) (B := 10000000000000000) (B0 := 0) (fun _ => by decide) (fun j j0 j1 _ => by have := h17 j j0 j1; show -10000000000000000 ≤ L 8 (I 17 j) ∧ L 8 (I 17 j) ≤ 10000000000000000; omega) (by decide) 40 (by decide)
  have a2 := ac_rng (q := sq1 I) (p := sTo I) (v := fun c => L 8 (I 17 c) - sGi I L c + sBe I L c) (l := fun _ => 0) (B := 10000000000000000) (B0 := 0) (fun _ => by decide) (fun j j0 j1 _ => by have e0 := h17 j j0 j1; have e1 := sBe_in hb (j := j) ⟨j0, j1⟩; have e2 := (sRow_in hb (d := j) ⟨j0, j1⟩).1; show -10000000000000000 ≤ L 8 (I 17 j) - sGi I L j + sBe I L j ∧ L 8 (I 17 j) - sGi I L j + sBe I L j ≤ 10000000000000000; omega) (by decide) 40 (by decide)
  have a3 := ac_rng (q := sq2 I) (p := sTo I) (v := sCs I L) (l := s40 I L) (B := 10000000000000000) (B0 := 100000000000000) (fun b => by unfold s40; split <;> omega) (fun j j0 j1 _ => hcs j j0 j1) (by decide) 40 (by decide)
  have a4 := ho_in (q := sq1 I) (a := I 17) (p := sTo I) (l := fun _ => -1) (fun _ => by decide) (fun j j0 j1 => by have := sTo_in hb (j := j) ⟨j0, j1⟩; omega) 40 (by decide)
  refine ⟨fun p p0 p1 => ?_, fun p p0 p1 p2 => ?_, fun p p0 p1 => ?_, fun c c0 c9 c8 => ?_, fun c c0 c9 => ?_, fun d d0 d9 d8 => ?_, fun k k0 k1 => ?_, ?_⟩
  · obtain ⟨-, x1, x2, x3⟩ := c2 p p0 p1
    obtain ⟨-, y1, y2, y3⟩ := m2 p p0 p1
    have b1 := a1 p
    have b2 := a2 p
    have b3 := a3 p
    rw [x1, x2, x3, y1, y2, y3]
    omega
  · rw [(c2 p p0 p1).1, (m2 p p0 p1).1]
  · rw [(c2 p p0 p1).1]; exact a4 p
  · obtain ⟨⟨x1, x2⟩, x3, x4, -⟩ := c1 c c8 c9
    obtain ⟨x5, x6, x7⟩ := c3 c c8 c9
    obtain ⟨⟨y1, y2⟩, y3, y4, y5, y6, -⟩ := m1 c c8 c9
    have hst := st0_in (I := I) c
    by_cases e : st0 I c = 0
    · have e2 : (if 0 < sBe I L c then (3 : Int) else st0 I c) = (if st0 I c = 0 then (if 0 < sBe I L c then 3 else 0) else st0 I c) := by rw [if_pos e, e]
      refine ⟨by rw [x1, y1, e2], ?_⟩
      rw [x2, x3, x4, x5, x6, x7, y1, y2, y3, y4, y5, y6]
      rw [if_pos e, if_neg (by split <;> omega)]
      exact ⟨rfl, rfl, rfl, rfl, sTo_good e⟩
    · obtain ⟨z1, z2, z3, -⟩ := val_bad (L := L) e
      obtain ⟨z4, z5⟩ := none_bad (L := L) ⟨c8, c9⟩ e
      have z6 := (sq_bad e).2
      refine ⟨by rw [x1, y1, z4, if_neg (by decide), if_neg e], ?_⟩
      rw [x2, x3, x4, x5, x6, x7, y1, y2, y3, y4, y5, y6]
      rw [if_neg e, if_pos (by omega), z1, z2, z3, z4, if_neg z6, z5]
      exact ⟨rfl, rfl, rfl, rfl, if_neg e⟩
  · obtain ⟨⟨x1, x2⟩, -⟩ := c1 c c0 c9
    obtain ⟨⟨y1, y2⟩, y3, y4, y5, y6, -⟩ := m1 c c0 c9
    have hst := st0_in (I := I) c
    have t1 := sTo_in hb (j := c) ⟨c0, c9⟩
    have t2 := sTk_in h (j := c) (by omega) c9
    have t3 := sBe_in hb (j := c) ⟨c0, c9⟩
    have t4 := sSr_in hb (j := c) ⟨c0, c9⟩
    have t5 := hcs c c0 c9
    obtain ⟨r1, r2, r3, -⟩ := sRow_in hb (d := c) ⟨c0, c9⟩
    rw [x1, x2, y1, y2, y3, y4, y5, y6]
    refine ⟨by split <;> omega, by split <;> omega, ?_, ?_, by omega, by omega, by omega, by omega, by omega, by omega, by omega, by omega, by omega, by omega, ?_, ?_⟩
    · split
      · split <;> omega
      · omega
    · split
      · split <;> omega
      · omega
    · split <;> omega
    · split <;> omega
  · have := hp d d8 d9
    omega
  · rcases (show k = 0 ∨ k = 1 ∨ k = 2 ∨ k = 3 ∨ k = 4 ∨ k = 5 ∨ k = 6 ∨ k = 7 by omega) with rfl | rfl | rfl | rfl | rfl | rfl | rfl | rfl
    · rw [c4.1, m3.1]; omega
    · rw [c5, m4, hsm]; omega
    · rw [c4.2.1, m3.2.1]; omega
    · rw [c4.2.2.1, m3.2.2.1]; omega
    · rw [c4.2.2.2.1, m3.2.2.2.1]; omega
    · rw [c4.2.2.2.2.1, m3.2.2.2.2.1]; omega
    · rw [c4.2.2.2.2.2.1, m3.2.2.2.2.2.1]; omega
    · rw [c4.2.2.2.2.2.2, m3.2.2.2.2.2.2]; omega
  · rw [c6]; exact l11_0 hb
end RO
