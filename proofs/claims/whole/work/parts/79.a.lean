/-! what the reference was told; the sums of a settling, put as the reference finds them -/
theorem hb_of {I : ed_I} {L : ed_L} (h : Rel I L) : Hb I L := by
  obtain ⟨h1, hj, hg, hn, ho⟩ := h
  refine ⟨fun j j0 j1 => ?_, fun c j c0 c1 j0 j1 => ?_, h1.2.2.2.2.2.2.2, ho.2.2.2.2.2.2.2⟩
  · obtain ⟨p1, p2, p3, p4, p5, p6⟩ := hj j j0 j1
    refine ⟨⟨p2.2.1, p2.2.2.2.2.2.2.2.2.1⟩, ⟨p3.2.1, p3.2.2.1⟩, ⟨p3.2.2.2.1, p3.2.2.2.2.1⟩, p5.1, ⟨?_, ?_⟩, p1.2, ⟨p2.2.2.2.1, p2.2.2.2.2.1⟩, ?_, ?_, ?_⟩
    · rw [p6.2.2.2.1]; exact p6.2.2.2.2.1
    · rw [p6.2.2.2.1]; exact p6.2.2.2.2.2.1
    · have k := p3.2.1
      have k2 := p3.2.2.1
      rcases (show I 15 j = 0 ∨ I 15 j = 1 ∨ I 15 j = 2 ∨ I 15 j = 3 ∨ I 15 j = 4 by omega) with e | e | e | e | e
      · have := p4.2.2.2 (Or.inl e); omega
      · have := p4.2.2.2 (Or.inr e); omega
      · have := p4.1 e; omega
      · obtain ⟨q1, q2, q3, q4, q5⟩ := p4.2.1 e
        have q := anM (n := (100 - I 88 j).toNat) ⟨q2, q3⟩ (by omega)
        rw [q1]
        unfold anV
        omega
      · have := p4.2.2.1 e; omega
    · rw [p6.1]; exact p6.2.1
    · rw [p6.1]; exact p6.2.2.1
  · have q := hn c j c0 c1 j0 j1
    omega
def Mt (I0 : ed_I) (L0 : ed_L) (I : ed_I) (L : ed_L) : Prop := Rel I0 L0 ∧ I 79 1 = I0 79 1 ∧ ∀ k : Nat, 80 ≤ k → k ≤ 93 → I k = I0 k ∧ L k = L0 k
theorem Mt.sI {I0 : ed_I} {L0 : ed_L} {I : ed_I} {L : ed_L} (h : Mt I0 L0 I L) {k : Nat} {f : Int → Int} (hk : 94 ≤ k) : Mt I0 L0 (setR I k f) L := by
  refine ⟨h.1, ?_, fun a a0 a1 => ⟨?_, (h.2.2 a a0 a1).2⟩⟩
  · rw [rowS _ _ _ _ (by omega)]; exact h.2.1
  · rw [rowS _ _ _ _ (by omega)]; exact (h.2.2 a a0 a1).1
theorem Mt.sL {I0 : ed_I} {L0 : ed_L} {I : ed_I} {L : ed_L} (h : Mt I0 L0 I L) {k : Nat} {f : Int → Int} (hk : 94 ≤ k) : Mt I0 L0 I (setR L k f) := by
  refine ⟨h.1, h.2.1, fun a a0 a1 => ⟨(h.2.2 a a0 a1).1, ?_⟩⟩
  rw [rowS _ _ _ _ (by omega)]; exact (h.2.2 a a0 a1).2
theorem Mt.uI {I0 : ed_I} {L0 : ed_L} {I : ed_I} {L : ed_L} (h : Mt I0 L0 I L) {k : Nat} {i v : Int} (hk : 94 ≤ k) : Mt I0 L0 (upI I k i v) L := by
  refine ⟨h.1, ?_, fun a a0 a1 => ⟨?_, (h.2.2 a a0 a1).2⟩⟩
  · rw [upI_o _ _ _ _ (Or.inl (by omega))]; exact h.2.1
  · rw [rowU _ _ _ _ _ (by omega)]; exact (h.2.2 a a0 a1).1
theorem Mt.uL {I0 : ed_I} {L0 : ed_L} {I : ed_I} {L : ed_L} (h : Mt I0 L0 I L) {k : Nat} {i v : Int} (hk : 94 ≤ k) : Mt I0 L0 I (upI L k i v) := by
  refine ⟨h.1, h.2.1, fun a a0 a1 => ⟨(h.2.2 a a0 a1).1, ?_⟩⟩
  rw [rowU _ _ _ _ _ (by omega)]; exact (h.2.2 a a0 a1).2
theorem Mt.fr {I0 : ed_I} {L0 : ed_L} {I I2 : ed_I} {L L2 : ed_L} {ks ks2 : List Nat} (h : Mt I0 L0 I L) (h1 : fr ks I I2) (h2 : fr ks2 L L2) (h79 : I2 79 1 = I 79 1) (hk : ∀ k, 80 ≤ k → k ≤ 93 → k ∉ ks ∧ k ∉ ks2) : Mt I0 L0 I2 L2 := by
  refine ⟨h.1, h79.trans h.2.1, fun a a0 a1 => ⟨?_, ?_⟩⟩
  · rw [h1 a (hk a a0 a1).1]; exact (h.2.2 a a0 a1).1
  · rw [h2 a (hk a a0 a1).2]; exact (h.2.2 a a0 a1).2
section MT
variable {I0 : ed_I} {L0 : ed_L} {I : ed_I} {L : ed_L}
theorem Mt.day (h : Mt I0 L0 I L) : I 79 1 = I0 1 0 ∧ 0 ≤ I 79 1 ∧ I 79 1 ≤ 100000 := by
  have e := h.1.1.2.2.2.2.2.2
  rw [h.2.1, e.1]
  exact ⟨rfl, e.2⟩
theorem Mt.prs (h : Mt I0 L0 I L) {j : Int} (j0 : 0 ≤ j) (j1 : j ≤ 40) : I 80 j = I0 2 j ∧ 0 ≤ I 80 j ∧ I 80 j ≤ 100000 := by
  have p := (h.1.2.1 j j0 j1).1
  rw [(h.2.2 80 (by decide) (by decide)).1]
  omega
theorem Mt.ast (h : Mt I0 L0 I L) {j : Int} (j0 : 0 ≤ j) (j1 : j ≤ 40) : I 81 j = I0 7 j ∧ (I 81 j = 0 ∨ I 81 j = 1) ∧ (L 82 j = L0 8 j ∧ 0 ≤ L 82 j ∧ L 82 j ≤ 1000000000000) ∧ I 84 j = I0 10 j ∧ (I 84 j = 0 ∨ I 84 j = 1) := by
  have p := (h.1.2.1 j j0 j1).2.1
  rw [(h.2.2 81 (by decide) (by decide)).1, (h.2.2 82 (by decide) (by decide)).2, (h.2.2 84 (by decide) (by decide)).1]
  omega
theorem Mt.cla (h : Mt I0 L0 I L) {j : Int} (j0 : 0 ≤ j) (j1 : j ≤ 40) : I 85 j = I0 15 j ∧ (0 ≤ I 85 j ∧ I 85 j ≤ 4) ∧ (0 ≤ I 86 j ∧ I 86 j ≤ 40) ∧ ((I 85 j = 1 ∨ I 85 j = 2) → I 86 j = I0 17 j) ∧ (I 85 j = 1 → 1 ≤ I 86 j) := by
  have p := (h.1.2.1 j j0 j1).2.2.1
  rw [(h.2.2 85 (by decide) (by decide)).1, (h.2.2 86 (by decide) (by decide)).1]
  omega
theorem Mt.amt (h : Mt I0 L0 I L) {j : Int} (j0 : 0 ≤ j) (j1 : j ≤ 40) : (I 85 j = 2 → L0 16 j = L 87 j ∧ 0 ≤ L 87 j ∧ L 87 j ≤ 1000000000000) ∧ (I 85 j = 3 → L0 16 j = anV (L 87 j) (I 88 j) ∧ (0 ≤ L 87 j ∧ L 87 j ≤ 1000000000) ∧ 0 ≤ I 88 j ∧ I 88 j ≤ 99) ∧ (I 85 j = 4 → L0 16 j = I 88 j ∧ 1 ≤ I 88 j ∧ I 88 j ≤ 1000) := by
  have p := (h.1.2.1 j j0 j1).2.2.2.1
  have q := (h.1.2.1 j j0 j1).2.2.1.1
  rw [(h.2.2 85 (by decide) (by decide)).1, (h.2.2 87 (by decide) (by decide)).2, (h.2.2 88 (by decide) (by decide)).1, q]
  exact ⟨p.1, fun e => ⟨(p.2.1 e).1, ⟨(p.2.1 e).2.1, (p.2.1 e).2.2.1⟩, (p.2.1 e).2.2.2⟩, p.2.2.1⟩
theorem Mt.sty (h : Mt I0 L0 I L) {j : Int} (j0 : 0 ≤ j) (j1 : j ≤ 40) : (I 89 j = 0 ∨ I 89 j = 1) ∧ (I 85 j = 1 → I 89 j = I0 18 j) := by
  have p := (h.1.2.1 j j0 j1).2.2.2.2.1
  have q := (h.1.2.1 j j0 j1).2.2.1.1
  rw [(h.2.2 85 (by decide) (by decide)).1, (h.2.2 89 (by decide) (by decide)).1, q]
  exact p.2
theorem Mt.dbt (h : Mt I0 L0 I L) {j : Int} (j0 : 0 ≤ j) (j1 : j ≤ 40) : L 92 j = L0 70 j ∧ (0 ≤ L 92 j ∧ L 92 j ≤ 1000000000000) ∧ I 93 j = I0 71 j ∧ (0 ≤ I 93 j ∧ I 93 j ≤ 40) ∧ (I 91 j = 0 ∨ I 91 j = 1) ∧ (I 91 j = 0 → L 92 j = 0 ∧ I 93 j = 0) := by
  have p := (h.1.2.1 j j0 j1).2.2.2.2.2
  rw [(h.2.2 91 (by decide) (by decide)).1, (h.2.2 92 (by decide) (by decide)).2, (h.2.2 93 (by decide) (by decide)).1]
  omega
theorem Mt.rnk (h : Mt I0 L0 I L) {c r : Int} (c0 : 0 ≤ c) (c1 : c ≤ 40) (r0 : 1 ≤ r) (r1 : r ≤ 4) : I 90 (5 * c + r) = I0 (20 + c.toNat) r ∧ 0 ≤ I 90 (5 * c + r) ∧ I 90 (5 * c + r) ≤ 40 := by
  have p := h.1.2.2.2.1 c r c0 c1 r0 r1
  rw [(h.2.2 90 (by decide) (by decide)).1]
  omega
theorem Mt.gn (h : Mt I0 L0 I L) {j : Int} (j0 : 0 ≤ j) (j1 : j ≤ 40) : I 85 j = 1 → I 84 (I 86 j) = I0 10 (I0 17 j) := fun e => by
  have c := h.cla j0 j1
  rw [(h.ast c.2.2.1.1 c.2.2.1.2).2.2.2.1, c.2.2.2.1 (Or.inl e)]
theorem Mt.wo (h : Mt I0 L0 I L) {j : Int} (j0 : 0 ≤ j) (j1 : j ≤ 40) : (I 85 j = 1 ∨ I 85 j = 2) → L 82 (I 86 j) = L0 8 (I0 17 j) ∧ I 84 (I 86 j) = I0 10 (I0 17 j) := fun e => by
  have c := h.cla j0 j1
  have a := h.ast c.2.2.1.1 c.2.2.1.2
  rw [a.2.2.1.1, a.2.2.2.1, c.2.2.2.1 e]
  exact ⟨rfl, rfl⟩
end MT
/-! what is taken out of the assets, summed up -/
theorem sm_zero {f : Int → Int} : ∀ n : Nat, (∀ j : Int, 1 ≤ j → j ≤ n → f j = 0) → sm f n = 0
  | 0, _ => rfl
  | n + 1, h => by
    show sm f n + f (n + 1) = 0
    rw [sm_zero n (fun j j0 j1 => h j j0 (by omega)), h (n + 1) (by omega) (by omega)]
    rfl
theorem sm_congr2 {f k : Int → Int} : ∀ n : Nat, (∀ j : Int, 1 ≤ j → j ≤ n → f j = k j) → sm f n = sm k n
  | 0, _ => rfl
  | n + 1, h => by
    show sm f n + f (n + 1) = sm k n + k (n + 1)
    rw [sm_congr2 n (fun j j0 j1 => h j j0 (by omega)), h (n + 1) (by omega) (by omega)]
theorem tkL_sum (q : Int → Bool) (a w l : Int → Int) (b : Int) : ∀ n : Nat, tkL q a w l n b = l b - sm (fun j => if a j = b then tkO q a w l j else 0) n
  | 0 => by show l b = l b - 0; omega
  | n + 1 => by
    have ih := tkL_sum q a w l b n
    have e9 : ((n : Int) + 1 - 1).toNat = n := by omega
    show (if q (n + 1) = true then up1 (tkL q a w l n) (a (n + 1)) (tkL q a w l n (a (n + 1)) - min (w (n + 1)) (tkL q a w l n (a (n + 1)))) else tkL q a w l n) b = l b - (sm (fun j => if a j = b then tkO q a w l j else 0) n + (if a (n + 1) = b then tkO q a w l (n + 1) else 0))
    unfold tkO at ih ⊢
    rw [e9]
    by_cases hq : q (n + 1) = true
    · rw [if_pos hq, if_pos hq]
      by_cases e : a (n + 1) = b
      · rw [if_pos e, e, up1_s, ih]; omega
      · rw [if_neg e, up1_o _ (fun h => e h.symm), ih]; omega
    · rw [if_neg hq, if_neg hq, ih]
      split <;> omega
theorem tkL_max {q : Int → Bool} {a w l : Int → Int} {b : Int} (hw : ∀ j, 1 ≤ j → j ≤ 40 → 0 ≤ w j) (hl : 0 ≤ l b) : ∀ n : Nat, n ≤ 40 → (∀ j : Int, 1 ≤ j → j ≤ n → a j = b → q j = true) → tkL q a w l n b = max 0 (l b - sm (fun j => if a j = b then w j else 0) n)
  | 0, _, _ => by show l b = max 0 (l b - 0); omega
  | n + 1, hn, hq => by
    have ih := tkL_max hw hl n (by omega) (fun j j0 j1 => hq j j0 (by omega))
    have h1 := hw (n + 1) (by omega) (by omega)
    show (if q (n + 1) = true then up1 (tkL q a w l n) (a (n + 1)) (tkL q a w l n (a (n + 1)) - min (w (n + 1)) (tkL q a w l n (a (n + 1)))) else tkL q a w l n) b = max 0 (l b - (sm (fun j => if a j = b then w j else 0) n + (if a (n + 1) = b then w (n + 1) else 0)))
    by_cases e : a (n + 1) = b
    · rw [if_pos (hq _ (by omega) (by omega) e), if_pos e, e, up1_s, ih]; omega
    · rw [if_neg e]
      by_cases h2 : q (n + 1) = true
      · rw [if_pos h2, up1_o _ (fun h => e h.symm), ih]; omega
      · rw [if_neg h2, ih]; omega
theorem gvF_spec {st kd as : Int → Int} {a : Int} : ∀ n : Nat, gvF st kd as n a ≠ 0 → (1 ≤ gvF st kd as n a ∧ gvF st kd as n a ≤ n) ∧ st (gvF st kd as n a) = 0 ∧ kd (gvF st kd as n a) = 1 ∧ as (gvF st kd as n a) = a
  | 0, h => absurd rfl h
  | n + 1, h => by
    have ih := gvF_spec (st := st) (kd := kd) (as := as) (a := a) n
    have e : gvF st kd as (n + 1) a = if st (n + 1) = 0 ∧ kd (n + 1) = 1 ∧ as (n + 1) = a then (n : Int) + 1 else gvF st kd as n a := rfl
    rw [e] at h ⊢
    split at h
    · next h2 => rw [if_pos h2]; exact ⟨by omega, h2⟩
    · next h2 => rw [if_neg h2]; obtain ⟨i1, i2⟩ := ih h; exact ⟨by omega, i2⟩
theorem gvF_zero {st kd as : Int → Int} {a : Int} : ∀ n : Nat, gvF st kd as n a = 0 → ∀ j : Int, 1 ≤ j → j ≤ n → ¬ (st j = 0 ∧ kd j = 1 ∧ as j = a)
  | 0, _ => fun j j0 j1 => by omega
  | n + 1, h => fun j j0 j1 => by
    have e : gvF st kd as (n + 1) a = if st (n + 1) = 0 ∧ kd (n + 1) = 1 ∧ as (n + 1) = a then (n : Int) + 1 else gvF st kd as n a := rfl
    rw [e] at h
    split at h
    · omega
    · next h2 =>
      by_cases e2 : j = (n : Int) + 1
      · rw [e2]; exact h2
      · exact gvF_zero n h j j0 (by omega)
section SP
variable {I : ed_I} {L : ed_L}
theorem sGv_spec {a : Int} (h : sGv I a ≠ 0) : (1 ≤ sGv I a ∧ sGv I a ≤ 40) ∧ st0 I (sGv I a) = 0 ∧ I 15 (sGv I a) = 1 ∧ I 17 (sGv I a) = a := gvF_spec 40 h
theorem sGv_in (a : Int) : 0 ≤ sGv I a ∧ sGv I a ≤ 40 := gvF_in _ _ _ _ 40
theorem sGv_0 (h : Rel I L) : sGv I 0 = 0 := by
  apply Classical.byContradiction
  intro h2
  obtain ⟨q1, q2, q3, q4⟩ := sGv_spec h2
  have p := (h.2.1 (sGv I 0) (by omega) q1.2).2.2.1.2.2.2.2.2.2.2.2.2
  have := p q3
  omega
theorem st0_good {c : Int} (h : st0 I c = 0) : I 15 c ≠ 0 ∧ sTk I c ≠ 0 ∧ (I 15 c = 1 → I 10 (I 17 c) = 0) := by
  have e : st0 I c = if I 15 c = 0 then -1 else if sTk I c = 0 then 1 else if I 15 c = 1 ∧ I 10 (I 17 c) ≠ 0 then 2 else 0 := rfl
  rw [e] at h
  split at h
  · omega
  · next h1 =>
    split at h
    · omega
    · next h2 =>
      split at h
      · omega
      · next h3 => exact ⟨h1, h2, fun e => Classical.byContradiction (fun h4 => h3 ⟨e, h4⟩)⟩
theorem st0_in (c : Int) : -1 ≤ st0 I c ∧ st0 I c ≤ 2 := by unfold st0; repeat (first | omega | split)
theorem sTo_ne {c : Int} : sTo I c ≠ 0 ↔ st0 I c = 0 := by
  unfold sTo
  split
  · next h => exact ⟨fun _ => h, fun _ => (st0_good h).2.1⟩
  · next h => exact ⟨fun h2 => absurd rfl h2, fun h2 => absurd h2 h⟩
/-- what a good clause's asset holds before debts -/
theorem sL0_gift (h : Rel I L) {c : Int} (hc : 1 ≤ c ∧ c ≤ 40) (hs : st0 I c = 0) (hk : I 15 c = 1) : sL0 I L (I 17 c) = L 8 (I 17 c) := by
  have p := (h.2.1 c (by omega) hc.2).2.2.1.2.2.2.2.2.2.2.2.2 hk
  have q := (h.2.2.1.2.1 c hc.1 hc.2 (by omega)).1
  have r := (st0_good hs).2.2 hk
  unfold sL0 lf0
  rw [if_neg (by omega), if_pos (by omega)]
theorem own_eq (h : Rel I L) {d : Int} (hd : 1 ≤ d ∧ d ≤ 40) : sOwn I L d = min (L 70 d) (max 0 (if sGv I (I 71 d) ≠ 0 ∧ I 18 (sGv I (I 71 d)) ≠ 0 then L 8 (I 71 d) - sm (fun j => if I 71 j = I 71 d then L 70 j else 0) (d - 1).toNat else 0)) := by
  have hb := hb_of h
  have h70 := (hb.1 d (by omega) hd.2).2.2.2.2.2.2.2.2.1
  by_cases hq : sGv I (I 71 d) ≠ 0 ∧ I 18 (sGv I (I 71 d)) ≠ 0
  · have e1 : sOwn I L d = min (L 70 d) (tkL (sQd I) (I 71) (L 70) (sL0 I L) (d - 1).toNat (I 71 d)) := by
      show (if sQd I d = true then _ else _) = _
      rw [if_pos (show sQd I d = true from decide_eq_true hq)]
    obtain ⟨q1, q2, q3, q4⟩ := sGv_spec hq.1
    have e0 := sL0_gift h q1 q2 q3
    rw [q4] at e0
    have h8 := (hb.1 (I 71 d) (hb.1 d (by omega) hd.2).2.2.2.2.1.1 (hb.1 d (by omega) hd.2).2.2.2.2.1.2).2.2.2.2.2.2.1.1
    have e2 := tkL_max (q := sQd I) (a := I 71) (w := L 70) (l := sL0 I L) (b := I 71 d) (fun j j0 j1 => (hb.1 j (by omega) j1).2.2.2.2.2.2.2.2.1) (by omega) (d - 1).toNat (by omega) (fun j j0 j1 e => decide_eq_true (by rw [e]; exact hq))
    rw [e1, e2, e0, if_pos hq]
  · have e1 : sOwn I L d = 0 := by
      show (if sQd I d = true then _ else _) = _
      rw [if_neg (show ¬ sQd I d = true from fun h9 => hq (of_decide_eq_true h9))]
    rw [e1, if_neg hq]
    omega
/-- the debts that stay with an asset -/
def ow (I : ed_I) (L : ed_L) (a : Int) : Int := sm (fun j => if I 71 j = a then sOwn I L j else 0) 40
theorem ow_eq (a : Int) : sL1 I L a = sL0 I L a - ow I L a := tkL_sum (sQd I) (I 71) (L 70) (sL0 I L) a 40
theorem sL2_sum (n : Nat) (a : Int) : sL2 I L n a = sL1 I L a - sm (fun j => if I 17 j = a then sDr I L j else 0) n := tkL_sum (sQv I) (I 17) (L 16) (sL1 I L) a n
theorem sDr_no {c : Int} (h : ¬ sQv I c = true) : sDr I L c = 0 := if_neg h
theorem sDr_yes {c : Int} (h : sQv I c = true) : sDr I L c = min (L 16 c) (sL2 I L (c - 1).toNat (I 17 c)) := if_pos h
/-- no debt stays with an asset that no good clause gives -/
theorem ow_free {a : Int} (h : sGv I a = 0) : ow I L a = 0 := by
  refine sm_zero 40 (fun j j0 j1 => ?_)
  show (if I 71 j = a then sOwn I L j else 0) = 0
  split
  · next e =>
    show (if sQd I j = true then _ else _) = _
    rw [if_neg (fun h9 => (of_decide_eq_true h9).1 (by rw [e]; exact h))]
  · rfl
theorem gift_eq (h : Rel I L) {c : Int} (hc : 1 ≤ c ∧ c ≤ 40) (hs : st0 I c = 0) (hk : I 15 c = 1) : sGi I L c = L 8 (I 17 c) - ow I L (I 17 c) := by
  have e : sGi I L c = sL2 I L (c - 1).toNat (I 17 c) := if_pos ⟨hs, hk⟩
  have z : sm (fun j => if I 17 j = I 17 c then sDr I L j else 0) (c - 1).toNat = 0 := sm_zero _ (fun j j0 j1 => by
    show (if I 17 j = I 17 c then sDr I L j else 0) = 0
    rw [if_neg (h.2.2.1.1 c j hc.1 hc.2 j0 (by omega) (by omega) hk)])
  rw [e, sL2_sum, z, ow_eq, sL0_gift h hc hs hk]
  omega
/-- no good clause gives the asset of a legacy -/
theorem leg_free (h : Rel I L) {c : Int} (hc : 1 ≤ c ∧ c ≤ 40) (hk : I 15 c ≠ 1) : sGv I (I 17 c) = 0 := by
  apply Classical.byContradiction
  intro h2
  obtain ⟨q1, q2, q3, q4⟩ := sGv_spec h2
  exact h.2.2.1.1 _ c q1.1 q1.2 hc.1 hc.2 (fun e => hk (by rw [← e]; exact q3)) q3 q4.symm
theorem leg_eq (h : Rel I L) {c : Int} (hc : 1 ≤ c ∧ c ≤ 40) (hk : I 15 c = 2) : sL2 I L (c - 1).toNat (I 17 c) = (if 0 < I 17 c ∧ I 10 (I 17 c) = 0 then L 8 (I 17 c) else 0) - sm (fun j => if (I 15 j = 2 ∧ st0 I j = 0) ∧ I 17 j = I 17 c ∧ 0 < I 17 c then sDr I L j else 0) (c - 1).toNat := by
  have hb := hb_of h
  have r17 := (hb.1 c (by omega) hc.2).2.2.1
  have e0 : sL0 I L (I 17 c) = if 0 < I 17 c ∧ I 10 (I 17 c) = 0 then L 8 (I 17 c) else 0 := by
    unfold sL0 lf0
    by_cases e : I 17 c = 0
    · rw [if_pos e, if_neg (by omega)]
    · have q := (h.2.2.1.2.1 c hc.1 hc.2 e).1
      rw [if_neg e]
      by_cases e2 : I 10 (I 17 c) = 0
      · rw [if_pos (by omega), if_pos (by omega)]
      · rw [if_neg (by omega), if_neg (by omega)]
  have e1 : sL1 I L (I 17 c) = sL0 I L (I 17 c) := by rw [ow_eq, ow_free (leg_free h hc (by omega))]; omega
  have e2 : sm (fun j => if I 17 j = I 17 c then sDr I L j else 0) (c - 1).toNat = sm (fun j => if (I 15 j = 2 ∧ st0 I j = 0) ∧ I 17 j = I 17 c ∧ 0 < I 17 c then sDr I L j else 0) (c - 1).toNat := by
    refine sm_congr2 _ (fun j j0 j1 => ?_)
    show (if I 17 j = I 17 c then sDr I L j else 0) = (if (I 15 j = 2 ∧ st0 I j = 0) ∧ I 17 j = I 17 c ∧ 0 < I 17 c then sDr I L j else 0)
    by_cases e : I 17 j = I 17 c
    · rw [if_pos e]
      by_cases e3 : (I 15 j = 2 ∧ st0 I j = 0) ∧ I 17 j = I 17 c ∧ 0 < I 17 c
      · rw [if_pos e3]
      · rw [if_neg e3]
        by_cases hq : sQv I j = true
        · have q := of_decide_eq_true hq
          have k := (hb.1 j (by omega) (by omega)).2.1
          have k3 := (h.2.1 j (by omega) (by omega)).2.2.1.2.2.2.2.2.2.2.2.1
          have s1 := (st0_good q.1).1
          have z : I 17 c = 0 := by omega
          have w := sDr_yes (L := L) hq
          have in2 := sL2_in hb (b := I 17 c) ⟨by omega, by omega⟩ (n := (j - 1).toNat) (by omega)
          have in1 := sL1_in hb (b := I 17 c) ⟨by omega, by omega⟩
          have a16 := (hb.1 j (by omega) (by omega)).2.2.2.2.2.2.2.1.1
          have z0 : sL0 I L (I 17 c) = 0 := by rw [z]; exact if_pos rfl
          rw [w, e]
          omega
        · exact sDr_no hq
    · rw [if_neg e, if_neg (fun h9 => e h9.2.1)]
  rw [sL2_sum, e1, e0, e2]
theorem ann_eq (h : Rel I L) {c : Int} (hc : 1 ≤ c ∧ c ≤ 40) (hk : I 15 c = 3) : sDr I L c = 0 := by
  have hb := hb_of h
  by_cases hq : sQv I c = true
  · have z := (h.2.1 c (by omega) (by omega)).2.2.1.2.2.2.2.2.2.2.2.1 (by omega) (by omega)
    have w := sDr_yes (L := L) hq
    have in2 := sL2_in hb (b := I 17 c) ⟨by omega, by omega⟩ (n := (c - 1).toNat) (by omega)
    have in1 := sL1_in hb (b := I 17 c) ⟨by omega, by omega⟩
    have a16 := (hb.1 c (by omega) (by omega)).2.2.2.2.2.2.2.1.1
    have z0 : sL0 I L (I 17 c) = 0 := by rw [z]; exact if_pos rfl
    rw [w]
    omega
  · exact sDr_no hq
/-- what a clause gets, by its kind -/
theorem val_bad {c : Int} (hs : st0 I c ≠ 0) : sGi I L c = 0 ∧ sDr I L c = 0 ∧ sGe I L c = 0 ∧ sRp I L c = 0 := by
  have q : ¬ sQv I c = true := fun h9 => hs (of_decide_eq_true h9).1
  exact ⟨if_neg (fun h9 => hs h9.1), sDr_no q, if_neg q, if_neg (fun h9 => hs h9.1)⟩
theorem val_1 {c : Int} (hk : I 15 c = 1) : sDr I L c = 0 ∧ sGe I L c = 0 ∧ sRp I L c = 0 := by
  have q : ¬ sQv I c = true := fun h9 => (of_decide_eq_true h9).2.1 hk
  exact ⟨sDr_no q, if_neg q, if_neg (by omega)⟩
theorem val_4 {c : Int} (hk : I 15 c = 4) : sGi I L c = 0 ∧ sDr I L c = 0 ∧ sGe I L c = 0 := by
  have q : ¬ sQv I c = true := fun h9 => (of_decide_eq_true h9).2.2 hk
  exact ⟨if_neg (by omega), sDr_no q, if_neg q⟩
theorem val_23 {c : Int} (hs : st0 I c = 0) (hk : I 15 c = 2 ∨ I 15 c = 3) : sGi I L c = 0 ∧ sRp I L c = 0 ∧ sGe I L c = L 16 c - sDr I L c ∧ sDr I L c = min (L 16 c) (sL2 I L (c - 1).toNat (I 17 c)) := by
  have q : sQv I c = true := decide_eq_true ⟨hs, by omega, by omega⟩
  exact ⟨if_neg (by omega), if_neg (by omega), if_pos q, sDr_yes q⟩
/-- what lies in assets not given, before legacies -/
def mF (I : ed_I) (L : ed_L) (a : Int) : Int := if I 7 a ≠ 0 ∧ I 10 a = 0 then (if sGv I a = 0 then L 8 a else 0) else 0
theorem sT_eq (h : Rel I L) : sT I L = sm (mF I L) 40 - sN I L := by
  have hb := hb_of h
  have key : ∀ n : Nat, n ≤ 40 → sm (fun a => if I 7 a ≠ 0 ∧ I 10 a = 0 then (if sGv I a = 0 then sL2 I L n a else 0) else 0) 40 + sm (sDr I L) n = sm (mF I L) 40 := by
    intro n
    induction n with
    | zero =>
      intro _
      have e : sm (fun a => if I 7 a ≠ 0 ∧ I 10 a = 0 then (if sGv I a = 0 then sL2 I L 0 a else 0) else 0) 40 = sm (mF I L) 40 := by
        refine sm_congr2 40 (fun a a0 a1 => ?_)
        show (if I 7 a ≠ 0 ∧ I 10 a = 0 then (if sGv I a = 0 then sL1 I L a else 0) else 0) = (if I 7 a ≠ 0 ∧ I 10 a = 0 then (if sGv I a = 0 then L 8 a else 0) else 0)
        by_cases e1 : I 7 a ≠ 0 ∧ I 10 a = 0
        · rw [if_pos e1, if_pos e1]
          by_cases e2 : sGv I a = 0
          · rw [if_pos e2, if_pos e2, ow_eq, ow_free e2]
            unfold sL0 lf0
            rw [if_neg (by omega), if_pos e1]
            omega
          · rw [if_neg e2, if_neg e2]
        · rw [if_neg e1, if_neg e1]
      rw [e]
      show sm (mF I L) 40 + 0 = _
      omega
    | succ n ih =>
      intro hn
      have ih := ih (by omega)
      have e9 : ((n : Int) + 1 - 1).toNat = n := by omega
      show sm (fun a => if I 7 a ≠ 0 ∧ I 10 a = 0 then (if sGv I a = 0 then sL2 I L (n + 1) a else 0) else 0) 40 + (sm (sDr I L) n + sDr I L (n + 1)) = sm (mF I L) 40
      have r17 := (hb.1 (n + 1) (by omega) (by omega)).2.2.1
      have hstep : ∀ a, sL2 I L (n + 1) a = sL2 I L n a - (if I 17 (n + 1) = a then sDr I L (n + 1) else 0) := fun a => by
        rw [sL2_sum, sL2_sum]
        show _ - (sm (fun j => if I 17 j = a then sDr I L j else 0) n + (if I 17 ((n : Int) + 1) = a then sDr I L (n + 1) else 0)) = _
        omega
      by_cases hz : sDr I L (n + 1) = 0
      · have e : sm (fun a => if I 7 a ≠ 0 ∧ I 10 a = 0 then (if sGv I a = 0 then sL2 I L (n + 1) a else 0) else 0) 40 = sm (fun a => if I 7 a ≠ 0 ∧ I 10 a = 0 then (if sGv I a = 0 then sL2 I L n a else 0) else 0) 40 := by
          refine sm_congr2 40 (fun a a0 a1 => ?_)
          have e3 : sL2 I L (n + 1) a = sL2 I L n a := by rw [hstep a, hz]; split <;> omega
          show (if I 7 a ≠ 0 ∧ I 10 a = 0 then (if sGv I a = 0 then sL2 I L (n + 1) a else 0) else 0) = _
          rw [e3]
        rw [e, hz]
        omega
      · have hq : sQv I (n + 1) = true := Classical.byContradiction (fun h9 => hz (sDr_no h9))
        have w := sDr_yes (L := L) hq
        rw [e9] at w
        have in2 := sL2_in hb (b := I 17 (n + 1)) r17 (n := n) (by omega)
        have in1 := sL1_in hb (b := I 17 (n + 1)) r17
        have in0 := sL0_in hb (b := I 17 (n + 1)) r17
        have a16 := (hb.1 (n + 1) (by omega) (by omega)).2.2.2.2.2.2.2.1.1
        have hne : sL0 I L (I 17 (n + 1)) ≠ 0 := fun h0 => hz (by rw [w]; omega)
        have hth : I 17 (n + 1) ≠ 0 ∧ (I 7 (I 17 (n + 1)) ≠ 0 ∧ I 10 (I 17 (n + 1)) = 0) := by
          unfold sL0 lf0 at hne
          split at hne
          · exact absurd rfl hne
          · next h1 =>
            split at hne
            · next h2 => exact ⟨h1, h2⟩
            · exact absurd rfl hne
        have hfr := leg_free (c := n + 1) h (by omega) (of_decide_eq_true hq).2.1
        have e : (fun a => if I 7 a ≠ 0 ∧ I 10 a = 0 then (if sGv I a = 0 then sL2 I L (n + 1) a else 0) else 0) = up1 (fun a => if I 7 a ≠ 0 ∧ I 10 a = 0 then (if sGv I a = 0 then sL2 I L n a else 0) else 0) (I 17 (n + 1)) (sL2 I L n (I 17 (n + 1)) - sDr I L (n + 1)) := by
          funext a
          by_cases e4 : a = I 17 (n + 1)
          · rw [e4, up1_s, if_pos hth.2, if_pos hfr, hstep, if_pos rfl]
          · have e5 : sL2 I L (n + 1) a = sL2 I L n a := by rw [hstep a, if_neg (show ¬ I 17 ((n : Int) + 1) = a from fun h9 => e4 h9.symm), Int.sub_zero]
            rw [up1_o _ e4, e5]
        rw [e, sm_up, if_pos (by omega), if_pos hth.2, if_pos hfr]
        omega
  have k := key 40 (by decide)
  show sm (sFr I L) 40 = _
  have e : sm (sFr I L) 40 = sm (fun a => if I 7 a ≠ 0 ∧ I 10 a = 0 then (if sGv I a = 0 then sL2 I L 40 a else 0) else 0) 40 := rfl
  have e2 : sN I L = sm (sDr I L) 40 := rfl
  rw [e, e2]
  omega
end SP
