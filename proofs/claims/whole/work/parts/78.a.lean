/-! what a settling finds, of the facts told before it -/
def sTk (I : ed_I) (c : Int) : Int := tk I (I (20 + c.toNat))
def sTo (I : ed_I) (c : Int) : Int := if st0 I c = 0 then sTk I c else 0
def sGv (I : ed_I) (a : Int) : Int := gvF (st0 I) (I 15) (I 17) 40 a
def sQd (I : ed_I) (d : Int) : Bool := decide (sGv I (I 71 d) ≠ 0 ∧ I 18 (sGv I (I 71 d)) ≠ 0)
def sL0 (I : ed_I) (L : ed_L) (a : Int) : Int := if a = 0 then 0 else lf0 I L a
def sL1 (I : ed_I) (L : ed_L) : Int → Int := tkL (sQd I) (I 71) (L 70) (sL0 I L) 40
def sOwn (I : ed_I) (L : ed_L) (d : Int) : Int := tkO (sQd I) (I 71) (L 70) (sL0 I L) d
def sOrd (I : ed_I) (L : ed_L) (d : Int) : Int := L 70 d - sOwn I L d
def sQv (I : ed_I) (c : Int) : Bool := decide (st0 I c = 0 ∧ I 15 c ≠ 1 ∧ I 15 c ≠ 4)
def sL2 (I : ed_I) (L : ed_L) (n : Nat) : Int → Int := tkL (sQv I) (I 17) (L 16) (sL1 I L) n
def sGi (I : ed_I) (L : ed_L) (c : Int) : Int := if st0 I c = 0 ∧ I 15 c = 1 then sL2 I L (c - 1).toNat (I 17 c) else 0
def sRp (I : ed_I) (L : ed_L) (c : Int) : Int := if st0 I c = 0 ∧ I 15 c = 4 then L 16 c else 0
def sDr (I : ed_I) (L : ed_L) (c : Int) : Int := tkO (sQv I) (I 17) (L 16) (sL1 I L) c
def sGe (I : ed_I) (L : ed_L) (c : Int) : Int := if sQv I c = true then L 16 c - sDr I L c else 0
def sFr (I : ed_I) (L : ed_L) (a : Int) : Int := if I 7 a ≠ 0 ∧ I 10 a = 0 then (if sGv I a = 0 then sL2 I L 40 a else 0) else 0
def sT (I : ed_I) (L : ed_L) : Int := sm (sFr I L) 40
def sD (I : ed_I) (L : ed_L) : Int := sm (sOrd I L) 40
def sG (I : ed_I) (L : ed_L) : Int := sm (sGe I L) 40
def sN (I : ed_I) (L : ed_L) : Int := sm (sDr I L) 40
def sS (I : ed_I) (L : ed_L) : Int := sm (sGi I L) 40
def sMe (I : ed_I) (L : ed_L) : Int := sT I L + sN I L + sS I L
def sSh (I : ed_I) (L : ed_L) : Int := max 0 (sD I L - sMe I L)
def sRe (I : ed_I) (L : ed_L) : Int := max 0 (sT I L - sD I L - sG I L)
def sB1 (I : ed_I) (L : ed_L) : Int := sG I L - min (sG I L) (max 0 (sT I L - sD I L))
def sB2 (I : ed_I) (L : ed_L) : Int := min (sN I L) (max 0 (sD I L - sT I L))
def sB3 (I : ed_I) (L : ed_L) : Int := max 0 (sD I L - sT I L) - sB2 I L
def sBe (I : ed_I) (L : ed_L) (c : Int) : Int := spl (sGe I L) (sB1 I L) c + spl (sDr I L) (sB2 I L) c + spl (sGi I L) (sB3 I L) c
def sSr (I : ed_I) (L : ed_L) (c : Int) : Int := spl (sRp I L) (sRe I L) c
def sCs (I : ed_I) (L : ed_L) (c : Int) : Int := sSr I L c + (sGi I L c + sDr I L c + sGe I L c - sBe I L c)
def sq1 (I : ed_I) (c : Int) : Bool := decide (sTo I c ≠ 0 ∧ I 15 c = 1)
def sq2 (I : ed_I) (c : Int) : Bool := decide (sTo I c ≠ 0 ∧ I 15 c ≠ 1)
/-- what the told facts are like -/
def Hb (I : ed_I) (L : ed_L) : Prop :=
  (∀ j, 0 ≤ j → j ≤ 40 → ((I 7 j = 0 ∨ I 7 j = 1) ∧ (I 10 j = 0 ∨ I 10 j = 1)) ∧ (0 ≤ I 15 j ∧ I 15 j ≤ 4) ∧ (0 ≤ I 17 j ∧ I 17 j ≤ 40) ∧ (I 18 j = 0 ∨ I 18 j = 1) ∧ (0 ≤ I 71 j ∧ I 71 j ≤ 40) ∧ (0 ≤ I 2 j ∧ I 2 j ≤ 100000) ∧ (0 ≤ L 8 j ∧ L 8 j ≤ 1000000000000) ∧ (0 ≤ L 16 j ∧ L 16 j ≤ 1000000000000) ∧ 0 ≤ L 70 j ∧ L 70 j ≤ 1000000000000) ∧
  (∀ c j : Int, 0 ≤ c → c ≤ 40 → 1 ≤ j → j ≤ 4 → 0 ≤ I (20 + c.toNat) j ∧ I (20 + c.toNat) j ≤ 40) ∧ (0 ≤ I 1 0 ∧ I 1 0 ≤ 100000) ∧ L 11 0 = 0
def fr (ks : List Nat) (I I1 : ed_I) : Prop := ∀ a, a ∉ ks → I1 a = I a
theorem fr_trans {ks ks2 ks3 : List Nat} {I I1 I2 : ed_I} (h : fr ks I I1) (h2 : fr ks2 I1 I2) (h3 : ∀ a, a ∉ ks3 → a ∉ ks ∧ a ∉ ks2) : fr ks3 I I2 := fun a ha => (h2 a (h3 a ha).2).trans (h a (h3 a ha).1)
theorem st0_of {I I1 : ed_I} (h : fr [12, 13, 61, 62] I I1) {c : Int} (hc : 0 ≤ c ∧ c ≤ 40) : st0 I1 c = st0 I c ∧ tk I1 (I1 (20 + c.toNat)) = sTk I c := by
  have e : tk I1 (I1 (20 + c.toNat)) = sTk I c := by
    unfold sTk tk olv
    rw [h (20 + c.toNat) (by simp; omega), h 1 (by decide), h 2 (by decide)]
  refine ⟨?_, e⟩
  unfold st0
  rw [e, h 15 (by decide), h 10 (by decide), h 17 (by decide)]
  rfl
theorem gvF_congr {st st2 kd kd2 as as2 : Int → Int} (h : ∀ j, 1 ≤ j → j ≤ 40 → st j = st2 j ∧ kd j = kd2 j ∧ as j = as2 j) : ∀ n : Nat, n ≤ 40 → ∀ a, gvF st kd as n a = gvF st2 kd2 as2 n a
  | 0, _ => fun _ => rfl
  | n + 1, hn => fun a => by
    obtain ⟨e1, e2, e3⟩ := h (n + 1) (by omega) (by omega)
    show (if st (n + 1) = 0 ∧ kd (n + 1) = 1 ∧ as (n + 1) = a then (n : Int) + 1 else gvF st kd as n a) = (if st2 (n + 1) = 0 ∧ kd2 (n + 1) = 1 ∧ as2 (n + 1) = a then (n : Int) + 1 else gvF st2 kd2 as2 n a)
    rw [e1, e2, e3, gvF_congr h n (by omega) a]
theorem sL0_in {I : ed_I} {L : ed_L} (h : Hb I L) {b : Int} (hb : 0 ≤ b ∧ b ≤ 40) : 0 ≤ sL0 I L b ∧ sL0 I L b ≤ 1000000000000 := by
  have q := (h.1 b hb.1 hb.2).2.2.2.2.2.2.1
  unfold sL0 lf0
  split
  · omega
  · split <;> omega
theorem sL1_in {I : ed_I} {L : ed_L} (h : Hb I L) {b : Int} (hb : 0 ≤ b ∧ b ≤ 40) : 0 ≤ sL1 I L b ∧ sL1 I L b ≤ sL0 I L b := tkL_in (fun j j0 j1 => (h.1 j (by omega) j1).2.2.2.2.2.2.2.2.1) (fun b b0 b1 => (sL0_in h ⟨b0, b1⟩).1) hb 40 (by decide)
theorem sL2_in {I : ed_I} {L : ed_L} (h : Hb I L) {b : Int} (hb : 0 ≤ b ∧ b ≤ 40) {n : Nat} (hn : n ≤ 40) : 0 ≤ sL2 I L n b ∧ sL2 I L n b ≤ sL1 I L b := tkL_in (fun j j0 j1 => (h.1 j (by omega) j1).2.2.2.2.2.2.2.1.1) (fun b b0 b1 => (sL1_in h ⟨b0, b1⟩).1) hb n hn
theorem tkO_in {q : Int → Bool} {a w l : Int → Int} (hw : ∀ j, 1 ≤ j → j ≤ 40 → 0 ≤ w j) (ha : ∀ j, 1 ≤ j → j ≤ 40 → 0 ≤ a j ∧ a j ≤ 40) (hl : ∀ b, 0 ≤ b → b ≤ 40 → 0 ≤ l b) {i : Int} (hi : 1 ≤ i ∧ i ≤ 40) : 0 ≤ tkO q a w l i ∧ tkO q a w l i ≤ w i := by
  have h1 := hw i hi.1 hi.2
  have h2 := tkL_in (q := q) (a := a) hw hl (ha i hi.1 hi.2) (i - 1).toNat (by omega)
  unfold tkO
  split <;> omega
theorem sOwn_in {I : ed_I} {L : ed_L} (h : Hb I L) {d : Int} (hd : 1 ≤ d ∧ d ≤ 40) : 0 ≤ sOwn I L d ∧ sOwn I L d ≤ L 70 d := tkO_in (fun j j0 j1 => (h.1 j (by omega) j1).2.2.2.2.2.2.2.2.1) (fun j j0 j1 => (h.1 j (by omega) j1).2.2.2.2.1) (fun b b0 b1 => (sL0_in h ⟨b0, b1⟩).1) hd
theorem sOrd_in {I : ed_I} {L : ed_L} (h : Hb I L) {d : Int} (hd : 1 ≤ d ∧ d ≤ 40) : 0 ≤ sOrd I L d ∧ sOrd I L d ≤ 1000000000000 := by
  have q1 := sOwn_in h hd
  have q2 := (h.1 d (by omega) hd.2).2.2.2.2.2.2.2.2
  unfold sOrd
  omega
theorem sDr_in {I : ed_I} {L : ed_L} (h : Hb I L) {d : Int} (hd : 1 ≤ d ∧ d ≤ 40) : 0 ≤ sDr I L d ∧ sDr I L d ≤ L 16 d := tkO_in (fun j j0 j1 => (h.1 j (by omega) j1).2.2.2.2.2.2.2.1.1) (fun j j0 j1 => (h.1 j (by omega) j1).2.2.1) (fun b b0 b1 => (sL1_in h ⟨b0, b1⟩).1) hd
theorem sRow_in {I : ed_I} {L : ed_L} (h : Hb I L) {d : Int} (hd : 1 ≤ d ∧ d ≤ 40) : (0 ≤ sGi I L d ∧ sGi I L d ≤ 1000000000000) ∧ (0 ≤ sDr I L d ∧ sDr I L d ≤ 1000000000000) ∧ (0 ≤ sGe I L d ∧ sGe I L d ≤ 1000000000000) ∧ (0 ≤ sRp I L d ∧ sRp I L d ≤ 1000000000000) := by
  have q1 := sDr_in h hd
  have q2 := (h.1 d (by omega) hd.2).2.2.2.2.2.2.2.1
  have q3 := (h.1 d (by omega) hd.2).2.2.1
  have q4 := sL2_in h q3 (n := (d - 1).toNat) (by omega)
  have q5 := sL1_in h q3
  have q6 := sL0_in h q3
  refine ⟨?_, by omega, ?_, ?_⟩
  · unfold sGi; split <;> omega
  · unfold sGe; split <;> omega
  · unfold sRp; split <;> omega
theorem sFr_in {I : ed_I} {L : ed_L} (h : Hb I L) {a : Int} (ha : 1 ≤ a ∧ a ≤ 40) : 0 ≤ sFr I L a ∧ sFr I L a ≤ 1000000000000 := by
  have q4 := sL2_in h (b := a) (by omega) (n := 40) (by decide)
  have q5 := sL1_in h (b := a) (by omega)
  have q6 := sL0_in h (b := a) (by omega)
  unfold sFr
  split
  · split <;> omega
  · omega
theorem sSum_in {I : ed_I} {L : ed_L} (h : Hb I L) : (0 ≤ sT I L ∧ sT I L ≤ 40000000000000) ∧ (0 ≤ sD I L ∧ sD I L ≤ 40000000000000) ∧ (0 ≤ sG I L ∧ sG I L ≤ 40000000000000) ∧ (0 ≤ sN I L ∧ sN I L ≤ 40000000000000) ∧ (0 ≤ sS I L ∧ sS I L ≤ 40000000000000) := by
  have e1 := sm_le (f := sFr I L) (B := 1000000000000) (fun j j0 j1 => sFr_in h ⟨j0, j1⟩) 40 (by decide)
  have e2 := sm_le (f := sOrd I L) (B := 1000000000000) (fun j j0 j1 => sOrd_in h ⟨j0, j1⟩) 40 (by decide)
  have e3 := sm_le (f := sGe I L) (B := 1000000000000) (fun j j0 j1 => (sRow_in h ⟨j0, j1⟩).2.2.1) 40 (by decide)
  have e4 := sm_le (f := sDr I L) (B := 1000000000000) (fun j j0 j1 => (sRow_in h ⟨j0, j1⟩).2.1) 40 (by decide)
  have e5 := sm_le (f := sGi I L) (B := 1000000000000) (fun j j0 j1 => (sRow_in h ⟨j0, j1⟩).1) 40 (by decide)
  unfold sT sD sG sN sS
  omega
theorem spl_in {w : Int → Int} {A : Int} (hA : A ≤ 1000000000000000) (hw : ∀ j, 1 ≤ j → j ≤ 40 → 0 ≤ w j) {j : Int} (hj : 1 ≤ j ∧ j ≤ 40) : 0 ≤ spl w A j ∧ spl w A j ≤ 1000000000000040 := by
  unfold spl
  split
  · omega
  · next h =>
    have hW : 0 < sm w 40 := by omega
    have h0 := bs_in (w := w) (A := A) (by omega) hw hW hj
    have hl := lck_in (A := A) hW
    have key : ∀ n : Nat, bs w A j ≤ (pk (bs w A) (rs w A) n).1 j ∧ (pk (bs w A) (rs w A) n).1 j ≤ bs w A j + n := by
      intro n
      induction n with
      | zero => exact ⟨Int.le_refl _, by simp [pk]⟩
      | succ n ih =>
        show bs w A j ≤ up1 (pk (bs w A) (rs w A) n).1 _ _ j ∧ up1 (pk (bs w A) (rs w A) n).1 _ _ j ≤ bs w A j + ((n + 1 : Nat) : Int)
        by_cases e : j = am (pk (bs w A) (rs w A) n).2 39
        · rw [← e, up1_s]; omega
        · rw [up1_o _ e]; omega
    have := key (lck w A).toNat
    omega
theorem spl_congr {w w2 : Int → Int} {A : Int} (hw : ∀ j, 1 ≤ j → j ≤ 40 → w j = w2 j) {j : Int} (hj : 1 ≤ j ∧ j ≤ 40) : spl w A j = spl w2 A j := by
  have e : sm w 40 = sm w2 40 := sm_congr hw 40 (by decide)
  have eb : ∀ j, 1 ≤ j → j ≤ 40 → bs w A j = bs w2 A j := fun j j0 j1 => by unfold bs; rw [hw j j0 j1, e]
  have er : ∀ j, 1 ≤ j → j ≤ 40 → rs w A j = rs w2 A j := fun j j0 j1 => by unfold rs; rw [hw j j0 j1, e]
  have el : lck w A = lck w2 A := by unfold lck; rw [sm_congr eb 40 (by decide)]
  unfold spl
  rw [e, el, (pk_congr eb er _ j hj.1 hj.2).1]
