/-! the reference divides: bit by bit, then by the largest rests -/
theorem shr_bit {w b : Int} (hw : 0 ≤ w ∧ w ≤ 4611686018427387904) (hb : 0 ≤ b ∧ b ≤ 45) : (lZ w >>> ((iZ b).toInt64 &&& 63)) &&& lZ 1 = lZ (w / 2 ^ b.toNat % 2) := by
  obtain ⟨n, rfl⟩ : ∃ n : Nat, b = n := ⟨b.toNat, by omega⟩
  obtain ⟨m, rfl⟩ : ∃ m : Nat, w = m := ⟨w.toNat, by omega⟩
  have hn : n ≤ 45 := by omega
  have hm : m ≤ 4611686018427387904 := by omega
  rw [iZ_l (by omega)]
  have k : ∀ n : Fin 46, ((lZ (n.val : Int) &&& 63).toBitVec.smod 64).toNat = n.val := by decide
  have k := k ⟨n, by omega⟩
  simp only at k
  rw [← Int64.toBitVec_inj]
  rw [Int64.toBitVec_and, Int64.toBitVec_shiftRight]
  have e1 : (lZ (m : Int)).toBitVec = BitVec.ofNat 64 m := by
    show BitVec.ofInt 64 (m : Int) = _
    simp
  have e3 : (lZ (1 : Int)).toBitVec = 1#64 := rfl
  have e2 : (lZ ((m : Int) / 2 ^ ((n : Int).toNat) % 2)).toBitVec = BitVec.ofNat 64 (m / 2 ^ n % 2) := by
    show BitVec.ofInt 64 _ = _
    have : ((m : Int) / 2 ^ ((n : Int).toNat) % 2) = ((m / 2 ^ n % 2 : Nat) : Int) := by simp
    rw [this]
    exact BitVec.ofInt_natCast _ _
  rw [e1, e2, e3]
  apply BitVec.eq_of_toNat_eq
  rw [BitVec.toNat_and, BitVec.sshiftRight_eq', k]
  rw [BitVec.sshiftRight_eq_of_msb_false]
  · simp [Nat.shiftRight_eq_div_pow]
    have : m % 18446744073709551616 = m := by omega
    rw [this]
    omega
  · rw [BitVec.msb_eq_false_iff_two_mul_lt]
    simp
    omega
theorem sh_bit (w : Int) {b : Int} (hb : 0 ≤ b) : w / 2 ^ b.toNat = 2 * (w / 2 ^ (b + 1).toNat) + w / 2 ^ b.toNat % 2 := by
  have e : (b + 1).toNat = b.toNat + 1 := by omega
  rw [e, Int.pow_succ, Int.mul_comm, ← Int.ediv_ediv_of_nonneg (by exact Int.le_of_lt (Int.pow_pos (by decide)))]
  omega
theorem sh_1 {q r W A v : Int} (h : q * W + r = A * v) : 2 * q * W + 2 * r = A * (2 * v) := by grind
theorem sh_2 {q r W x : Int} (h : q * W + r = x) : (q + 1) * W + (r - W) = x := by grind
theorem sh_3 {q r W A x : Int} (h : q * W + r = A * x) : (q + A / W) * W + (r + A % W) = A * (x + 1) := by
  have e := Int.emod_add_mul_ediv A W
  grind
theorem sh_end {q r W A w : Int} (hr : 0 ≤ r ∧ r < W) (h : q * W + r = A * w) : q = A * w / W ∧ r = A * w % W := by
  rw [← h]
  constructor
  · rw [Int.add_comm, Int.add_mul_ediv_right _ _ (by omega), Int.ediv_eq_zero_of_lt hr.1 hr.2]; omega
  · rw [Int.add_comm, Int.add_mul_emod_self_right, Int.emod_eq_of_lt hr.1 hr.2]
theorem sm_to0 (f : Int → Int) {i : Int} (h : 0 ≤ i) (h0 : f 0 = 0) : sm f (i + 1 - 1).toNat = sm f (i - 1).toNat + f i := by
  by_cases e : i = 0
  · subst e; rw [h0]; rfl
  · exact sm_to f (by omega)
/-- the number of the greatest of r 0 .. r n, the first of equals -/
def amM (r : Int → Int) : Nat → Int
  | 0 => 0
  | n + 1 => if r (amM r n) < r (n + 1) then n + 1 else amM r n
theorem amM_in (r : Int → Int) : ∀ n : Nat, 0 ≤ amM r n ∧ amM r n ≤ n
  | 0 => ⟨Int.le_refl _, Int.le_refl _⟩
  | n + 1 => by
    have h := amM_in r n
    show 0 ≤ (if r (amM r n) < r (n + 1) then (n : Int) + 1 else amM r n) ∧ (if r (amM r n) < r (n + 1) then (n : Int) + 1 else amM r n) ≤ ((n + 1 : Nat) : Int)
    split <;> omega
theorem amM_to (r : Int → Int) {i : Int} (h : 1 ≤ i) : amM r (i + 1 - 1).toNat = if r (amM r (i - 1).toNat) < r i then i else amM r (i - 1).toNat := by
  obtain ⟨n, rfl⟩ : ∃ n : Nat, i = n + 1 := ⟨(i - 1).toNat, by omega⟩
  rw [show ((n : Int) + 1 + 1 - 1).toNat = n + 1 by omega, show ((n : Int) + 1 - 1).toNat = n by omega]
  rfl
def rsim (r R : Int → Int) : Prop := (∀ j, 1 ≤ j → j ≤ 40 → (0 < R j → r j = R j) ∧ (R j ≤ 0 → r j ≤ 0)) ∧ r 0 ≤ 0
theorem amM_am {r R : Int → Int} (h : rsim r R) : ∀ n : Nat, n ≤ 39 → (0 < R (am R n) → amM r (n + 1) = am R n) ∧ (R (am R n) ≤ 0 → r (amM r (n + 1)) ≤ 0)
  | 0, _ => by
    have h0 := h.2
    obtain ⟨h1, h2⟩ := h.1 1 (by decide) (by decide)
    show (0 < R 1 → (if r 0 < r (((0 : Nat) : Int) + 1) then ((0 : Nat) : Int) + 1 else 0) = 1) ∧ (R 1 ≤ 0 → r (if r 0 < r (((0 : Nat) : Int) + 1) then ((0 : Nat) : Int) + 1 else 0) ≤ 0)
    have e : ((0 : Nat) : Int) + 1 = 1 := rfl
    rw [e]
    refine ⟨fun hp => ?_, fun hp => ?_⟩
    · rw [if_pos (by have := h1 hp; omega)]
    · have := h2 hp
      split <;> omega
  | n + 1, hn => by
    obtain ⟨i1, i2⟩ := amM_am h n (by omega)
    have ha := am_in R n
    obtain ⟨h1, h2⟩ := h.1 (n + 2) (by omega) (by omega)
    obtain ⟨h3, h4⟩ := h.1 (am R n) (by omega) (by omega)
    have e : ((n + 1 : Nat) : Int) + 1 = (n : Int) + 2 := by omega
    show (0 < R (if R (am R n) < R (n + 2) then (n : Int) + 2 else am R n) → (if r (amM r (n + 1)) < r (((n + 1 : Nat) : Int) + 1) then ((n + 1 : Nat) : Int) + 1 else amM r (n + 1)) = (if R (am R n) < R (n + 2) then (n : Int) + 2 else am R n)) ∧ (R (if R (am R n) < R (n + 2) then (n : Int) + 2 else am R n) ≤ 0 → r (if r (amM r (n + 1)) < r (((n + 1 : Nat) : Int) + 1) then ((n + 1 : Nat) : Int) + 1 else amM r (n + 1)) ≤ 0)
    rw [e]
    by_cases hp : 0 < R (am R n)
    · have ei := i1 hp
      have e3 := h3 hp
      rw [ei]
      by_cases hc : R (am R n) < R (n + 2)
      · have e1 := h1 (by omega)
        rw [if_pos hc, if_pos (by omega)]
        exact ⟨fun _ => rfl, fun h9 => by omega⟩
      · rw [if_neg hc, if_neg (by by_cases h9 : 0 < R (n + 2); (have := h1 h9; omega); (have := h2 (by omega); omega))]
        exact ⟨fun _ => rfl, fun h9 => by omega⟩
    · have ei := i2 (by omega)
      by_cases hc : R (am R n) < R (n + 2)
      · rw [if_pos hc]
        refine ⟨fun h9 => ?_, fun h9 => ?_⟩
        · rw [if_pos (by have := h1 h9; omega)]
        · have := h2 h9
          split <;> omega
      · rw [if_neg hc]
        refine ⟨fun h9 => absurd h9 hp, fun h9 => ?_⟩
        have := h2 (by omega)
        split <;> omega
theorem pk_next {s r s0 r0 : Int → Int} {W : Int} {m n : Nat} (hW : 0 < W) (hr0 : ∀ j, 1 ≤ j → j ≤ 40 → 0 ≤ r0 j ∧ r0 j < W) (hm : sm r0 40 = m * W) (hn : n < m) (hs : ∀ j, 1 ≤ j → j ≤ 40 → s j = (pk s0 r0 n).1 j) (hr : rsim r (pk s0 r0 n).2) : (1 ≤ amM r 40 ∧ amM r 40 ≤ 40) ∧ (∀ j, 1 ≤ j → j ≤ 40 → up1 s (amM r 40) (s (amM r 40) + 1) j = (pk s0 r0 (n + 1)).1 j) ∧ rsim (up1 r (amM r 40) (-1)) (pk s0 r0 (n + 1)).2 := by
  have hp := pk_pos (s := s0) hW hr0 hm hn
  have ea := (amM_am hr 39 (by decide)).1 hp
  have hi := am_in (pk s0 r0 n).2 39
  rw [show 39 + 1 = 40 from rfl] at ea
  rw [ea]
  refine ⟨by omega, fun j j0 j1 => ?_, fun j j0 j1 => ?_, ?_⟩
  · show _ = up1 (pk s0 r0 n).1 (am (pk s0 r0 n).2 39) ((pk s0 r0 n).1 (am (pk s0 r0 n).2 39) + 1) j
    by_cases e : j = am (pk s0 r0 n).2 39
    · rw [← e, up1_s, up1_s, hs j j0 j1]
    · rw [up1_o _ e, up1_o _ e, hs j j0 j1]
  · show (0 < up1 (pk s0 r0 n).2 (am (pk s0 r0 n).2 39) (-1) j → up1 r _ _ j = up1 (pk s0 r0 n).2 (am (pk s0 r0 n).2 39) (-1) j) ∧ (up1 (pk s0 r0 n).2 (am (pk s0 r0 n).2 39) (-1) j ≤ 0 → _)
    by_cases e : j = am (pk s0 r0 n).2 39
    · rw [← e, up1_s, up1_s]; omega
    · rw [up1_o _ e, up1_o _ e]; exact hr.1 j j0 j1
  · rw [up1_o _ (by omega)]; exact hr.2
/-- what has no weight gets nothing -/
theorem spl_zero {w : Int → Int} {A j : Int} (hj : 1 ≤ j ∧ j ≤ 40) (h0 : w j = 0) : spl w A j = 0 := by
  unfold spl
  split
  · rfl
  · next h =>
    have hW : 0 < sm w 40 := by omega
    have hl := lck_in (A := A) hW
    have hm : sm (rs w A) 40 = (((lck w A).toNat : Nat) : Int) * sm w 40 := by rw [rs_sm, show (((lck w A).toNat : Nat) : Int) = lck w A by omega]
    have key : ∀ n : Nat, n ≤ (lck w A).toNat → (pk (bs w A) (rs w A) n).1 j = 0 ∧ (pk (bs w A) (rs w A) n).2 j = 0 := by
      intro n
      induction n with
      | zero =>
        intro _
        show A * w j / sm w 40 = 0 ∧ A * w j % sm w 40 = 0
        rw [h0, Int.mul_zero]
        exact ⟨Int.zero_ediv _, Int.zero_emod _⟩
      | succ n ih =>
        intro hn
        obtain ⟨i1, i2⟩ := ih (by omega)
        have hp := pk_pos (s := bs w A) hW (fun j _ _ => rs_in (A := A) hW j) hm (n := n) (by omega)
        have e : j ≠ am (pk (bs w A) (rs w A) n).2 39 := fun e => by rw [← e] at hp; omega
        show up1 (pk (bs w A) (rs w A) n).1 _ _ j = 0 ∧ up1 (pk (bs w A) (rs w A) n).2 _ _ j = 0
        rw [up1_o _ e, up1_o _ e]
        exact ⟨i1, i2⟩
    exact (key _ (Nat.le_refl _)).1
theorem spl_none {w : Int → Int} {A j : Int} (h : sm w 40 = 0 ∨ A = 0) : spl w A j = 0 := if_pos (by omega)
/-- before the first pick -/
theorem rs_start {w r : Int → Int} {A : Int} (hW : 0 < sm w 40) (hw : ∀ j, 1 ≤ j → j ≤ 40 → 0 ≤ w j) (h0 : r 0 ≤ 0) (hr : ∀ j, 1 ≤ j → j ≤ 40 → r j = if 0 < w j then A * w j % sm w 40 else -1) : rsim r (pk (bs w A) (rs w A) 0).2 := by
  refine ⟨fun j j0 j1 => ?_, h0⟩
  show (0 < rs w A j → r j = rs w A j) ∧ (rs w A j ≤ 0 → r j ≤ 0)
  rw [hr j j0 j1]
  by_cases e : 0 < w j
  · rw [if_pos e]; exact ⟨fun _ => rfl, fun h => h⟩
  · have z : w j = 0 := by have := hw j j0 j1; omega
    rw [if_neg e]
    have : rs w A j = 0 := by unfold rs; rw [z, Int.mul_zero]; exact Int.zero_emod _
    omega
theorem spl_at {w s : Int → Int} {A : Int} (hA : 0 ≤ A) (hW : 0 < sm w 40) (hs : ∀ j, 1 ≤ j → j ≤ 40 → s j = (pk (bs w A) (rs w A) (lck w A).toNat).1 j) {j : Int} (hj : 1 ≤ j ∧ j ≤ 40) : s j = spl w A j := by
  by_cases e : A = 0
  · subst e
    have z : ∀ j, bs w 0 j = 0 := fun j => by unfold bs; rw [Int.zero_mul]; exact Int.zero_ediv _
    have zl : lck w 0 = 0 := by unfold lck; rw [sm_zero 40 (fun j _ _ => z j)]; rfl
    rw [spl_none (Or.inr rfl), hs j hj.1 hj.2, zl]
    exact z j
  · unfold spl
    rw [if_neg (by omega)]
    exact hs j hj.1 hj.2
