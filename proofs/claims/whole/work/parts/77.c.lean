/-! dividing by the largest rests -/
theorem sp_step {q r W p v d v2 : Int} (h : q * W + r = p * v) (hv : v2 = 1000 * v + d) : (q * 1000 + (r * 1000 + p * d) / W) * W + (r * 1000 + p * d) % W = p * v2 := by
  have e := Int.emod_add_mul_ediv (r * 1000 + p * d) W
  subst hv
  grind
theorem sp_end {A W w q r : Int} (hW : 0 < W) (h : q * W + r = A % W * w) (hr : 0 ≤ r ∧ r < W) : A / W * w + q = A * w / W ∧ r = A * w % W := by
  have e := Int.emod_add_mul_ediv A W
  have e2 : A * w = (A / W * w + q) * W + r := by
    have : A * w = (A % W + W * (A / W)) * w := by rw [e]
    grind
  constructor
  · rw [e2, Int.add_comm ((A / W * w + q) * W) r, Int.add_mul_ediv_right _ _ (by omega), Int.ediv_eq_zero_of_lt hr.1 hr.2]; omega
  · rw [e2, Int.add_comm ((A / W * w + q) * W) r, Int.add_mul_emod_self_right, Int.emod_eq_of_lt hr.1 hr.2]
/-- the number of the greatest of r 1 .. r (n + 1), the first of equals -/
def am (r : Int → Int) : Nat → Int
  | 0 => 1
  | n + 1 => if r (am r n) < r (n + 2) then n + 2 else am r n
theorem am_in (r : Int → Int) : ∀ n : Nat, 1 ≤ am r n ∧ am r n ≤ n + 1
  | 0 => by show (1 : Int) ≤ 1 ∧ (1 : Int) ≤ ((0 : Nat) : Int) + 1; omega
  | n + 1 => by
    have h := am_in r n
    show 1 ≤ (if r (am r n) < r (n + 2) then (n : Int) + 2 else am r n) ∧ (if r (am r n) < r (n + 2) then (n : Int) + 2 else am r n) ≤ ((n + 1 : Nat) : Int) + 1
    split <;> omega
theorem am_to (r : Int → Int) {i : Int} (h : 2 ≤ i) : am r (i + 1 - 2).toNat = if r (am r (i - 2).toNat) < r i then i else am r (i - 2).toNat := by
  obtain ⟨n, rfl⟩ : ∃ n : Nat, i = n + 2 := ⟨(i - 2).toNat, by omega⟩
  rw [show ((n : Int) + 2 + 1 - 2).toNat = n + 1 by omega, show ((n : Int) + 2 - 2).toNat = n by omega]
  rfl
/-- n times one more for the greatest rest -/
def pk (s r : Int → Int) : Nat → (Int → Int) × (Int → Int)
  | 0 => (s, r)
  | n + 1 => (up1 (pk s r n).1 (am (pk s r n).2 39) ((pk s r n).1 (am (pk s r n).2 39) + 1), up1 (pk s r n).2 (am (pk s r n).2 39) (-1))
theorem am_congr {r r2 : Int → Int} (h : ∀ j, 1 ≤ j → j ≤ 40 → r j = r2 j) : ∀ n : Nat, n ≤ 39 → am r n = am r2 n
  | 0, _ => rfl
  | n + 1, hn => by
    have ih := am_congr h n (by omega)
    have hi := am_in r2 n
    show (if r (am r n) < r (n + 2) then (n : Int) + 2 else am r n) = (if r2 (am r2 n) < r2 (n + 2) then (n : Int) + 2 else am r2 n)
    rw [ih, h (am r2 n) (by omega) (by omega), h (n + 2) (by omega) (by omega)]
theorem pk_congr {s s2 r r2 : Int → Int} (hs : ∀ j, 1 ≤ j → j ≤ 40 → s j = s2 j) (hr : ∀ j, 1 ≤ j → j ≤ 40 → r j = r2 j) : ∀ n : Nat, ∀ j, 1 ≤ j → j ≤ 40 → (pk s r n).1 j = (pk s2 r2 n).1 j ∧ (pk s r n).2 j = (pk s2 r2 n).2 j
  | 0 => fun j j0 j1 => ⟨hs j j0 j1, hr j j0 j1⟩
  | n + 1 => fun j j0 j1 => by
    have ih := pk_congr hs hr n
    have e := am_congr (fun j j0 j1 => (ih j j0 j1).2) 39 (by decide)
    have hi := am_in (pk s2 r2 n).2 39
    show up1 (pk s r n).1 (am (pk s r n).2 39) ((pk s r n).1 (am (pk s r n).2 39) + 1) j = up1 (pk s2 r2 n).1 (am (pk s2 r2 n).2 39) ((pk s2 r2 n).1 (am (pk s2 r2 n).2 39) + 1) j ∧ up1 (pk s r n).2 (am (pk s r n).2 39) (-1) j = up1 (pk s2 r2 n).2 (am (pk s2 r2 n).2 39) (-1) j
    rw [e]
    by_cases e2 : j = am (pk s2 r2 n).2 39
    · rw [← e2, up1_s, up1_s, up1_s, up1_s, (ih j j0 j1).1]
      exact ⟨rfl, rfl⟩
    · rw [up1_o _ e2, up1_o _ e2, up1_o _ e2, up1_o _ e2]
      exact ih j j0 j1
/-- rests that can be: below W and not below -1, and what is above 0 of them sums up to at least (m - n) W after n picks -/
def ps (r : Int → Int) (n : Nat) : Int := sm (fun j => max (r j) 0) n
theorem am_max (r : Int → Int) : ∀ n : Nat, ∀ j : Int, 1 ≤ j → j ≤ n + 1 → r j ≤ r (am r n)
  | 0 => fun j j0 j1 => by
    have : j = 1 := by omega
    subst this
    exact Int.le_refl _
  | n + 1 => fun j j0 j1 => by
    have ih := am_max r n
    show r j ≤ r (if r (am r n) < r (n + 2) then (n : Int) + 2 else am r n)
    split
    · next h =>
      by_cases e : j = (n : Int) + 2
      · rw [e]; exact Int.le_refl _
      · have := ih j j0 (by omega); omega
    · next h =>
      by_cases e : j = (n : Int) + 2
      · rw [e]; omega
      · exact ih j j0 (by omega)
theorem sm_up {f : Int → Int} {i v : Int} : ∀ n : Nat, sm (up1 f i v) n = sm f n + (if 1 ≤ i ∧ i ≤ n then v - f i else 0)
  | 0 => by rw [if_neg (by omega)]; rfl
  | n + 1 => by
    show sm (up1 f i v) n + up1 f i v (n + 1) = sm f n + f (n + 1) + _
    rw [sm_up n]
    by_cases e : (n : Int) + 1 = i
    · rw [← e, up1_s, if_neg (by omega), if_pos (by omega)]; omega
    · rw [up1_o _ e]
      by_cases e2 : 1 ≤ i ∧ i ≤ (n : Int)
      · rw [if_pos e2, if_pos (by omega)]; omega
      · rw [if_neg e2, if_neg (by omega)]; omega
theorem sm_mul (f : Int → Int) (W : Int) : ∀ n : Nat, sm (fun j => f j * W) n = sm f n * W
  | 0 => by simp [sm]
  | n + 1 => by
    show sm (fun j => f j * W) n + f (n + 1) * W = (sm f n + f (n + 1)) * W
    rw [sm_mul f W n, Int.add_mul]
theorem sm_add (f k : Int → Int) : ∀ n : Nat, sm (fun j => f j + k j) n = sm f n + sm k n
  | 0 => by simp [sm]
  | n + 1 => by
    show sm (fun j => f j + k j) n + (f (n + 1) + k (n + 1)) = (sm f n + f (n + 1)) + (sm k n + k (n + 1))
    rw [sm_add f k n]; omega
theorem ps_zero {r : Int → Int} (h : ∀ j, 1 ≤ j → j ≤ 40 → r j ≤ 0) : ∀ n : Nat, n ≤ 40 → ps r n = 0
  | 0, _ => rfl
  | n + 1, hn => by
    have ih := ps_zero h n (by omega)
    have h1 := h (n + 1) (by omega) (by omega)
    show ps r n + max (r (n + 1)) 0 = 0
    omega
/-- after n of m picks there is still enough above 0 -/
theorem pk_inv {s r : Int → Int} {W : Int} {m : Nat} (hW : 0 < W) (hr : ∀ j, 1 ≤ j → j ≤ 40 → 0 ≤ r j ∧ r j < W) (hm : sm r 40 = m * W) : ∀ n : Nat, n ≤ m → (∀ j, 1 ≤ j → j ≤ 40 → -1 ≤ (pk s r n).2 j ∧ (pk s r n).2 j < W) ∧ ((m : Int) - n) * W ≤ ps (pk s r n).2 40
  | 0, _ => by
    refine ⟨fun j j0 j1 => by have := hr j j0 j1; show -1 ≤ r j ∧ r j < W; omega, ?_⟩
    have e : ps r 40 = sm r 40 := sm_congr (fun j j0 j1 => by have := hr j j0 j1; show max (r j) 0 = r j; omega) 40 (by decide)
    show ((m : Int) - (0 : Nat)) * W ≤ ps r 40
    rw [e, hm]
    simp
  | n + 1, hn => by
    obtain ⟨h1, h2⟩ := pk_inv (s := s) hW hr hm n (by omega)
    have hi := am_in (pk s r n).2 39
    have hg := h1 (am (pk s r n).2 39) (by omega) (by omega)
    refine ⟨fun j j0 j1 => ?_, ?_⟩
    · show -1 ≤ up1 (pk s r n).2 (am (pk s r n).2 39) (-1) j ∧ up1 (pk s r n).2 (am (pk s r n).2 39) (-1) j < W
      by_cases e : j = am (pk s r n).2 39
      · rw [← e, up1_s]; omega
      · rw [up1_o _ e]; exact h1 j j0 j1
    · have e : ps (up1 (pk s r n).2 (am (pk s r n).2 39) (-1)) 40 = ps (pk s r n).2 40 + (0 - max ((pk s r n).2 (am (pk s r n).2 39)) 0) := by
        have e1 : (fun j => max (up1 (pk s r n).2 (am (pk s r n).2 39) (-1) j) 0) = up1 (fun j => max ((pk s r n).2 j) 0) (am (pk s r n).2 39) 0 := by
          funext j
          by_cases e : j = am (pk s r n).2 39
          · rw [← e, up1_s, up1_s]; rfl
          · rw [up1_o _ e, up1_o _ e]
        unfold ps
        rw [e1, sm_up, if_pos (by omega)]
      show ((m : Int) - ((n + 1 : Nat) : Int)) * W ≤ ps (up1 (pk s r n).2 (am (pk s r n).2 39) (-1)) 40
      rw [e]
      have e3 : ((m : Int) - ((n + 1 : Nat) : Int)) * W = ((m : Int) - n) * W - W := by
        have : ((m : Int) - ((n + 1 : Nat) : Int)) = ((m : Int) - n) - 1 := by omega
        rw [this, Int.sub_mul, Int.one_mul]
      rw [e3]
      omega
theorem pk_pos {s r : Int → Int} {W : Int} {m : Nat} (hW : 0 < W) (hr : ∀ j, 1 ≤ j → j ≤ 40 → 0 ≤ r j ∧ r j < W) (hm : sm r 40 = m * W) {n : Nat} (hn : n < m) : 0 < (pk s r n).2 (am (pk s r n).2 39) := by
  obtain ⟨h1, h2⟩ := pk_inv (s := s) hW hr hm n (by omega)
  by_cases h : 0 < (pk s r n).2 (am (pk s r n).2 39)
  · exact h
  · exfalso
    have h3 := ps_zero (r := (pk s r n).2) (fun j j0 j1 => by have := am_max (pk s r n).2 39 j j0 (by omega); omega) 40 (by decide)
    have h4 : W ≤ ((m : Int) - n) * W := by
      have : 1 * W ≤ ((m : Int) - n) * W := Int.mul_le_mul_of_nonneg_right (by omega) (by omega)
      omega
    omega
/-- shares and rests of A by the weights w -/
def bs (w : Int → Int) (A j : Int) : Int := A * w j / sm w 40
def rs (w : Int → Int) (A j : Int) : Int := A * w j % sm w 40
def lck (w : Int → Int) (A : Int) : Int := A - sm (bs w A) 40
def spl (w : Int → Int) (A j : Int) : Int := if sm w 40 ≤ 0 ∨ A ≤ 0 then 0 else (pk (bs w A) (rs w A) (lck w A).toNat).1 j
theorem rs_in {w : Int → Int} {A : Int} (hW : 0 < sm w 40) (j : Int) : 0 ≤ rs w A j ∧ rs w A j < sm w 40 := ⟨Int.emod_nonneg _ (by omega), Int.emod_lt_of_pos _ hW⟩
theorem rs_sm {w : Int → Int} {A : Int} : sm (rs w A) 40 = lck w A * sm w 40 := by
  have e : sm (fun j => bs w A j * sm w 40 + rs w A j) 40 = A * sm w 40 := by
    have e1 : (fun j => bs w A j * sm w 40 + rs w A j) = fun j => w j * A := by
      funext j
      have := Int.emod_add_mul_ediv (A * w j) (sm w 40)
      unfold bs rs
      rw [Int.mul_comm (w j) A, Int.mul_comm (A * w j / sm w 40)]
      omega
    rw [e1, sm_mul, Int.mul_comm]
  rw [sm_add, sm_mul] at e
  unfold lck
  rw [Int.sub_mul]
  omega
theorem lck_in {w : Int → Int} {A : Int} (hW : 0 < sm w 40) : 0 ≤ lck w A ∧ lck w A < 40 := by
  have e := rs_sm (w := w) (A := A)
  have h := sm_le (f := rs w A) (B := sm w 40 - 1) (fun j _ _ => by have := rs_in (A := A) hW j; omega) 40 (by decide)
  constructor
  · apply Int.not_lt.mp
    intro h9
    have : lck w A * sm w 40 < 0 := Int.mul_neg_of_neg_of_pos h9 hW
    omega
  · apply Int.not_le.mp
    intro h9
    have : 40 * sm w 40 ≤ lck w A * sm w 40 := Int.mul_le_mul_of_nonneg_right h9 (by omega)
    omega
theorem bs_in {w : Int → Int} {A : Int} (hA : 0 ≤ A) (hw : ∀ j, 1 ≤ j → j ≤ 40 → 0 ≤ w j) (hW : 0 < sm w 40) {j : Int} (hj : 1 ≤ j ∧ j ≤ 40) : 0 ≤ bs w A j ∧ bs w A j ≤ A := by
  have h0 : 0 ≤ A * w j := Int.mul_nonneg hA (hw j hj.1 hj.2)
  have hle : w j ≤ sm w 40 := by
    have key : ∀ n : Nat, n ≤ 40 → 0 ≤ sm w n ∧ (j ≤ n → w j ≤ sm w n) := by
      intro n
      induction n with
      | zero => intro _; exact ⟨Int.le_refl _, fun h => by omega⟩
      | succ n ih =>
        intro hn
        have h1 := hw (n + 1) (by omega) (by omega)
        have ih := ih (by omega)
        show 0 ≤ sm w n + w (n + 1) ∧ (j ≤ ((n + 1 : Nat) : Int) → w j ≤ sm w n + w (n + 1))
        refine ⟨by omega, fun h => ?_⟩
        by_cases e : j = (n : Int) + 1
        · rw [e]; omega
        · have := ih.2 (by omega); omega
    exact (key 40 (by decide)).2 (by omega)
  constructor
  · exact Int.ediv_nonneg h0 (by omega)
  · unfold bs
    apply Int.ediv_le_of_le_mul hW
    exact Int.mul_le_mul_of_nonneg_left hle hA
