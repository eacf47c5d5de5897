/-! handing out -/
/-- v n added at place p n, where q n, for the first n -/
def ac (q : Int → Bool) (p v l : Int → Int) : Nat → Int → Int
  | 0 => l
  | n + 1 => if q (n + 1) = true then up1 (ac q p v l n) (p (n + 1)) (ac q p v l n (p (n + 1)) + v (n + 1)) else ac q p v l n
theorem ac_to (q : Int → Bool) (p v l : Int → Int) {i : Int} (h : 1 ≤ i) : ac q p v l (i + 1 - 1).toNat = if q i = true then up1 (ac q p v l (i - 1).toNat) (p i) (ac q p v l (i - 1).toNat (p i) + v i) else ac q p v l (i - 1).toNat := by
  obtain ⟨n, rfl⟩ : ∃ n : Nat, i = n + 1 := ⟨(i - 1).toNat, by omega⟩
  rw [show ((n : Int) + 1 + 1 - 1).toNat = n + 1 by omega, show ((n : Int) + 1 - 1).toNat = n by omega]
  rfl
/-- p n laid at place a n, where q n -/
def ho (q : Int → Bool) (a p l : Int → Int) : Nat → Int → Int
  | 0 => l
  | n + 1 => if q (n + 1) = true then up1 (ho q a p l n) (a (n + 1)) (p (n + 1)) else ho q a p l n
theorem ho_to (q : Int → Bool) (a p l : Int → Int) {i : Int} (h : 1 ≤ i) : ho q a p l (i + 1 - 1).toNat = if q i = true then up1 (ho q a p l (i - 1).toNat) (a i) (p i) else ho q a p l (i - 1).toNat := by
  obtain ⟨n, rfl⟩ : ∃ n : Nat, i = n + 1 := ⟨(i - 1).toNat, by omega⟩
  rw [show ((n : Int) + 1 + 1 - 1).toNat = n + 1 by omega, show ((n : Int) + 1 - 1).toNat = n by omega]
  rfl
theorem ac_congr {q q2 : Int → Bool} {p p2 v v2 l l2 : Int → Int} (h : ∀ j, 1 ≤ j → j ≤ 40 → q j = q2 j ∧ (q j = true → p j = p2 j ∧ v j = v2 j ∧ 0 ≤ p j ∧ p j ≤ 40)) (hl : ∀ b, 0 ≤ b → b ≤ 40 → l b = l2 b) : ∀ n : Nat, n ≤ 40 → ∀ b, 0 ≤ b → b ≤ 40 → ac q p v l n b = ac q2 p2 v2 l2 n b
  | 0, _ => hl
  | n + 1, hn => by
    intro b b0 b1
    have ih := ac_congr h hl n (by omega)
    have h1 := h (n + 1) (by omega) (by omega)
    show (if q (n + 1) = true then up1 (ac q p v l n) (p (n + 1)) (ac q p v l n (p (n + 1)) + v (n + 1)) else ac q p v l n) b = (if q2 (n + 1) = true then up1 (ac q2 p2 v2 l2 n) (p2 (n + 1)) (ac q2 p2 v2 l2 n (p2 (n + 1)) + v2 (n + 1)) else ac q2 p2 v2 l2 n) b
    by_cases e : q (n + 1) = true
    · obtain ⟨e1, e2, e3, e4⟩ := h1.2 e
      rw [if_pos e, if_pos (h1.1 ▸ e), ← e1, ← e2, ih _ e3 e4]
      by_cases e5 : b = p (n + 1)
      · rw [e5, up1_s, up1_s]
      · rw [up1_o _ e5, up1_o _ e5]; exact ih b b0 b1
    · rw [if_neg e, if_neg (h1.1 ▸ e)]; exact ih b b0 b1
theorem ho_congr {q q2 : Int → Bool} {a a2 p p2 l l2 : Int → Int} (h : ∀ j, 1 ≤ j → j ≤ 40 → q j = q2 j ∧ (q j = true → a j = a2 j ∧ p j = p2 j)) (hl : ∀ b, 0 ≤ b → b ≤ 40 → l b = l2 b) : ∀ n : Nat, n ≤ 40 → ∀ b, 0 ≤ b → b ≤ 40 → ho q a p l n b = ho q2 a2 p2 l2 n b
  | 0, _ => hl
  | n + 1, hn => by
    intro b b0 b1
    have ih := ho_congr h hl n (by omega)
    have h1 := h (n + 1) (by omega) (by omega)
    show (if q (n + 1) = true then up1 (ho q a p l n) (a (n + 1)) (p (n + 1)) else ho q a p l n) b = (if q2 (n + 1) = true then up1 (ho q2 a2 p2 l2 n) (a2 (n + 1)) (p2 (n + 1)) else ho q2 a2 p2 l2 n) b
    by_cases e : q (n + 1) = true
    · obtain ⟨e1, e2⟩ := h1.2 e
      rw [if_pos e, if_pos (h1.1 ▸ e), ← e1, ← e2]
      by_cases e5 : b = a (n + 1)
      · rw [e5, up1_s, up1_s]
      · rw [up1_o _ e5, up1_o _ e5]; exact ih b b0 b1
    · rw [if_neg e, if_neg (h1.1 ▸ e)]; exact ih b b0 b1
theorem tkL_congr {q q2 : Int → Bool} {a a2 w w2 l l2 : Int → Int} (h : ∀ j, 1 ≤ j → j ≤ 40 → q j = q2 j ∧ (q j = true → a j = a2 j ∧ w j = w2 j ∧ 0 ≤ a j ∧ a j ≤ 40)) (hl : ∀ b, 0 ≤ b → b ≤ 40 → l b = l2 b) : ∀ n : Nat, n ≤ 40 → ∀ b, 0 ≤ b → b ≤ 40 → tkL q a w l n b = tkL q2 a2 w2 l2 n b
  | 0, _ => hl
  | n + 1, hn => by
    intro b b0 b1
    have ih := tkL_congr h hl n (by omega)
    have h1 := h (n + 1) (by omega) (by omega)
    show (if q (n + 1) = true then up1 (tkL q a w l n) (a (n + 1)) (tkL q a w l n (a (n + 1)) - min (w (n + 1)) (tkL q a w l n (a (n + 1)))) else tkL q a w l n) b = (if q2 (n + 1) = true then up1 (tkL q2 a2 w2 l2 n) (a2 (n + 1)) (tkL q2 a2 w2 l2 n (a2 (n + 1)) - min (w2 (n + 1)) (tkL q2 a2 w2 l2 n (a2 (n + 1)))) else tkL q2 a2 w2 l2 n) b
    by_cases e : q (n + 1) = true
    · obtain ⟨e1, e2, e3, e4⟩ := h1.2 e
      rw [if_pos e, if_pos (h1.1 ▸ e), ← e1, ← e2, ih _ e3 e4]
      by_cases e5 : b = a (n + 1)
      · rw [e5, up1_s, up1_s]
      · rw [up1_o _ e5, up1_o _ e5]; exact ih b b0 b1
    · rw [if_neg e, if_neg (h1.1 ▸ e)]; exact ih b b0 b1
theorem tkO_congr {q q2 : Int → Bool} {a a2 w w2 l l2 : Int → Int} (h : ∀ j, 1 ≤ j → j ≤ 40 → q j = q2 j ∧ (q j = true → a j = a2 j ∧ w j = w2 j ∧ 0 ≤ a j ∧ a j ≤ 40)) (hl : ∀ b, 0 ≤ b → b ≤ 40 → l b = l2 b) {i : Int} (hi : 1 ≤ i ∧ i ≤ 40) : tkO q a w l i = tkO q2 a2 w2 l2 i := by
  unfold tkO
  have h1 := h i hi.1 hi.2
  by_cases e : q i = true
  · obtain ⟨e1, e2, e3, e4⟩ := h1.2 e
    rw [if_pos e, if_pos (h1.1 ▸ e), ← e1, ← e2, tkL_congr h hl (i - 1).toNat (by omega) _ e3 e4]
  · rw [if_neg e, if_neg (h1.1 ▸ e)]
/-- a clause that hands out its asset, one that hands out money -/
def hq1 (I : ed_I) (c : Int) : Bool := decide (I 62 c ≠ 0 ∧ I 15 c = 1)
def hq2 (I : ed_I) (c : Int) : Bool := decide (I 62 c ≠ 0 ∧ I 15 c ≠ 1)
def hcs (L : ed_L) (c : Int) : Int := L 68 c + (L 63 c + L 64 c + L 65 c - L 67 c)
set_option maxRecDepth 100000 in
set_option maxHeartbeats 4000000 in
theorem cS_handOut {g : ed_g} {l : Launch} (hl : l.stackTraces = false) {I : ed_I} {L : ed_L} (hgt : ∀ j, 1 ≤ j → j ≤ 40 → 0 ≤ I 62 j ∧ I 62 j ≤ 40) (hkd : ∀ j, 0 ≤ j → j ≤ 40 → 0 ≤ I 15 j ∧ I 15 j ≤ 4) (has : ∀ j, 0 ≤ j → j ≤ 40 → 0 ≤ I 17 j ∧ I 17 j ≤ 40) {post : ed_post} (hn : ∀ h f p d c : Int → Int, h = ho (hq1 I) (I 17) (I 62) (I 13) 40 → f = ac (hq1 I) (I 62) (fun c => L 8 (I 17 c)) (L 3) 40 → p = ac (hq1 I) (I 62) (fun c => L 8 (I 17 c) - L 63 c + L 67 c) (L 5) 40 → d = ac (hq2 I) (I 62) (hcs L) (L 4) 40 → (∀ j, 1 ≤ j → j ≤ 40 → c j = if hq2 I j = true then hcs L j else L 68 j) → post (.inl none) Yw (setR I 13 h) (setR (setR (setR (setR L 3 f) 5 p) 68 c) 4 d)) : ed_Ct g l mS_handOut 4 0 0 [.ref 74] Yw I L post := by
  refine ed_Ct.of hl rfl (Nat.le_of_ble_eq_true rfl) (fun x _ C => ?_)
  show Gd g x post _ _ _ _ _ _ _ _ 0 [(0, _)] []
  have loop : ∀ (q : Nat) (i : Int) (h f p d c : Int → Int), (41 - i).toNat < q → 1 ≤ i ∧ i ≤ 41 → h = ho (hq1 I) (I 17) (I 62) (I 13) (i - 1).toNat → f = ac (hq1 I) (I 62) (fun c => L 8 (I 17 c)) (L 3) (i - 1).toNat → p = ac (hq1 I) (I 62) (fun c => L 8 (I 17 c) - L 63 c + L 67 c) (L 5) (i - 1).toNat → d = ac (hq2 I) (I 62) (hcs L) (L 4) (i - 1).toNat → (∀ j, 1 ≤ j → j < i → c j = if hq2 I j = true then hcs L j else L 68 j) → (∀ j, i ≤ j → j ≤ 40 → c j = L 68 j) → Gd g x post 0 0 mS_handOut.2.2.1 0 0 Yw (setR I 13 h) (setR (setR (setR (setR L 3 f) 5 p) 68 c) 4 d) 2 [(0, .ref 74), (1, .int (iZ i))] [] := by
    intro q
    induction q with
    | zero => intro i h f p d c hq; omega
    | succ q ih =>
      intro i h f p d c hq g1 g2 g3 g4 g5 g6 g7
      have hg1 := fun (h : i ≤ 40) => hgt i (by omega) h
      have hk1 := fun (h : i ≤ 40) => hkd i (by omega) h
      have ha1 := fun (h : i ≤ 40) => has i (by omega) h
      refine r_ild C dS_handOut_2 rfl ?_
      refine r_ik C dS_handOut_3 ?_
      refine r_icmp_gt C dS_handOut_5 (by omega) (fun b5 => ?_) (fun b5 => ?_)
      · exact r_vret C dS_handOut_180 rfl (Nat.le_of_ble_eq_true rfl) (Nat.le_of_ble_eq_true rfl) (hn h f p d c (by rw [g2, show (i - 1).toNat = 40 by omega]) (by rw [g3, show (i - 1).toNat = 40 by omega]) (by rw [g4, show (i - 1).toNat = 40 by omega]) (by rw [g5, show (i - 1).toNat = 40 by omega]) (fun j j0 j1 => g6 j j0 (by omega)))
      · refine r_ald C dS_handOut_8 rfl ?_
        refine r_getR C dS_handOut_9 rfl rfl ?_
        refine r_getR C dS_handOut_12 rfl rfl ?_
        refine r_ild C dS_handOut_15 rfl ?_
        refine r_iald C dS_handOut_16 rfl ⟨by omega, by omega⟩ (by decide) ?_
        try simp only [rd, rdU, rowS, rowU, rowE, ne_eq, not_false_eq_true, Nat.reduceEqDiff, Int.reduceEq, true_and, false_and, and_true, and_false, ↓reduceIte]
        refine r_ist C dS_handOut_17 (by decide) (ls' := [(0, _), (1, _), (2, _)]) rfl ?_
        refine r_ald C dS_handOut_18 rfl ?_
        refine r_getR C dS_handOut_19 rfl rfl ?_
        refine r_getR C dS_handOut_22 rfl rfl ?_
        refine r_ild C dS_handOut_25 rfl ?_
        refine r_iald C dS_handOut_26 rfl ⟨by omega, by omega⟩ (by decide) ?_
        try simp only [rd, rdU, rowS, rowU, rowE, ne_eq, not_false_eq_true, Nat.reduceEqDiff, Int.reduceEq, true_and, false_and, and_true, and_false, ↓reduceIte]
        refine r_ist C dS_handOut_27 (by decide) (ls' := [(0, _), (1, _), (2, _), (3, _)]) rfl ?_
        refine r_ild C dS_handOut_28 rfl ?_
        refine r_if_ne C dS_handOut_29 (by omega) (fun b9 => ?_) (fun b9 => ?_)
        · refine r_ald C dS_handOut_35 rfl ?_
          refine r_getR C dS_handOut_36 rfl rfl ?_
          refine r_getR C dS_handOut_39 rfl rfl ?_
          refine r_ild C dS_handOut_42 rfl ?_
          refine r_iald C dS_handOut_43 rfl ⟨by omega, by omega⟩ (by decide) ?_
          try simp only [rd, rdU, rowS, rowU, rowE, ne_eq, not_false_eq_true, Nat.reduceEqDiff, Int.reduceEq, true_and, false_and, and_true, and_false, ↓reduceIte]
          refine r_ik C dS_handOut_44 ?_
          refine r_icmp_ne C dS_handOut_45 (by omega) (fun b8 => ?_) (fun b8 => ?_)
          · refine r_ald C dS_handOut_123 rfl ?_
            refine r_getR C dS_handOut_124 rfl rfl ?_
            refine r_getR C dS_handOut_127 rfl rfl ?_
            refine r_ild C dS_handOut_130 rfl ?_
            refine r_dup2 C dS_handOut_131 rfl rfl ?_
            refine r_lald C dS_handOut_132 rfl ⟨by omega, by omega⟩ (by decide) ?_
            try simp only [rd, rdU, rowS, rowU, rowE, ne_eq, not_false_eq_true, Nat.reduceEqDiff, Int.reduceEq, true_and, false_and, and_true, and_false, ↓reduceIte]
            refine r_ald C dS_handOut_133 rfl ?_
            refine r_getR C dS_handOut_134 rfl rfl ?_
            refine r_ild C dS_handOut_137 rfl ?_
            refine r_callV C lzC_worthInAll dS_handOut_138 _ [_] [_, _, _] rfl rfl rfl rfl rfl (Nat.le_of_ble_eq_true rfl) ⟨(Nat.le_of_ble_eq_true rfl), (Nat.le_of_ble_eq_true rfl), (Nat.le_of_ble_eq_true rfl), (Nat.le_of_ble_eq_true rfl)⟩ rfl (cC_worthInAll C.2.2.2.2.2.1 ⟨by omega, by omega⟩ ?_)
            try simp only [rd, rdU, rowS, rowU, rowE, ne_eq, not_false_eq_true, Nat.reduceEqDiff, Int.reduceEq, true_and, false_and, and_true, and_false, ↓reduceIte]
            refine r_ald C dS_handOut_141 rfl ?_
            refine r_getR C dS_handOut_142 rfl rfl ?_
            refine r_getR C dS_handOut_145 rfl rfl ?_
            refine r_ild C dS_handOut_148 rfl ?_
            refine r_lald C dS_handOut_149 rfl ⟨by omega, by omega⟩ (by decide) ?_
            try simp only [rd, rdU, rowS, rowU, rowE, ne_eq, not_false_eq_true, Nat.reduceEqDiff, Int.reduceEq, true_and, false_and, and_true, and_false, ↓reduceIte]
            refine r_lsub C dS_handOut_150 ?_
            refine r_ladd C dS_handOut_151 ?_
            refine r_last C dS_handOut_152 rfl rfl ⟨by omega, by omega⟩ (by decide) ?_
            refine r_ald C dS_handOut_153 rfl ?_
            refine r_getR C dS_handOut_154 rfl rfl ?_
            refine r_getR C dS_handOut_157 rfl rfl ?_
            refine r_ild C dS_handOut_160 rfl ?_
            refine r_dup2 C dS_handOut_161 rfl rfl ?_
            refine r_lald C dS_handOut_162 rfl ⟨by omega, by omega⟩ (by decide) ?_
            try simp only [rd, rdU, rowS, rowU, rowE, ne_eq, not_false_eq_true, Nat.reduceEqDiff, Int.reduceEq, true_and, false_and, and_true, and_false, ↓reduceIte]
            refine r_ald C dS_handOut_163 rfl ?_
            refine r_getR C dS_handOut_164 rfl rfl ?_
            refine r_getR C dS_handOut_167 rfl rfl ?_
            refine r_ild C dS_handOut_170 rfl ?_
            refine r_lald C dS_handOut_171 rfl ⟨by omega, by omega⟩ (by decide) ?_
            try simp only [rd, rdU, rowS, rowU, rowE, ne_eq, not_false_eq_true, Nat.reduceEqDiff, Int.reduceEq, true_and, false_and, and_true, and_false, ↓reduceIte]
            refine r_ladd C dS_handOut_172 ?_
            refine r_last C dS_handOut_173 rfl rfl ⟨by omega, by omega⟩ (by decide) ?_
            refine r_iinc C dS_handOut_174 (by decide) rfl (ls' := [(0, _), (1, _), (2, _), (3, _)]) rfl ?_
            refine r_goto C dS_handOut_177 ?_
            refine Gd.drop (ls := [_, _]) (ls2 := [_, _]) ?_
            have q1 : ¬ hq1 I i = true := fun h9 => b8 (of_decide_eq_true h9).2
            have q2 : hq2 I i = true := decide_eq_true ⟨b9, b8⟩
            simp only [up_eq, up_ne, rd, rdU, rowS, rowU, rowE, ne_eq, Nat.reduceEqDiff, Int.reduceEq, not_false_eq_true, true_and, false_and, and_true, and_false, ↓reduceIte]
            refine ih (i + 1) _ _ _ _ _ (by omega) (by omega) ?_ ?_ ?_ ?_ (fun j j0 j1 => ?_) (fun j j0 j1 => ?_)
            · rw [ho_to _ _ _ _ g1.1, if_neg q1, ← g2]
            · rw [ac_to _ _ _ _ g1.1, if_neg q1, ← g3]
            · rw [ac_to _ _ _ _ g1.1, if_neg q1, ← g4]
            · rw [ac_to _ _ _ _ g1.1, if_pos q2, ← g5]; rw [g7 i (by omega) (by omega)]; rfl
            · by_cases e : j = i
              · subst e; rw [up1_s, if_pos q2, g7 j (by omega) (by omega)]; rfl
              · rw [up1_o _ e]; exact g6 j j0 (by omega)
            · rw [up1_o _ (by omega)]; exact g7 j (by omega) j1
          · refine r_ald C dS_handOut_48 rfl ?_
            refine r_getR C dS_handOut_49 rfl rfl ?_
            refine r_getR C dS_handOut_52 rfl rfl ?_
            refine r_ild C dS_handOut_55 rfl ?_
            refine r_ild C dS_handOut_56 rfl ?_
            refine r_iast C dS_handOut_57 rfl rfl ⟨by omega, by omega⟩ (by decide) ?_
            refine r_ald C dS_handOut_58 rfl ?_
            refine r_getR C dS_handOut_59 rfl rfl ?_
            refine r_getR C dS_handOut_62 rfl rfl ?_
            refine r_ild C dS_handOut_65 rfl ?_
            refine r_dup2 C dS_handOut_66 rfl rfl ?_
            refine r_lald C dS_handOut_67 rfl ⟨by omega, by omega⟩ (by decide) ?_
            try simp only [rd, rdU, rowS, rowU, rowE, ne_eq, not_false_eq_true, Nat.reduceEqDiff, Int.reduceEq, true_and, false_and, and_true, and_false, ↓reduceIte]
            refine r_ald C dS_handOut_68 rfl ?_
            refine r_getR C dS_handOut_69 rfl rfl ?_
            refine r_getR C dS_handOut_72 rfl rfl ?_
            refine r_ild C dS_handOut_75 rfl ?_
            refine r_lald C dS_handOut_76 rfl ⟨by omega, by omega⟩ (by decide) ?_
            try simp only [rd, rdU, rowS, rowU, rowE, ne_eq, not_false_eq_true, Nat.reduceEqDiff, Int.reduceEq, true_and, false_and, and_true, and_false, ↓reduceIte]
            refine r_ladd C dS_handOut_77 ?_
            refine r_last C dS_handOut_78 rfl rfl ⟨by omega, by omega⟩ (by decide) ?_
            refine r_ald C dS_handOut_79 rfl ?_
            refine r_getR C dS_handOut_80 rfl rfl ?_
            refine r_getR C dS_handOut_83 rfl rfl ?_
            refine r_ild C dS_handOut_86 rfl ?_
            refine r_dup2 C dS_handOut_87 rfl rfl ?_
            refine r_lald C dS_handOut_88 rfl ⟨by omega, by omega⟩ (by decide) ?_
            try simp only [rd, rdU, rowS, rowU, rowE, ne_eq, not_false_eq_true, Nat.reduceEqDiff, Int.reduceEq, true_and, false_and, and_true, and_false, ↓reduceIte]
            refine r_ald C dS_handOut_89 rfl ?_
            refine r_getR C dS_handOut_90 rfl rfl ?_
            refine r_getR C dS_handOut_93 rfl rfl ?_
            refine r_ild C dS_handOut_96 rfl ?_
            refine r_lald C dS_handOut_97 rfl ⟨by omega, by omega⟩ (by decide) ?_
            try simp only [rd, rdU, rowS, rowU, rowE, ne_eq, not_false_eq_true, Nat.reduceEqDiff, Int.reduceEq, true_and, false_and, and_true, and_false, ↓reduceIte]
            refine r_ald C dS_handOut_98 rfl ?_
            refine r_getR C dS_handOut_99 rfl rfl ?_
            refine r_getR C dS_handOut_102 rfl rfl ?_
            refine r_ild C dS_handOut_105 rfl ?_
            refine r_lald C dS_handOut_106 rfl ⟨by omega, by omega⟩ (by decide) ?_
            try simp only [rd, rdU, rowS, rowU, rowE, ne_eq, not_false_eq_true, Nat.reduceEqDiff, Int.reduceEq, true_and, false_and, and_true, and_false, ↓reduceIte]
            refine r_lsub C dS_handOut_107 ?_
            refine r_ald C dS_handOut_108 rfl ?_
            refine r_getR C dS_handOut_109 rfl rfl ?_
            refine r_getR C dS_handOut_112 rfl rfl ?_
            refine r_ild C dS_handOut_115 rfl ?_
            refine r_lald C dS_handOut_116 rfl ⟨by omega, by omega⟩ (by decide) ?_
            try simp only [rd, rdU, rowS, rowU, rowE, ne_eq, not_false_eq_true, Nat.reduceEqDiff, Int.reduceEq, true_and, false_and, and_true, and_false, ↓reduceIte]
            refine r_ladd C dS_handOut_117 ?_
            refine r_ladd C dS_handOut_118 ?_
            refine r_last C dS_handOut_119 rfl rfl ⟨by omega, by omega⟩ (by decide) ?_
            refine r_goto C dS_handOut_120 ?_
            refine r_iinc C dS_handOut_174 (by decide) rfl (ls' := [(0, _), (1, _), (2, _), (3, _)]) rfl ?_
            refine r_goto C dS_handOut_177 ?_
            refine Gd.drop (ls := [_, _]) (ls2 := [_, _]) ?_
            have q1 : hq1 I i = true := decide_eq_true ⟨b9, b8⟩
            have q2 : ¬ hq2 I i = true := fun h9 => (of_decide_eq_true h9).2 b8
            simp only [up_eq, up_ne, rd, rdU, rowS, rowU, rowE, ne_eq, Nat.reduceEqDiff, Int.reduceEq, not_false_eq_true, true_and, false_and, and_true, and_false, ↓reduceIte]
            refine ih (i + 1) _ _ _ _ _ (by omega) (by omega) ?_ ?_ ?_ ?_ (fun j j0 j1 => ?_) (fun j j0 j1 => ?_)
            · rw [ho_to _ _ _ _ g1.1, if_pos q1, ← g2]
            · rw [ac_to _ _ _ _ g1.1, if_pos q1, ← g3]
            · rw [ac_to _ _ _ _ g1.1, if_pos q1, ← g4]
            · rw [ac_to _ _ _ _ g1.1, if_neg q2, ← g5]
            · by_cases e : j = i
              · subst e; rw [if_neg q2]; exact g7 j (by omega) (by omega)
              · exact g6 j j0 (by omega)
            · exact g7 j (by omega) j1
        · refine r_goto C dS_handOut_32 ?_
          refine r_iinc C dS_handOut_174 (by decide) rfl (ls' := [(0, _), (1, _), (2, _), (3, _)]) rfl ?_
          refine r_goto C dS_handOut_177 ?_
          refine Gd.drop (ls := [_, _]) (ls2 := [_, _]) ?_
          have q1 : ¬ hq1 I i = true := fun h9 => (of_decide_eq_true h9).1 b9
          have q2 : ¬ hq2 I i = true := fun h9 => (of_decide_eq_true h9).1 b9
          refine ih (i + 1) _ _ _ _ _ (by omega) (by omega) ?_ ?_ ?_ ?_ (fun j j0 j1 => ?_) (fun j j0 j1 => ?_)
          · rw [ho_to _ _ _ _ g1.1, if_neg q1, ← g2]
          · rw [ac_to _ _ _ _ g1.1, if_neg q1, ← g3]
          · rw [ac_to _ _ _ _ g1.1, if_neg q1, ← g4]
          · rw [ac_to _ _ _ _ g1.1, if_neg q2, ← g5]
          · by_cases e : j = i
            · subst e; rw [if_neg q2]; exact g7 j (by omega) (by omega)
            · exact g6 j j0 (by omega)
          · exact g7 j (by omega) j1
  refine r_ik C dS_handOut_0 ?_
  refine r_ist C dS_handOut_1 (by decide) (ls' := [(0, _), (1, _)]) rfl ?_
  have h := loop 50 1 (I 13) (L 3) (L 5) (L 4) (L 68) (by omega) (by omega) rfl rfl rfl rfl (fun j j0 j1 => by omega) (fun j j0 j1 => rfl)
  rw [setR_id, setR_id, setR_id, setR_id, setR_id] at h
  exact h
