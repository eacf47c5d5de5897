/-! the reference's settling: what its steps come to -/
theorem sTk_in {I : ed_I} {L : ed_L} (h : Rel I L) {j : Int} (j0 : 0 ≤ j) (j1 : j ≤ 40) : 0 ≤ sTk I j ∧ sTk I j ≤ 40 := tk_in (fun r r0 r1 => (hb_of h).2.1 j r j0 j1 r0 r1)
def OwnC (I0 : ed_I) (L0 : ed_L) (I : ed_I) (L : ed_L) (i v : Int) : Prop := (0 ≤ v ∧ v ≤ 40) ∧ (I 89 v = 0 ∨ I 89 v = 1) ∧ ((v = 0 ∧ (I 91 i = 0 ∨ sGv I0 (I0 71 i) = 0)) ∨ (v = sGv I0 (I0 71 i) ∧ 1 ≤ v ∧ I 89 v = I0 18 (sGv I0 (I0 71 i)) ∧ L 82 (I 86 v) = L0 8 (I0 71 i) ∧ I 91 i ≠ 0 ∧ 0 ≤ I 86 v ∧ I 86 v ≤ 40))
theorem own_c {I0 : ed_I} {L0 : ed_L} {I : ed_I} {L : ed_L} (hm : Mt I0 L0 I L) {i v : Int} (hi : 1 ≤ i ∧ i ≤ 40) (hv : v = if I 91 i = 0 then 0 else sGv I0 (I 93 i)) : OwnC I0 L0 I L i v := by
  have hd := hm.dbt (j := i) (by omega) hi.2
  have hg := sGv_in (I := I0) (I0 71 i)
  by_cases e : I 91 i = 0
  · rw [if_pos e] at hv
    subst hv
    exact ⟨by omega, (hm.sty (by omega) (by omega)).1, Or.inl ⟨rfl, Or.inl e⟩⟩
  · rw [if_neg e, hd.2.2.1] at hv
    by_cases e2 : sGv I0 (I0 71 i) = 0
    · rw [e2] at hv
      subst hv
      exact ⟨by omega, (hm.sty (by omega) (by omega)).1, Or.inl ⟨rfl, Or.inr e2⟩⟩
    · obtain ⟨q1, q2, q3, q4⟩ := sGv_spec e2
      subst hv
      have c := hm.cla (j := sGv I0 (I0 71 i)) (by omega) (by omega)
      have s := hm.sty (j := sGv I0 (I0 71 i)) (by omega) (by omega)
      have w := hm.wo (j := sGv I0 (I0 71 i)) (by omega) (by omega)
      have k : I 85 (sGv I0 (I0 71 i)) = 1 := by rw [c.1]; exact q3
      refine ⟨by omega, s.1, Or.inr ⟨rfl, q1.1, s.2 k, ?_, e, c.2.2.1⟩⟩
      rw [(w (Or.inl k)).1, q4]
theorem own_k {I0 : ed_I} {L0 : ed_L} {I : ed_I} {L : ed_L} (hm : Mt I0 L0 I L) {i k : Int} (hi : 1 ≤ i ∧ i ≤ 40) (hk : 1 ≤ k ∧ k ≤ 40) : (if I0 71 k = I0 71 i then L0 70 k else 0) = (if I 91 k ≠ 0 ∧ I 93 k = I 93 i then L 92 k else 0) := by
  have d := hm.dbt (j := k) (by omega) hk.2
  have e := hm.dbt (j := i) (by omega) hi.2
  by_cases h : I 91 k ≠ 0 ∧ I 93 k = I 93 i
  · rw [if_pos h, if_pos (by omega), d.1]
  · rw [if_neg h]
    by_cases h2 : I0 71 k = I0 71 i
    · rw [if_pos h2]
      have h3 : I 91 k = 0 := by omega
      have := d.2.2.2.2.2 h3
      omega
    · rw [if_neg h2]
theorem Mt.d91 {I0 : ed_I} {L0 : ed_L} {I : ed_I} {L : ed_L} (h : Mt I0 L0 I L) {j : Int} (j0 : 0 ≤ j) (j1 : j ≤ 40) : 0 ≤ I 91 j ∧ I 91 j ≤ 1 := by
  have := (h.dbt j0 j1).2.2.2.2.1
  omega
def wt (I : ed_I) (L : ed_L) (w : Int) (j : Int) : Int := if w = 0 then sGe I L j else if w = 1 then sDr I L j else sGi I L j
theorem wt_in {I : ed_I} {L : ed_L} (h : Rel I L) (w : Int) {j : Int} (hj : 1 ≤ j ∧ j ≤ 40) : 0 ≤ wt I L w j ∧ wt I L w j ≤ 1000000000000 := by
  obtain ⟨q1, q2, q3, -⟩ := sRow_in (hb_of h) hj
  unfold wt
  split
  · exact q3
  · split
    · exact q2
    · exact q1
theorem wt_eq {I0 : ed_I} {L0 : ed_L} {I : ed_I} {L : ed_L} (hm : Mt I0 L0 I L) {i w : Int} (hi : 1 ≤ i ∧ i ≤ 40) (hs : I 94 i = st0 I0 i) (hv : L 96 i = sGe I0 L0 i ∧ L 97 i = sDr I0 L0 i ∧ L 98 i = sGi I0 L0 i + sDr I0 L0 i + sGe I0 L0 i) : wt I0 L0 w i = if I 94 i = 0 then (if w = 0 then L 96 i else if w = 1 then L 97 i else if I 85 i = 1 then L 98 i else 0) else 0 := by
  have c := hm.cla (j := i) (by omega) hi.2
  unfold wt
  by_cases e : I 94 i = 0
  · rw [if_pos e]
    by_cases e1 : w = 0
    · rw [if_pos e1, if_pos e1, hv.1]
    · rw [if_neg e1, if_neg e1]
      by_cases e2 : w = 1
      · rw [if_pos e2, if_pos e2, hv.2.1]
      · rw [if_neg e2, if_neg e2]
        by_cases e3 : I 85 i = 1
        · have := val_1 (I := I0) (L := L0) (c := i) (by omega)
          rw [if_pos e3, hv.2.2]; omega
        · rw [if_neg e3]; exact if_neg (by omega)
  · rw [if_neg e]
    have := val_bad (I := I0) (L := L0) (c := i) (by omega)
    split
    · omega
    · split <;> omega
theorem sRp_eq {I0 : ed_I} {L0 : ed_L} {I : ed_I} {L : ed_L} (hm : Mt I0 L0 I L) {i : Int} (hi : 1 ≤ i ∧ i ≤ 40) (hs : I 94 i = st0 I0 i) : sRp I0 L0 i = if I 85 i = 4 ∧ I 94 i = 0 then I 88 i else 0 := by
  have c := hm.cla (j := i) (by omega) hi.2
  have a := hm.amt (j := i) (by omega) hi.2
  unfold sRp
  by_cases e : I 85 i = 4 ∧ I 94 i = 0
  · rw [if_pos e, if_pos (by omega), (a.2.2 e.1).1]
  · rw [if_neg e, if_neg (by omega)]
theorem sB_in {I : ed_I} {L : ed_L} (hb : Hb I L) : (0 ≤ sB1 I L ∧ sB1 I L ≤ 40000000000000) ∧ (0 ≤ sB2 I L ∧ sB2 I L ≤ 40000000000000) ∧ (0 ≤ sB3 I L ∧ sB3 I L ≤ 40000000000000) ∧ 0 ≤ sRe I L ∧ sRe I L ≤ 40000000000000 := by
  have hs := sSum_in hb
  unfold sB3 sB1 sB2 sRe
  omega
theorem sBe_in {I : ed_I} {L : ed_L} (hb : Hb I L) {j : Int} (hj : 1 ≤ j ∧ j ≤ 40) : 0 ≤ sBe I L j ∧ sBe I L j ≤ 4000000000000000 := by
  have hB := sB_in hb
  have a1 := spl_in (w := sGe I L) (A := sB1 I L) (by omega) (fun j j0 j1 => (sRow_in hb ⟨j0, j1⟩).2.2.1.1) hj
  have a2 := spl_in (w := sDr I L) (A := sB2 I L) (by omega) (fun j j0 j1 => (sRow_in hb ⟨j0, j1⟩).2.1.1) hj
  have a3 := spl_in (w := sGi I L) (A := sB3 I L) (by omega) (fun j j0 j1 => (sRow_in hb ⟨j0, j1⟩).1.1) hj
  unfold sBe
  omega
theorem sSr_in {I : ed_I} {L : ed_L} (hb : Hb I L) {j : Int} (hj : 1 ≤ j ∧ j ≤ 40) : 0 ≤ sSr I L j ∧ sSr I L j ≤ 4000000000000000 := by
  have hB := sB_in hb
  have a1 := spl_in (w := sRp I L) (A := sRe I L) (by omega) (fun j j0 j1 => (sRow_in hb ⟨j0, j1⟩).2.2.2.1) hj
  unfold sSr
  omega
/-- what does not stand bears nothing and shares nothing -/
theorem none_bad {I : ed_I} {L : ed_L} {c : Int} (hc : 1 ≤ c ∧ c ≤ 40) (hs : st0 I c ≠ 0) : sBe I L c = 0 ∧ sSr I L c = 0 := by
  obtain ⟨q1, q2, q3, q4⟩ := val_bad (L := L) hs
  unfold sBe sSr
  rw [spl_zero hc q1, spl_zero hc q2, spl_zero hc q3, spl_zero hc q4]
  exact ⟨rfl, rfl⟩
theorem none_1 {I : ed_I} {L : ed_L} {c : Int} (hc : 1 ≤ c ∧ c ≤ 40) (hk : I 15 c ≠ 4) : sSr I L c = 0 := by
  unfold sSr
  exact spl_zero hc (if_neg (by omega))
theorem none_4 {I : ed_I} {L : ed_L} {c : Int} (hc : 1 ≤ c ∧ c ≤ 40) (hk : I 15 c = 4) : sBe I L c = 0 := by
  obtain ⟨q1, q2, q3⟩ := val_4 (L := L) hk
  unfold sBe
  rw [spl_zero hc q1, spl_zero hc q2, spl_zero hc q3]
  rfl
theorem sq_bad {I : ed_I} {c : Int} (hs : st0 I c ≠ 0) : ¬ sq1 I c = true ∧ ¬ sq2 I c = true := ⟨fun h => hs (sTo_ne.mp (of_decide_eq_true h).1), fun h => hs (sTo_ne.mp (of_decide_eq_true h).1)⟩
theorem sq_1 {I : ed_I} {c : Int} (hs : st0 I c = 0) (hk : I 15 c = 1) : sq1 I c = true ∧ ¬ sq2 I c = true := ⟨decide_eq_true ⟨sTo_ne.mpr hs, hk⟩, fun h => (of_decide_eq_true h).2 hk⟩
theorem sq_2 {I : ed_I} {c : Int} (hs : st0 I c = 0) (hk : I 15 c ≠ 1) : ¬ sq1 I c = true ∧ sq2 I c = true := ⟨fun h => hk (of_decide_eq_true h).2, decide_eq_true ⟨sTo_ne.mpr hs, hk⟩⟩
theorem sTo_good {I : ed_I} {c : Int} (hs : st0 I c = 0) : sTo I c = sTk I c := if_pos hs
theorem dn {i k : Int} {q : Nat} (h : (i - k).toNat < q + 1) (h2 : k < i) : (i - (k + 1)).toNat < q := by omega
