/-! the ends of run -/
def Q8 (I : ed_I) (L : ed_L) (v : Int) (L8 : ed_L) : Prop := fr [3, 4, 5, 11, 63, 64, 65, 66, 67, 68, 72, 73, 78, 74] L L8 ∧ (∀ b, 0 ≤ b → b ≤ 40 → L8 11 b = sL2 I L 40 b ∧ (L8 3 b = 0 ∧ L8 4 b = 0 ∧ L8 5 b = 0) ∧ L8 67 b = 0 ∧ L8 68 b = 0) ∧ (∀ d, 1 ≤ d → d ≤ 40 → L8 72 d = sOrd I L d ∧ L8 73 d = L 70 d) ∧ (∀ d, 1 ≤ d → d ≤ 40 → L8 63 d = sGi I L d ∧ L8 64 d = sDr I L d ∧ L8 65 d = sGe I L d ∧ L8 66 d = sRp I L d) ∧ (L8 78 0 = sm (aT I L) 40 ∧ L8 78 2 = sT I L ∧ L8 78 3 = sD I L ∧ L8 78 4 = sG I L ∧ L8 78 5 = sN I L ∧ L8 78 6 = sS I L ∧ L8 78 7 = sRe I L) ∧ L8 74 6 = v
theorem Q7.up {I : ed_I} {L L7 : ed_L} (h : Q7 I L L7) (v : Int) : Q8 I L v (upI L7 74 6 v) := by
  exact ⟨fr_trans (ks2 := [74]) h.1 (fun a ha => by simp only [List.mem_cons, List.not_mem_nil, or_false, not_or] at ha; simp [rowS, rowU, ha]) (fun a ha => by simp only [List.mem_cons, List.not_mem_nil, or_false, not_or] at ha ⊢; simp [ha]), h.2.1, fun d d0 d1 => (h.2.2.1 d d0 d1).1, fun d d0 d1 => (h.2.2.1 d d0 d1).2, h.2.2.2, rfl⟩
def E1 (I : ed_I) (L : ed_L) (v : Int) (I9 : ed_I) (L9 : ed_L) : Prop := fr [12, 13, 61, 62] I I9 ∧ fr [3, 4, 5, 11, 63, 64, 65, 66, 67, 68, 72, 73, 78, 74, 76, 77] L L9 ∧ (∀ j, 1 ≤ j → j ≤ 40 → (I9 61 j = (if st0 I j = 0 then 3 else st0 I j) ∧ I9 62 j = sTo I j) ∧ L9 67 j = sGi I L j + sDr I L j + sGe I L j ∧ L9 68 j = 0 ∧ L9 73 j = L 70 j - (sOrd I L j - spl (sOrd I L) (sMe I L) j)) ∧ (∀ b, 0 ≤ b → b ≤ 40 → I9 13 b = -1 ∧ L9 11 b = sL2 I L 40 b ∧ L9 3 b = 0 ∧ L9 4 b = 0 ∧ L9 5 b = 0) ∧ (∀ d, 1 ≤ d → d ≤ 40 → L9 63 d = sGi I L d ∧ L9 64 d = sDr I L d ∧ L9 65 d = sGe I L d ∧ L9 66 d = sRp I L d) ∧ (L9 78 0 = sm (aT I L) 40 ∧ L9 78 2 = sT I L ∧ L9 78 3 = sD I L ∧ L9 78 4 = sG I L ∧ L9 78 5 = sN I L ∧ L9 78 6 = sS I L ∧ L9 78 7 = sRe I L) ∧ L9 74 6 = v
theorem g8 {g : ed_g} {l : Launch} (hl : l.stackTraces = false) {I : ed_I} {L : ed_L} (hb : Hb I L) {I4 : ed_I} {L8 : ed_L} {v A : Int} (hj : Q4 I I4) (hq : Q8 I L v L8) (hA : A = sMe I L) {post : ed_post} (h : ∀ I9 L9, E1 I L v I9 L9 → post (.inl none) Yw I9 L9) : ed_Ct g l mS_payInProportion 3 0 0 [.ref 74, .long (lZ A)] Yw I4 L8 post := by
  subst hA
  have hs := sSum_in hb
  have e72 : ∀ j, 1 ≤ j → j ≤ 40 → L8 72 j = sOrd I L j := fun j j0 j1 => (hq.2.2.1 j j0 j1).1
  have hst : ∀ j, 1 ≤ j → j ≤ 40 → -1 ≤ I4 61 j ∧ I4 61 j ≤ 3 := fun j j0 j1 => by rw [(hj.2.1 j j0 j1).1]; unfold st0; repeat (first | omega | split)
  refine cS_payInProportion hl (fun j j0 j1 => by rw [e72 j j0 j1]; exact sOrd_in hb ⟨j0, j1⟩) (by unfold sMe; omega) hst (fun f s r h9 b hh hbb hf => h _ _ ⟨fr_trans (ks2 := [61]) hj.1 (fun a ha => by simp only [List.mem_cons, List.not_mem_nil, or_false, not_or] at ha; simp [rowS, rowU, ha]) (fun a ha => by simp only [List.mem_cons, List.not_mem_nil, or_false, not_or] at ha ⊢; simp [ha]), fr_trans (ks2 := [76, 77, 73, 67]) hq.1 (fun a ha => by simp only [List.mem_cons, List.not_mem_nil, or_false, not_or] at ha; simp [rowS, rowU, ha]) (fun a ha => by simp only [List.mem_cons, List.not_mem_nil, or_false, not_or] at ha ⊢; simp [ha]), fun j j0 j1 => ⟨⟨?_, (hj.2.1 j j0 j1).2⟩, ?_, (hq.2.1 j (by omega) j1).2.2.2, ?_⟩, fun b b0 b1 => ⟨(hj.2.2 b b0 b1).2, (hq.2.1 b b0 b1).1, (hq.2.1 b b0 b1).2.1⟩, hq.2.2.2.1, hq.2.2.2.2.1, hq.2.2.2.2.2⟩)
  · show f j = _
    rw [hf j j0 j1, (hj.2.1 j j0 j1).1]
  · show b j = _
    obtain ⟨q1, q2, q3, -⟩ := hq.2.2.2.1 j j0 j1
    rw [hbb j j0 j1, q1, q2, q3]
  · show h9 j = _
    rw [hh j j0 j1, (hq.2.2.1 j j0 j1).2, e72 j j0 j1, spl_congr e72 ⟨j0, j1⟩]
def Q9 (I : ed_I) (L : ed_L) (v : Int) (I9 : ed_I) (L9 : ed_L) : Prop := (fr [12, 13, 61, 62] I I9 ∧ (∀ j, 1 ≤ j → j ≤ 40 → I9 61 j = (if 0 < sBe I L j then 3 else st0 I j) ∧ I9 62 j = sTo I j) ∧ (∀ b, 0 ≤ b → b ≤ 40 → I9 13 b = -1)) ∧ fr [3, 4, 5, 11, 63, 64, 65, 66, 67, 68, 72, 73, 78, 74, 76, 77] L L9 ∧ (∀ b, 0 ≤ b → b ≤ 40 → L9 11 b = sL2 I L 40 b ∧ (L9 3 b = 0 ∧ L9 4 b = 0 ∧ L9 5 b = 0) ∧ L9 68 b = 0) ∧ (∀ d, 1 ≤ d → d ≤ 40 → L9 67 d = sBe I L d ∧ L9 73 d = L 70 d) ∧ (∀ d, 1 ≤ d → d ≤ 40 → L9 63 d = sGi I L d ∧ L9 64 d = sDr I L d ∧ L9 65 d = sGe I L d ∧ L9 66 d = sRp I L d) ∧ (L9 78 0 = sm (aT I L) 40 ∧ L9 78 2 = sT I L ∧ L9 78 3 = sD I L ∧ L9 78 4 = sG I L ∧ L9 78 5 = sN I L ∧ L9 78 6 = sS I L ∧ L9 78 7 = sRe I L) ∧ L9 74 6 = v
theorem g9 {g : ed_g} {l : Launch} (hl : l.stackTraces = false) {I : ed_I} {L : ed_L} (hb : Hb I L) {I4 : ed_I} {L8 : ed_L} {v : Int} (hj : Q4 I I4) (hq : Q8 I L v L8) {post : ed_post} (h : ∀ I9 L9, Q9 I L v I9 L9 → post (.inl none) Yw I9 L9) : ed_Ct g l mS_abateByClass 4 0 0 [.ref 74] Yw I4 L8 post := by
  have hs := sSum_in hb
  obtain ⟨q1, q2, q3, q4, q5, -⟩ : L8 78 0 = sm (aT I L) 40 ∧ L8 78 2 = sT I L ∧ L8 78 3 = sD I L ∧ L8 78 4 = sG I L ∧ L8 78 5 = sN I L ∧ True := ⟨hq.2.2.2.2.1.1, hq.2.2.2.2.1.2.1, hq.2.2.2.2.1.2.2.1, hq.2.2.2.2.1.2.2.2.1, hq.2.2.2.2.1.2.2.2.2.1, trivial⟩
  have r63 : ∀ j, 1 ≤ j → j ≤ 40 → L8 63 j = sGi I L j := fun j j0 j1 => (hq.2.2.2.1 j j0 j1).1
  have r64 : ∀ j, 1 ≤ j → j ≤ 40 → L8 64 j = sDr I L j := fun j j0 j1 => (hq.2.2.2.1 j j0 j1).2.1
  have r65 : ∀ j, 1 ≤ j → j ≤ 40 → L8 65 j = sGe I L j := fun j j0 j1 => (hq.2.2.2.1 j j0 j1).2.2.1
  have eb : ∀ j, 1 ≤ j → j ≤ 40 → L8 67 j + spl (L8 65) (L8 78 4 - min (L8 78 4) (max 0 (L8 78 2 - L8 78 3))) j + spl (L8 64) (min (L8 78 5) (max 0 (L8 78 3 - L8 78 2))) j + spl (L8 63) (max 0 (L8 78 3 - L8 78 2) - min (L8 78 5) (max 0 (L8 78 3 - L8 78 2))) j = sBe I L j := fun j j0 j1 => by
    rw [q2, q3, q4, q5, spl_congr r65 ⟨j0, j1⟩, spl_congr r64 ⟨j0, j1⟩, spl_congr r63 ⟨j0, j1⟩, (hq.2.1 j (by omega) j1).2.2.1, Int.zero_add]
    rfl
  have hB : 0 ≤ sB1 I L ∧ sB1 I L ≤ 40000000000000 ∧ 0 ≤ sB2 I L ∧ sB2 I L ≤ 40000000000000 ∧ 0 ≤ sB3 I L ∧ sB3 I L ≤ 40000000000000 := by unfold sB3 sB1 sB2; omega
  have hbe : ∀ j, 1 ≤ j → j ≤ 40 → 0 ≤ sBe I L j ∧ sBe I L j ≤ 4000000000000000 := fun j j0 j1 => by
    have a1 := spl_in (w := sGe I L) (A := sB1 I L) (by omega) (fun j j0 j1 => (sRow_in hb ⟨j0, j1⟩).2.2.1.1) ⟨j0, j1⟩
    have a2 := spl_in (w := sDr I L) (A := sB2 I L) (by omega) (fun j j0 j1 => (sRow_in hb ⟨j0, j1⟩).2.1.1) ⟨j0, j1⟩
    have a3 := spl_in (w := sGi I L) (A := sB3 I L) (by omega) (fun j j0 j1 => (sRow_in hb ⟨j0, j1⟩).1.1) ⟨j0, j1⟩
    unfold sBe
    omega
  refine cS_abateByClass hl (fun j j0 j1 => by rw [r65 j j0 j1]; exact (sRow_in hb ⟨j0, j1⟩).2.2.1) (fun j j0 j1 => by rw [r64 j j0 j1]; exact (sRow_in hb ⟨j0, j1⟩).2.1) (fun j j0 j1 => by rw [r63 j j0 j1]; exact (sRow_in hb ⟨j0, j1⟩).1) (by rw [q2, q3, q4, q5]; omega) (fun j j0 j1 => by rw [eb j j0 j1]; have := hbe j j0 j1; omega) (fun f s r b hbb hf => h _ _ ⟨⟨fr_trans (ks2 := [61]) hj.1 (fun a ha => by simp only [List.mem_cons, List.not_mem_nil, or_false, not_or] at ha; simp [rowS, rowU, ha]) (fun a ha => by simp only [List.mem_cons, List.not_mem_nil, or_false, not_or] at ha ⊢; simp [ha]), fun j j0 j1 => ⟨?_, (hj.2.1 j j0 j1).2⟩, fun b b0 b1 => (hj.2.2 b b0 b1).2⟩, fr_trans (ks2 := [76, 77, 67]) hq.1 (fun a ha => by simp only [List.mem_cons, List.not_mem_nil, or_false, not_or] at ha; simp [rowS, rowU, ha]) (fun a ha => by simp only [List.mem_cons, List.not_mem_nil, or_false, not_or] at ha ⊢; simp [ha]), fun b b0 b1 => ⟨(hq.2.1 b b0 b1).1, (hq.2.1 b b0 b1).2.1, (hq.2.1 b b0 b1).2.2.2⟩, fun d d0 d1 => ⟨(hbb d d0 d1).trans (eb d d0 d1), (hq.2.2.1 d d0 d1).2⟩, hq.2.2.2.1, hq.2.2.2.2.1, hq.2.2.2.2.2⟩)
  show f j = _
  rw [hf j j0 j1, hbb j j0 j1, eb j j0 j1, (hj.2.1 j j0 j1).1]
def s40 (I : ed_I) (L : ed_L) (b : Int) : Int := if b = 0 ∧ sm (sRp I L) 40 = 0 then sRe I L else 0
def Q10 (I : ed_I) (L : ed_L) (v : Int) (L9 : ed_L) : Prop := fr [3, 4, 5, 11, 63, 64, 65, 66, 67, 68, 72, 73, 78, 74, 76, 77] L L9 ∧ (∀ b, 0 ≤ b → b ≤ 40 → L9 11 b = sL2 I L 40 b ∧ L9 3 b = 0 ∧ L9 4 b = s40 I L b ∧ L9 5 b = 0) ∧ (∀ d, 1 ≤ d → d ≤ 40 → L9 67 d = sBe I L d ∧ L9 73 d = L 70 d ∧ L9 68 d = sSr I L d) ∧ (∀ d, 1 ≤ d → d ≤ 40 → L9 63 d = sGi I L d ∧ L9 64 d = sDr I L d ∧ L9 65 d = sGe I L d ∧ L9 66 d = sRp I L d) ∧ (L9 78 0 = sm (aT I L) 40 ∧ L9 78 2 = sT I L ∧ L9 78 3 = sD I L ∧ L9 78 4 = sG I L ∧ L9 78 5 = sN I L ∧ L9 78 6 = sS I L ∧ L9 78 7 = sRe I L) ∧ L9 74 6 = v
theorem g10 {g : ed_g} {l : Launch} (hl : l.stackTraces = false) {I : ed_I} {L : ed_L} (hb : Hb I L) {I9 : ed_I} {L9 : ed_L} {v : Int} (hq : Q9 I L v I9 L9) {post : ed_post} (h : ∀ L10, Q10 I L v L10 → post (.inl none) Yw I9 L10) : ed_Ct g l mS_shareResidue 3 0 0 [.ref 74] Yw I9 L9 post := by
  have hs := sSum_in hb
  obtain ⟨-, hF, hz, hbe, hr, hsu, hv⟩ := hq
  have r66 : ∀ j, 1 ≤ j → j ≤ 40 → L9 66 j = sRp I L j := fun j j0 j1 => (hr j j0 j1).2.2.2
  have q7 : L9 78 7 = sRe I L := hsu.2.2.2.2.2.2
  have e66 : sm (L9 66) 40 = sm (sRp I L) 40 := sm_congr r66 40 (by decide)
  have hre : 0 ≤ sRe I L ∧ sRe I L ≤ 40000000000000 := by unfold sRe; omega
  refine cS_shareResidue hl (fun j j0 j1 => by rw [r66 j j0 j1]; exact (sRow_in hb ⟨j0, j1⟩).2.2.2) (by rw [q7]; omega) (fun s r c hc h1 => h _ ⟨fr_trans (ks2 := [76, 77, 68]) hF (fun a ha => by simp only [List.mem_cons, List.not_mem_nil, or_false, not_or] at ha; simp [rowS, rowU, ha]) (fun a ha => by simp only [List.mem_cons, List.not_mem_nil, or_false, not_or] at ha ⊢; simp [ha]), fun b b0 b1 => ⟨(hz b b0 b1).1, (hz b b0 b1).2.1.1, ?_, (hz b b0 b1).2.1.2.2⟩, fun d d0 d1 => ⟨(hbe d d0 d1).1, (hbe d d0 d1).2, ?_⟩, hr, hsu, hv⟩) (fun s r c hc h0 => h _ ⟨fr_trans (ks2 := [76, 77, 68, 4]) hF (fun a ha => by simp only [List.mem_cons, List.not_mem_nil, or_false, not_or] at ha; simp [rowS, rowU, ha]) (fun a ha => by simp only [List.mem_cons, List.not_mem_nil, or_false, not_or] at ha ⊢; simp [ha]), fun b b0 b1 => ⟨(hz b b0 b1).1, (hz b b0 b1).2.1.1, ?_, (hz b b0 b1).2.1.2.2⟩, fun d d0 d1 => ⟨(hbe d d0 d1).1, (hbe d d0 d1).2, ?_⟩, hr, hsu, hv⟩)
  · show L9 4 b = s40 I L b
    unfold s40
    rw [(hz b b0 b1).2.1.2.1, if_neg (fun h9 => h1 (e66.trans h9.2))]
  · show c d = sSr I L d
    rw [hc d d0 d1, q7, spl_congr r66 ⟨d0, d1⟩]
    rfl
  · show (if 4 = 4 ∧ b = 0 then L9 78 7 else L9 4 b) = s40 I L b
    unfold s40
    rw [← e66, h0, q7, (hz b b0 b1).2.1.2.1]
    by_cases e : b = 0
    · rw [if_pos ⟨rfl, e⟩, if_pos ⟨e, rfl⟩]
    · rw [if_neg (fun h9 => e h9.2), if_neg (fun h9 => e h9.1)]
  · show c d = sSr I L d
    rw [hc d d0 d1, q7, spl_congr r66 ⟨d0, d1⟩]
    rfl
def E2 (I : ed_I) (L : ed_L) (v : Int) (I9 : ed_I) (L9 : ed_L) : Prop := fr [12, 13, 61, 62] I I9 ∧ fr [3, 4, 5, 11, 63, 64, 65, 66, 67, 68, 72, 73, 78, 74, 76, 77] L L9 ∧ (∀ j, 1 ≤ j → j ≤ 40 → (I9 61 j = (if 0 < sBe I L j then 3 else st0 I j) ∧ I9 62 j = sTo I j) ∧ L9 67 j = sBe I L j ∧ L9 68 j = (if sq2 I j = true then sCs I L j else sSr I L j) ∧ L9 73 j = L 70 j) ∧ (∀ b, 0 ≤ b → b ≤ 40 → L9 11 b = sL2 I L 40 b ∧ I9 13 b = ho (sq1 I) (I 17) (sTo I) (fun _ => -1) 40 b ∧ L9 3 b = ac (sq1 I) (sTo I) (fun c => L 8 (I 17 c)) (fun _ => 0) 40 b ∧ L9 5 b = ac (sq1 I) (sTo I) (fun c => L 8 (I 17 c) - sGi I L c + sBe I L c) (fun _ => 0) 40 b ∧ L9 4 b = ac (sq2 I) (sTo I) (sCs I L) (s40 I L) 40 b) ∧ (∀ d, 1 ≤ d → d ≤ 40 → L9 63 d = sGi I L d ∧ L9 64 d = sDr I L d ∧ L9 65 d = sGe I L d ∧ L9 66 d = sRp I L d) ∧ (L9 78 0 = sm (aT I L) 40 ∧ L9 78 2 = sT I L ∧ L9 78 3 = sD I L ∧ L9 78 4 = sG I L ∧ L9 78 5 = sN I L ∧ L9 78 6 = sS I L ∧ L9 78 7 = sRe I L) ∧ L9 74 6 = v
theorem sTo_in {I : ed_I} {L : ed_L} (hb : Hb I L) {j : Int} (hj : 1 ≤ j ∧ j ≤ 40) : 0 ≤ sTo I j ∧ sTo I j ≤ 40 := by
  have q := tk_in (I := I) (r := I (20 + j.toNat)) (fun r r0 r1 => hb.2.1 j r (by omega) hj.2 r0 r1)
  unfold sTo sTk
  split <;> omega
theorem g11 {g : ed_g} {l : Launch} (hl : l.stackTraces = false) {I : ed_I} {L : ed_L} (hb : Hb I L) {I9 : ed_I} {L9 L10 : ed_L} {v : Int} (hq : Q9 I L v I9 L9) (hq2 : Q10 I L v L10) {post : ed_post} (h : ∀ I9 L9, E2 I L v I9 L9 → post (.inl none) Yw I9 L9) : ed_Ct g l mS_handOut 4 0 0 [.ref 74] Yw I9 L10 post := by
  obtain ⟨⟨hI, hst, h13⟩, -⟩ := hq
  obtain ⟨hF, hz, hd, hr, hsu, hv⟩ := hq2
  have e15 : I9 15 = I 15 := hI 15 (by decide)
  have e17 : I9 17 = I 17 := hI 17 (by decide)
  have e8 : L10 8 = L 8 := hF 8 (by decide)
  have e62 : ∀ j, 1 ≤ j → j ≤ 40 → I9 62 j = sTo I j := fun j j0 j1 => (hst j j0 j1).2
  have eq1 : ∀ j, 1 ≤ j → j ≤ 40 → hq1 I9 j = sq1 I j := fun j j0 j1 => by unfold hq1 sq1; rw [e62 j j0 j1, e15]
  have eq2 : ∀ j, 1 ≤ j → j ≤ 40 → hq2 I9 j = sq2 I j := fun j j0 j1 => by unfold hq2 sq2; rw [e62 j j0 j1, e15]
  have ecs : ∀ j, 1 ≤ j → j ≤ 40 → hcs L10 j = sCs I L j := fun j j0 j1 => by
    obtain ⟨a1, a2, a3, -⟩ := hr j j0 j1
    obtain ⟨b1, b2, b3⟩ := hd j j0 j1
    unfold hcs sCs
    rw [a1, a2, a3, b1, b3]
  refine cS_handOut hl (fun j j0 j1 => by rw [e62 j j0 j1]; exact sTo_in hb ⟨j0, j1⟩) (fun j a b => by rw [e15]; exact (hb.1 j a b).2.1) (fun j a b => by rw [e17]; exact (hb.1 j a b).2.2.1) (fun h9 f p d c hh hf hp hdd hc => h _ _ ⟨fr_trans (ks2 := [13]) hI (fun a ha => by simp only [List.mem_cons, List.not_mem_nil, or_false, not_or] at ha; simp [rowS, rowU, ha]) (fun a ha => by simp only [List.mem_cons, List.not_mem_nil, or_false, not_or] at ha ⊢; simp [ha]), fr_trans (ks2 := [3, 5, 68, 4]) hF (fun a ha => by simp only [List.mem_cons, List.not_mem_nil, or_false, not_or] at ha; simp [rowS, rowU, ha]) (fun a ha => by simp only [List.mem_cons, List.not_mem_nil, or_false, not_or] at ha ⊢; simp [ha]), fun j j0 j1 => ⟨hst j j0 j1, (hd j j0 j1).1, ?_, (hd j j0 j1).2.1⟩, fun b b0 b1 => ⟨(hz b b0 b1).1, ?_, ?_, ?_, ?_⟩, hr, hsu, hv⟩)
  · show c j = _
    rw [hc j j0 j1, eq2 j j0 j1, ecs j j0 j1, (hd j j0 j1).2.2]
  · show h9 b = _
    rw [hh]
    exact ho_congr (fun j j0 j1 => ⟨eq1 j j0 j1, fun _ => ⟨by rw [e17], e62 j j0 j1⟩⟩) (fun b b0 b1 => h13 b b0 b1) 40 (by decide) b b0 b1
  · show f b = _
    rw [hf]
    exact ac_congr (fun j j0 j1 => ⟨eq1 j j0 j1, fun _ => ⟨e62 j j0 j1, by rw [e8, e17], by rw [e62 j j0 j1]; exact sTo_in hb ⟨j0, j1⟩⟩⟩) (fun b b0 b1 => (hz b b0 b1).2.1) 40 (by decide) b b0 b1
  · show p b = _
    rw [hp]
    exact ac_congr (fun j j0 j1 => ⟨eq1 j j0 j1, fun _ => ⟨e62 j j0 j1, by rw [e8, e17, (hr j j0 j1).1, (hd j j0 j1).1], by rw [e62 j j0 j1]; exact sTo_in hb ⟨j0, j1⟩⟩⟩) (fun b b0 b1 => (hz b b0 b1).2.2.2) 40 (by decide) b b0 b1
  · show d b = _
    rw [hdd]
    exact ac_congr (fun j j0 j1 => ⟨eq2 j j0 j1, fun _ => ⟨e62 j j0 j1, ecs j j0 j1, by rw [e62 j j0 j1]; exact sTo_in hb ⟨j0, j1⟩⟩⟩) (fun b b0 b1 => (hz b b0 b1).2.2.1) 40 (by decide) b b0 b1
set_option maxRecDepth 100000 in
set_option maxHeartbeats 4000000 in
theorem cS_run {g : ed_g} {l : Launch} (hl : l.stackTraces = false) {I : ed_I} {L : ed_L} (hb : Hb I L) {post : ed_post} (h1e : 0 < sSh I L → ∀ I9 L9, E1 I L (sSh I L) I9 L9 → post (.inl none) Yw I9 (upI L9 78 1 (sm (L9 73) 40))) (h2e : sSh I L ≤ 0 → ∀ I9 L9, E2 I L (sSh I L) I9 L9 → post (.inl none) Yw I9 (upI L9 78 1 (sm (L9 73) 40))) : ed_Ct g l mS_run 5 0 0 [.ref 74] Yw I L post := by
  refine ed_Ct.of hl rfl (Nat.le_of_ble_eq_true rfl) (fun x _ C => ?_)
  show Gd g x post _ _ _ _ _ _ _ _ 0 [(0, _)] []
  refine r_ald C dS_run_0 rfl ?_
  refine r_getR C dS_run_1 rfl rfl ?_
  refine r_callV C lzP_forgetSettling dS_run_4 _ [] [] rfl rfl rfl rfl rfl (Nat.le_of_ble_eq_true rfl) ⟨(Nat.le_of_ble_eq_true rfl), (Nat.le_of_ble_eq_true rfl), (Nat.le_of_ble_eq_true rfl), (Nat.le_of_ble_eq_true rfl)⟩ rfl (g1 C.2.2.2.2.2.1  (fun L1 h1 => ?_))
  refine r_ald C dS_run_7 rfl ?_
  refine r_getR C dS_run_8 rfl rfl ?_
  refine r_callV C lzA_forgetSettling dS_run_11 _ [] [] rfl rfl rfl rfl rfl (Nat.le_of_ble_eq_true rfl) ⟨(Nat.le_of_ble_eq_true rfl), (Nat.le_of_ble_eq_true rfl), (Nat.le_of_ble_eq_true rfl), (Nat.le_of_ble_eq_true rfl)⟩ rfl (g2 C.2.2.2.2.2.1 hb h1 (fun I2 L2 h2 => ?_))
  refine r_ald C dS_run_14 rfl ?_
  refine r_getR C dS_run_15 rfl rfl ?_
  refine r_callV C lzC_forgetSettling dS_run_18 _ [] [] rfl rfl rfl rfl rfl (Nat.le_of_ble_eq_true rfl) ⟨(Nat.le_of_ble_eq_true rfl), (Nat.le_of_ble_eq_true rfl), (Nat.le_of_ble_eq_true rfl), (Nat.le_of_ble_eq_true rfl)⟩ rfl (g3 C.2.2.2.2.2.1 h2 (fun I3 L3 h3 => ?_))
  refine r_ald C dS_run_21 rfl ?_
  refine r_callV C lzS_judgeClauses dS_run_22 _ [] [] rfl rfl rfl rfl rfl (Nat.le_of_ble_eq_true rfl) ⟨(Nat.le_of_ble_eq_true rfl), (Nat.le_of_ble_eq_true rfl), (Nat.le_of_ble_eq_true rfl), (Nat.le_of_ble_eq_true rfl)⟩ rfl (g4 C.2.2.2.2.2.1 hb h3 (fun I4 h4 => ?_))
  refine r_ald C dS_run_25 rfl ?_
  refine r_callV C lzS_divideDebts dS_run_26 _ [] [] rfl rfl rfl rfl rfl (Nat.le_of_ble_eq_true rfl) ⟨(Nat.le_of_ble_eq_true rfl), (Nat.le_of_ble_eq_true rfl), (Nat.le_of_ble_eq_true rfl), (Nat.le_of_ble_eq_true rfl)⟩ rfl (g5 C.2.2.2.2.2.1 hb h3 h4 (fun L5 h5 => ?_))
  refine r_ald C dS_run_29 rfl ?_
  refine r_callV C lzS_valueClauses dS_run_30 _ [] [] rfl rfl rfl rfl rfl (Nat.le_of_ble_eq_true rfl) ⟨(Nat.le_of_ble_eq_true rfl), (Nat.le_of_ble_eq_true rfl), (Nat.le_of_ble_eq_true rfl), (Nat.le_of_ble_eq_true rfl)⟩ rfl (g6 C.2.2.2.2.2.1 hb h4 h5 (fun L6 h6 => ?_))
  refine r_ald C dS_run_33 rfl ?_
  refine r_callV C lzS_addUp dS_run_34 _ [] [] rfl rfl rfl rfl rfl (Nat.le_of_ble_eq_true rfl) ⟨(Nat.le_of_ble_eq_true rfl), (Nat.le_of_ble_eq_true rfl), (Nat.le_of_ble_eq_true rfl), (Nat.le_of_ble_eq_true rfl)⟩ rfl (g7 C.2.2.2.2.2.1 hb h4 h6 (fun L7 h7 => ?_))
  have hs := sSum_in hb
  obtain ⟨q2, q3, q5, q6⟩ : L7 78 2 = sT I L ∧ L7 78 3 = sD I L ∧ L7 78 5 = sN I L ∧ L7 78 6 = sS I L := ⟨h7.2.2.2.2.1, h7.2.2.2.2.2.1, h7.2.2.2.2.2.2.2.1, h7.2.2.2.2.2.2.2.2.1⟩
  have em : L7 78 2 + L7 78 5 + L7 78 6 = sMe I L := by rw [q2, q5, q6]; rfl
  have ev : max 0 (L7 78 3 - (L7 78 2 + L7 78 5 + L7 78 6)) = sSh I L := by rw [em, q3]; rfl
  have h8 := h7.up (sSh I L)
  refine r_ald C dS_run_37 rfl ?_
  refine r_getR C dS_run_38 rfl rfl ?_
  refine r_ik C dS_run_41 ?_
  refine r_lald C dS_run_42 rfl ⟨by omega, by omega⟩ (by decide) ?_
  try simp only [rd, rdU, rowS, rowU, rowE, ne_eq, not_false_eq_true, Nat.reduceEqDiff, Int.reduceEq, true_and, false_and, and_true, and_false, ↓reduceIte]
  refine r_ald C dS_run_43 rfl ?_
  refine r_getR C dS_run_44 rfl rfl ?_
  refine r_ik C dS_run_47 ?_
  refine r_lald C dS_run_48 rfl ⟨by omega, by omega⟩ (by decide) ?_
  try simp only [rd, rdU, rowS, rowU, rowE, ne_eq, not_false_eq_true, Nat.reduceEqDiff, Int.reduceEq, true_and, false_and, and_true, and_false, ↓reduceIte]
  refine r_ladd C dS_run_49 ?_
  refine r_ald C dS_run_50 rfl ?_
  refine r_getR C dS_run_51 rfl rfl ?_
  refine r_ik C dS_run_54 ?_
  refine r_lald C dS_run_56 rfl ⟨by omega, by omega⟩ (by decide) ?_
  try simp only [rd, rdU, rowS, rowU, rowE, ne_eq, not_false_eq_true, Nat.reduceEqDiff, Int.reduceEq, true_and, false_and, and_true, and_false, ↓reduceIte]
  refine r_ladd C dS_run_57 ?_
  refine r_lst C dS_run_58 (by decide) (ls' := [(0, _), (1, _)]) rfl ?_
  refine r_ald C dS_run_59 rfl ?_
  refine r_lk C dS_run_60 ?_
  refine r_ald C dS_run_61 rfl ?_
  refine r_getR C dS_run_62 rfl rfl ?_
  refine r_ik C dS_run_65 ?_
  refine r_lald C dS_run_66 rfl ⟨by omega, by omega⟩ (by decide) ?_
  try simp only [rd, rdU, rowS, rowU, rowE, ne_eq, not_false_eq_true, Nat.reduceEqDiff, Int.reduceEq, true_and, false_and, and_true, and_false, ↓reduceIte]
  refine r_lld C dS_run_67 rfl ?_
  refine r_lsub C dS_run_68 ?_
  refine r_mmax C (idx := 61) (by decide +kernel) rfl (tb3 77 rfl) rfl (Nat.le_of_ble_eq_true rfl) (Nat.le_of_ble_eq_true rfl) (Nat.le_of_ble_eq_true rfl) (Nat.le_of_ble_eq_true rfl) (by omega) ?_
  rw [ev]
  refine r_putL (z := 6) C dS_run_72 rfl rfl rfl rfl ed_pl5_6 ?_
  refine r_ald C dS_run_75 rfl ?_
  refine r_getL (z := 6) C dS_run_76 rfl rfl rfl ?_
  try simp only [rd, rdU, rowS, rowU, rowE, ne_eq, not_false_eq_true, Nat.reduceEqDiff, Int.reduceEq, true_and, false_and, and_true, and_false, ↓reduceIte]
  refine r_lk C dS_run_79 ?_
  have hsh : 0 ≤ sSh I L ∧ sSh I L ≤ 100000000000000 := by unfold sSh sMe; omega
  refine r_lc_le C dS_run_80 dS_run_81 (by omega) (fun b80 => ?_) (fun b80 => ?_)
  · refine r_ald C dS_run_92 rfl ?_
    refine r_callV C lzS_abateByClass dS_run_93 _ [] [] rfl rfl rfl rfl rfl (Nat.le_of_ble_eq_true rfl) ⟨(Nat.le_of_ble_eq_true rfl), (Nat.le_of_ble_eq_true rfl), (Nat.le_of_ble_eq_true rfl), (Nat.le_of_ble_eq_true rfl)⟩ rfl (g9 C.2.2.2.2.2.1 hb h4 h8 (fun I9 L9 h9 => ?_))
    refine r_ald C dS_run_96 rfl ?_
    refine r_callV C lzS_shareResidue dS_run_97 _ [] [] rfl rfl rfl rfl rfl (Nat.le_of_ble_eq_true rfl) ⟨(Nat.le_of_ble_eq_true rfl), (Nat.le_of_ble_eq_true rfl), (Nat.le_of_ble_eq_true rfl), (Nat.le_of_ble_eq_true rfl)⟩ rfl (g10 C.2.2.2.2.2.1 hb h9 (fun L10 h10 => ?_))
    refine r_ald C dS_run_100 rfl ?_
    refine r_callV C lzS_handOut dS_run_101 _ [] [] rfl rfl rfl rfl rfl (Nat.le_of_ble_eq_true rfl) ⟨(Nat.le_of_ble_eq_true rfl), (Nat.le_of_ble_eq_true rfl), (Nat.le_of_ble_eq_true rfl), (Nat.le_of_ble_eq_true rfl)⟩ rfl (g11 C.2.2.2.2.2.1 hb h9 h10 (fun I11 L11 h11 => ?_))
    refine r_ald C dS_run_104 rfl ?_
    refine r_getR C dS_run_105 rfl rfl ?_
    refine r_ik C dS_run_108 ?_
    refine r_ald C dS_run_109 rfl ?_
    refine r_getR C dS_run_110 rfl rfl ?_
    refine r_getR C dS_run_113 rfl rfl ?_
    refine r_callS C lzD_total dS_run_116 [_] [_, _] rfl rfl (Nat.le_of_ble_eq_true rfl) ⟨(Nat.le_of_ble_eq_true rfl), (Nat.le_of_ble_eq_true rfl), (Nat.le_of_ble_eq_true rfl), (Nat.le_of_ble_eq_true rfl)⟩ rfl (cD_total C.2.2.2.2.2.1 rfl ?_)
    refine r_last C dS_run_119 rfl rfl ⟨by omega, by omega⟩ (by decide) ?_
    exact r_vret C dS_run_120 rfl (Nat.le_of_ble_eq_true rfl) (Nat.le_of_ble_eq_true rfl) (by first | exact h1e b80 _ _ h9 | exact h2e b80 _ _ h11)
  · refine r_ald C dS_run_84 rfl ?_
    refine r_lld C dS_run_85 rfl ?_
    refine r_callV C lzS_payInProportion dS_run_86 _ [_] [] rfl rfl rfl rfl rfl (Nat.le_of_ble_eq_true rfl) ⟨(Nat.le_of_ble_eq_true rfl), (Nat.le_of_ble_eq_true rfl), (Nat.le_of_ble_eq_true rfl), (Nat.le_of_ble_eq_true rfl)⟩ rfl (g8 C.2.2.2.2.2.1 hb h4 h8 em (fun I9 L9 h9 => ?_))
    refine r_goto C dS_run_89 ?_
    refine r_ald C dS_run_104 rfl ?_
    refine r_getR C dS_run_105 rfl rfl ?_
    refine r_ik C dS_run_108 ?_
    refine r_ald C dS_run_109 rfl ?_
    refine r_getR C dS_run_110 rfl rfl ?_
    refine r_getR C dS_run_113 rfl rfl ?_
    refine r_callS C lzD_total dS_run_116 [_] [_, _] rfl rfl (Nat.le_of_ble_eq_true rfl) ⟨(Nat.le_of_ble_eq_true rfl), (Nat.le_of_ble_eq_true rfl), (Nat.le_of_ble_eq_true rfl), (Nat.le_of_ble_eq_true rfl)⟩ rfl (cD_total C.2.2.2.2.2.1 rfl ?_)
    refine r_last C dS_run_119 rfl rfl ⟨by omega, by omega⟩ (by decide) ?_
    exact r_vret C dS_run_120 rfl (Nat.le_of_ble_eq_true rfl) (Nat.le_of_ble_eq_true rfl) (by first | exact h1e b80 _ _ h9 | exact h2e b80 _ _ h11)
set_option maxRecDepth 100000 in
set_option maxHeartbeats 4000000 in
theorem cD_settle {g : ed_g} {l : Launch} (hl : l.stackTraces = false) {I : ed_I} {L : ed_L} (hb : Hb I L) (hd : 0 < I 1 0) {post : ed_post} (h1e : 0 < sSh I L → ∀ I9 L9, E1 I L (sSh I L) I9 L9 → post (.inl (some (.long (lZ (sSh I L))))) Yw (upI (upI I9 0 5 1) 0 6 1) (upI L9 78 1 (sm (L9 73) 40))) (h2e : sSh I L ≤ 0 → ∀ I9 L9, E2 I L (sSh I L) I9 L9 → post (.inl (some (.long (lZ (sSh I L))))) Yw (upI (upI I9 0 5 1) 0 6 1) (upI L9 78 1 (sm (L9 73) 40))) : ed_Ct g l mD_settle 6 1 6 [.ref 0] Yw I L post := by
  refine ed_Ct.of hl rfl (Nat.le_of_ble_eq_true rfl) (fun x _ C => ?_)
  show Gd g x post _ _ _ _ _ _ _ _ 0 [(0, _)] []
  refine r_ald C dD_settle_0 rfl ?_
  refine r_getR C dD_settle_1 rfl rfl ?_
  refine r_getI (z := 0) C dD_settle_4 rfl rfl rfl ?_
  try simp only [rd, rdU, rowS, rowU, rowE, ne_eq, not_false_eq_true, Nat.reduceEqDiff, Int.reduceEq, true_and, false_and, and_true, and_false, ↓reduceIte]
  refine r_if_le C dD_settle_7 (by have := hb.2.2.1; omega) (fun h9 => absurd h9 (by omega)) (fun _ => ?_)
  refine r_ik C dD_settle_10 ?_
  refine r_goto C dD_settle_11 ?_
  refine r_callS C lzD_requireState dD_settle_15 [_] [] rfl rfl (Nat.le_of_ble_eq_true rfl) ⟨(Nat.le_of_ble_eq_true rfl), (Nat.le_of_ble_eq_true rfl), (Nat.le_of_ble_eq_true rfl), (Nat.le_of_ble_eq_true rfl)⟩ rfl (cD_requireState C.2.2.2.2.2.1 rfl (by decide) (fun _ => ?_) (fun h => absurd h (by decide)))
  refine r_ald C dD_settle_18 rfl ?_
  refine r_getR C dD_settle_19 rfl rfl ?_
  refine r_callV C lzS_run dD_settle_22 _ [] [] rfl rfl rfl rfl rfl (Nat.le_of_ble_eq_true rfl) ⟨(Nat.le_of_ble_eq_true rfl), (Nat.le_of_ble_eq_true rfl), (Nat.le_of_ble_eq_true rfl), (Nat.le_of_ble_eq_true rfl)⟩ rfl (cS_run C.2.2.2.2.2.1 hb (fun b9 I9 L9 h9 => ?_) (fun b9 I9 L9 h9 => ?_))
  · refine r_ald C dD_settle_25 rfl ?_
    refine r_ik C dD_settle_26 ?_
    refine r_putI (z := 5) C dD_settle_27 rfl rfl rfl rfl (ed_pz0_5 (by omega)) ?_
    refine r_ald C dD_settle_30 rfl ?_
    refine r_ik C dD_settle_31 ?_
    refine r_putI (z := 6) C dD_settle_32 rfl rfl rfl rfl (ed_pz0_6 (by omega)) ?_
    refine r_ald C dD_settle_35 rfl ?_
    refine r_getR C dD_settle_36 rfl rfl ?_
    refine r_getL (z := 6) C dD_settle_39 rfl rfl rfl ?_
    rw [show upI L9 78 1 (sm (L9 73) 40) 74 6 = sSh I L from h9.2.2.2.2.2.2]
    exact r_lret C dD_settle_42 rfl (Nat.le_of_ble_eq_true rfl) (Nat.le_of_ble_eq_true rfl) (h1e b9 _ _ h9)
  · refine r_ald C dD_settle_25 rfl ?_
    refine r_ik C dD_settle_26 ?_
    refine r_putI (z := 5) C dD_settle_27 rfl rfl rfl rfl (ed_pz0_5 (by omega)) ?_
    refine r_ald C dD_settle_30 rfl ?_
    refine r_ik C dD_settle_31 ?_
    refine r_putI (z := 6) C dD_settle_32 rfl rfl rfl rfl (ed_pz0_6 (by omega)) ?_
    refine r_ald C dD_settle_35 rfl ?_
    refine r_getR C dD_settle_36 rfl rfl ?_
    refine r_getL (z := 6) C dD_settle_39 rfl rfl rfl ?_
    rw [show upI L9 78 1 (sm (L9 73) 40) 74 6 = sSh I L from h9.2.2.2.2.2.2]
    exact r_lret C dD_settle_42 rfl (Nat.le_of_ble_eq_true rfl) (Nat.le_of_ble_eq_true rfl) (h2e b9 _ _ h9)
