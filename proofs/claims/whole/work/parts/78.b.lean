/-! the stages of run -/
def Q1 (L L1 : ed_L) : Prop := fr [3, 4, 5] L L1 ∧ ∀ b, 0 ≤ b → b ≤ 40 → L1 3 b = 0 ∧ L1 4 b = 0 ∧ L1 5 b = 0
theorem g1 {g : ed_g} {l : Launch} (hl : l.stackTraces = false) {I : ed_I} {L : ed_L} {post : ed_post} (h : ∀ L1, Q1 L L1 → post (.inl none) Yw I L1) : ed_Ct g l mP_forgetSettling 1 0 0 [.ref 1] Yw I L post := by
  exact cP_forgetSettling hl (fun f1 f2 f3 h1 h2 h3 => h _ ⟨fun a ha => by simp only [List.mem_cons, List.not_mem_nil, or_false, not_or] at ha; simp [rowS, rowU, ha], fun b b0 b1 => ⟨h1 b b0 b1, h2 b b0 b1, h3 b b0 b1⟩⟩)
def Q2 (I : ed_I) (L : ed_L) (I2 : ed_I) (L2 : ed_L) : Prop := fr [12, 13] I I2 ∧ fr [3, 4, 5, 11] L L2 ∧ ∀ b, 0 ≤ b → b ≤ 40 → I2 12 b = 0 ∧ I2 13 b = -1 ∧ L2 11 b = sL0 I L b ∧ L2 3 b = 0 ∧ L2 4 b = 0 ∧ L2 5 b = 0
theorem g2 {g : ed_g} {l : Launch} (hl : l.stackTraces = false) {I : ed_I} {L : ed_L} (hb : Hb I L) {L1 : ed_L} (hq : Q1 L L1) {post : ed_post} (h : ∀ I2 L2, Q2 I L I2 L2 → post (.inl none) Yw I2 L2) : ed_Ct g l mA_forgetSettling 1 0 0 [.ref 6] Yw I L1 post := by
  refine cA_forgetSettling hl (fun j a b => (hb.1 j a b).1) (fun f f1 f2 hf hf0 h1 h2 => h _ _ ⟨fun a ha => by simp only [List.mem_cons, List.not_mem_nil, or_false, not_or] at ha; simp [rowS, rowU, ha], fr_trans (ks2 := [11]) hq.1 (fun a ha => by simp only [List.mem_cons, List.not_mem_nil, or_false, not_or] at ha; simp [rowS, rowU, ha]) (fun a ha => by simp only [List.mem_cons, List.not_mem_nil, or_false, not_or] at ha ⊢; simp [ha]), fun b b0 b1 => ⟨h1 b b0 b1, h2 b b0 b1, ?_, (hq.2 b b0 b1).1, (hq.2 b b0 b1).2.1, (hq.2 b b0 b1).2.2⟩⟩)
  show f b = sL0 I L b
  unfold sL0
  split
  · next e => rw [e, hf0, hq.1 11 (by decide)]; exact hb.2.2.2
  · next e =>
    rw [hf b (by omega) b1]
    unfold lf0
    rw [hq.1 8 (by decide)]
def Q3 (I : ed_I) (L : ed_L) (I3 : ed_I) (L3 : ed_L) : Prop := fr [12, 13, 61, 62] I I3 ∧ fr [3, 4, 5, 11, 63, 64, 65, 66, 67, 68] L L3 ∧ ∀ b, 0 ≤ b → b ≤ 40 → (I3 12 b = 0 ∧ I3 13 b = -1 ∧ I3 61 b = -1 ∧ I3 62 b = 0) ∧ L3 11 b = sL0 I L b ∧ (L3 3 b = 0 ∧ L3 4 b = 0 ∧ L3 5 b = 0) ∧ L3 63 b = 0 ∧ L3 64 b = 0 ∧ L3 65 b = 0 ∧ L3 66 b = 0 ∧ L3 67 b = 0 ∧ L3 68 b = 0
theorem g3 {g : ed_g} {l : Launch} (hl : l.stackTraces = false) {I : ed_I} {L : ed_L} {I2 : ed_I} {L2 : ed_L} (hq : Q2 I L I2 L2) {post : ed_post} (h : ∀ I3 L3, Q3 I L I3 L3 → post (.inl none) Yw I3 L3) : ed_Ct g l mC_forgetSettling 1 0 0 [.ref 14] Yw I2 L2 post := by
  exact cC_forgetSettling hl (fun f1 f2 f3 f4 f5 f6 f7 f8 h1 h2 h3 h4 h5 h6 h7 h8 => h _ _ ⟨fr_trans (ks2 := [61, 62]) hq.1 (fun a ha => by simp only [List.mem_cons, List.not_mem_nil, or_false, not_or] at ha; simp [rowS, rowU, ha]) (fun a ha => by simp only [List.mem_cons, List.not_mem_nil, or_false, not_or] at ha ⊢; simp [ha]), fr_trans (ks2 := [63, 64, 65, 66, 67, 68]) hq.2.1 (fun a ha => by simp only [List.mem_cons, List.not_mem_nil, or_false, not_or] at ha; simp [rowS, rowU, ha]) (fun a ha => by simp only [List.mem_cons, List.not_mem_nil, or_false, not_or] at ha ⊢; simp [ha]), fun b b0 b1 => ⟨⟨(hq.2.2 b b0 b1).1, (hq.2.2 b b0 b1).2.1, h1 b b0 b1, h2 b b0 b1⟩, (hq.2.2 b b0 b1).2.2.1, (hq.2.2 b b0 b1).2.2.2, h3 b b0 b1, h4 b b0 b1, h5 b b0 b1, h6 b b0 b1, h7 b b0 b1, h8 b b0 b1⟩⟩)
def Q4 (I : ed_I) (I4 : ed_I) : Prop := fr [12, 13, 61, 62] I I4 ∧ (∀ j, 1 ≤ j → j ≤ 40 → I4 61 j = st0 I j ∧ I4 62 j = sTo I j) ∧ ∀ b, 0 ≤ b → b ≤ 40 → I4 12 b = sGv I b ∧ I4 13 b = -1
theorem g4 {g : ed_g} {l : Launch} (hl : l.stackTraces = false) {I : ed_I} {L : ed_L} (hb : Hb I L) {I3 : ed_I} {L3 : ed_L} (hq : Q3 I L I3 L3) {post : ed_post} (h : ∀ I4, Q4 I I4 → post (.inl none) Yw I4 L3) : ed_Ct g l mS_judgeClauses 2 0 0 [.ref 74] Yw I3 L3 post := by
  refine cS_judgeClauses hl (fun j a b => by rw [hq.1 15 (by decide)]; exact (hb.1 j a b).2.1) (fun j a b => by rw [hq.1 17 (by decide)]; exact (hb.1 j a b).2.2.1) (fun j a b => by rw [hq.1 10 (by decide)]; exact (hb.1 j a b).1.2) (fun c j a b c0 d0 => by rw [hq.1 (20 + c.toNat) (by simp; omega)]; exact hb.2.1 c j a b c0 d0) ⟨by rw [hq.1 1 (by decide)]; exact hb.2.2.1, fun j a b => by rw [hq.1 2 (by decide)]; exact (hb.1 j a b).2.2.2.2.2.1⟩ (fun j a b => (hq.2.2 j (by omega) b).1.2.2.1) (fun j a b => (hq.2.2 j (by omega) b).1.2.2.2) (fun j a b => (hq.2.2 j a b).1.1) (fun f p h9 hf hp hh => h _ ⟨fr_trans (ks2 := [61, 62, 12]) hq.1 (fun a ha => by simp only [List.mem_cons, List.not_mem_nil, or_false, not_or] at ha; simp [rowS, rowU, ha]) (fun a ha => by simp only [List.mem_cons, List.not_mem_nil, or_false, not_or] at ha ⊢; simp [ha]), fun j j0 j1 => ⟨?_, ?_⟩, fun b b0 b1 => ⟨?_, (hq.2.2 b b0 b1).1.2.1⟩⟩)
  · exact (hf j j0 j1).trans (st0_of hq.1 ⟨by omega, j1⟩).1
  · show p j = sTo I j
    rw [hp j j0 j1, (st0_of hq.1 ⟨by omega, j1⟩).1, (st0_of hq.1 ⟨by omega, j1⟩).2]
    rfl
  · show h9 b = sGv I b
    rw [hh b b0 b1]
    exact gvF_congr (fun j j0 j1 => ⟨(st0_of hq.1 ⟨by omega, j1⟩).1, by rw [hq.1 15 (by decide)], by rw [hq.1 17 (by decide)]⟩) 40 (by decide) b
def Q5 (I : ed_I) (L L5 : ed_L) : Prop := fr [3, 4, 5, 11, 63, 64, 65, 66, 67, 68, 72, 73] L L5 ∧ (∀ b, 0 ≤ b → b ≤ 40 → L5 11 b = sL1 I L b ∧ (L5 3 b = 0 ∧ L5 4 b = 0 ∧ L5 5 b = 0) ∧ L5 63 b = 0 ∧ L5 64 b = 0 ∧ L5 65 b = 0 ∧ L5 66 b = 0 ∧ L5 67 b = 0 ∧ L5 68 b = 0) ∧ ∀ d, 1 ≤ d → d ≤ 40 → L5 72 d = sOrd I L d ∧ L5 73 d = L 70 d
theorem g5 {g : ed_g} {l : Launch} (hl : l.stackTraces = false) {I : ed_I} {L : ed_L} (hb : Hb I L) {I3 I4 : ed_I} {L3 : ed_L} (hq : Q3 I L I3 L3) (hj : Q4 I I4) {post : ed_post} (h : ∀ L5, Q5 I L L5 → post (.inl none) Yw I4 L5) : ed_Ct g l mS_divideDebts 2 0 0 [.ref 74] Yw I4 L3 post := by
  have e70 : L3 70 = L 70 := hq.2.1 70 (by decide)
  have e71 : I4 71 = I 71 := hj.1 71 (by decide)
  have ed : ∀ j, 1 ≤ j → j ≤ 40 → dvq I4 j = sQd I j := fun j j0 j1 => by
    have q := (hb.1 j (by omega) j1).2.2.2.2.1
    unfold dvq sQd
    rw [e71, (hj.2.2 (I 71 j) q.1 q.2).1, hj.1 18 (by decide)]
  have hc : ∀ j, 1 ≤ j → j ≤ 40 → dvq I4 j = sQd I j ∧ (dvq I4 j = true → I4 71 j = I 71 j ∧ L3 70 j = L 70 j ∧ 0 ≤ I4 71 j ∧ I4 71 j ≤ 40) := fun j j0 j1 => ⟨ed j j0 j1, fun _ => ⟨by rw [e71], by rw [e70], by rw [e71]; exact (hb.1 j (by omega) j1).2.2.2.2.1⟩⟩
  have hl11 : ∀ b, 0 ≤ b → b ≤ 40 → L3 11 b = sL0 I L b := fun b b0 b1 => (hq.2.2 b b0 b1).2.1
  refine cS_divideDebts hl (fun j a b => by rw [e70]; exact (hb.1 j a b).2.2.2.2.2.2.2.2) (fun j a b => by rw [e71]; exact (hb.1 j a b).2.2.2.2.1) (fun j a b => by rw [(hj.2.2 j a b).1]; have := gvF_in (st0 I) (I 15) (I 17) j 40; exact ⟨this.1, this.2⟩) (fun j a b => by rw [hj.1 18 (by decide)]; exact (hb.1 j a b).2.2.2.1) (fun j a b => by rw [hl11 j a b]; exact sL0_in hb ⟨a, b⟩) (fun f p h9 hf hp hh => h _ ⟨fr_trans (ks2 := [11, 72, 73]) hq.2.1 (fun a ha => by simp only [List.mem_cons, List.not_mem_nil, or_false, not_or] at ha; simp [rowS, rowU, ha]) (fun a ha => by simp only [List.mem_cons, List.not_mem_nil, or_false, not_or] at ha ⊢; simp [ha]), fun b b0 b1 => ⟨?_, (hq.2.2 b b0 b1).2.2.1, (hq.2.2 b b0 b1).2.2.2⟩, fun d d0 d1 => ⟨?_, ?_⟩⟩)
  · show f b = sL1 I L b
    rw [hf]
    exact tkL_congr hc hl11 40 (by decide) b b0 b1
  · show p d = sOrd I L d
    rw [hp d d0 d1, e70, ← e70, tkO_congr hc hl11 ⟨d0, d1⟩, e70]
    rfl
  · show h9 d = L 70 d
    rw [hh d d0 d1, e70]
def Q6 (I : ed_I) (L L6 : ed_L) : Prop := fr [3, 4, 5, 11, 63, 64, 65, 66, 67, 68, 72, 73] L L6 ∧ (∀ b, 0 ≤ b → b ≤ 40 → L6 11 b = sL2 I L 40 b ∧ (L6 3 b = 0 ∧ L6 4 b = 0 ∧ L6 5 b = 0) ∧ L6 67 b = 0 ∧ L6 68 b = 0) ∧ ∀ d, 1 ≤ d → d ≤ 40 → (L6 72 d = sOrd I L d ∧ L6 73 d = L 70 d) ∧ L6 63 d = sGi I L d ∧ L6 64 d = sDr I L d ∧ L6 65 d = sGe I L d ∧ L6 66 d = sRp I L d
theorem g6 {g : ed_g} {l : Launch} (hl : l.stackTraces = false) {I : ed_I} {L : ed_L} (hb : Hb I L) {I4 : ed_I} {L5 : ed_L} (hj : Q4 I I4) (hq : Q5 I L L5) {post : ed_post} (h : ∀ L6, Q6 I L L6 → post (.inl none) Yw I4 L6) : ed_Ct g l mS_valueClauses 3 0 0 [.ref 74] Yw I4 L5 post := by
  have e16 : L5 16 = L 16 := hq.1 16 (by decide)
  have e17 : I4 17 = I 17 := hj.1 17 (by decide)
  have e15 : I4 15 = I 15 := hj.1 15 (by decide)
  have ed : ∀ j, 1 ≤ j → j ≤ 40 → vcq I4 j = sQv I j := fun j j0 j1 => by
    unfold vcq sQv
    rw [(hj.2.1 j j0 j1).1, e15]
  have hc : ∀ j, 1 ≤ j → j ≤ 40 → vcq I4 j = sQv I j ∧ (vcq I4 j = true → I4 17 j = I 17 j ∧ L5 16 j = L 16 j ∧ 0 ≤ I4 17 j ∧ I4 17 j ≤ 40) := fun j j0 j1 => ⟨ed j j0 j1, fun _ => ⟨by rw [e17], by rw [e16], by rw [e17]; exact (hb.1 j (by omega) j1).2.2.1⟩⟩
  have hl11 : ∀ b, 0 ≤ b → b ≤ 40 → L5 11 b = sL1 I L b := fun b b0 b1 => (hq.2.1 b b0 b1).1
  have hdr : ∀ j, 1 ≤ j → j ≤ 40 → tkO (vcq I4) (I4 17) (L5 16) (L5 11) j = sDr I L j := fun j j0 j1 => tkO_congr hc hl11 ⟨j0, j1⟩
  refine cS_valueClauses hl (fun j a b => by rw [(hj.2.1 j a b).1]; unfold st0; repeat (first | omega | split)) (fun j a b => by rw [e15]; exact (hb.1 j a b).2.1) (fun j a b => by rw [e17]; exact (hb.1 j a b).2.2.1) (fun j a b => by rw [e16]; exact (hb.1 j a b).2.2.2.2.2.2.2.1) (fun j a b => by rw [hl11 j a b]; have q1 := sL1_in hb (b := j) ⟨a, b⟩; have q2 := sL0_in hb (b := j) ⟨a, b⟩; omega) (fun j a b => ⟨(hq.2.1 j a b).2.2.1, (hq.2.1 j a b).2.2.2.2.2.1, (hq.2.1 j a b).2.2.2.1, (hq.2.1 j a b).2.2.2.2.1⟩) (fun f p h9 m n hf hp hm hn hh => h _ ⟨fr_trans (ks2 := [63, 66, 11, 64, 65]) hq.1 (fun a ha => by simp only [List.mem_cons, List.not_mem_nil, or_false, not_or] at ha; simp [rowS, rowU, ha]) (fun a ha => by simp only [List.mem_cons, List.not_mem_nil, or_false, not_or] at ha ⊢; simp [ha]), fun b b0 b1 => ⟨?_, (hq.2.1 b b0 b1).2.1, (hq.2.1 b b0 b1).2.2.2.2.2.2⟩, fun d d0 d1 => ⟨hq.2.2 d d0 d1, ?_, ?_, ?_, ?_⟩⟩)
  · show h9 b = sL2 I L 40 b
    rw [hh]
    exact tkL_congr hc hl11 40 (by decide) b b0 b1
  · show f d = sGi I L d
    have q := (hb.1 d (by omega) d1).2.2.1
    rw [hf d d0 (by omega), (hj.2.1 d d0 d1).1, e15, tkL_congr hc hl11 (d - 1).toNat (by omega) (I4 17 d) (by rw [e17]; exact q.1) (by rw [e17]; exact q.2), e17]
    rfl
  · show m d = sDr I L d
    rw [hm d d0 (by omega), hdr d d0 d1]
  · show n d = sGe I L d
    rw [hn d d0 (by omega), hdr d d0 d1, ed d d0 d1, e16]
    rfl
  · show p d = sRp I L d
    rw [hp d d0 (by omega), (hj.2.1 d d0 d1).1, e15, e16]
    rfl
def Q7 (I : ed_I) (L L7 : ed_L) : Prop := fr [3, 4, 5, 11, 63, 64, 65, 66, 67, 68, 72, 73, 78] L L7 ∧ (∀ b, 0 ≤ b → b ≤ 40 → L7 11 b = sL2 I L 40 b ∧ (L7 3 b = 0 ∧ L7 4 b = 0 ∧ L7 5 b = 0) ∧ L7 67 b = 0 ∧ L7 68 b = 0) ∧ (∀ d, 1 ≤ d → d ≤ 40 → (L7 72 d = sOrd I L d ∧ L7 73 d = L 70 d) ∧ L7 63 d = sGi I L d ∧ L7 64 d = sDr I L d ∧ L7 65 d = sGe I L d ∧ L7 66 d = sRp I L d) ∧ L7 78 0 = sm (aT I L) 40 ∧ L7 78 2 = sT I L ∧ L7 78 3 = sD I L ∧ L7 78 4 = sG I L ∧ L7 78 5 = sN I L ∧ L7 78 6 = sS I L ∧ L7 78 7 = sRe I L
theorem g7 {g : ed_g} {l : Launch} (hl : l.stackTraces = false) {I : ed_I} {L : ed_L} (hb : Hb I L) {I4 : ed_I} {L6 : ed_L} (hj : Q4 I I4) (hq : Q6 I L L6) {post : ed_post} (h : ∀ L7, Q7 I L L7 → post (.inl none) Yw I4 L7) : ed_Ct g l mS_addUp 1 0 0 [.ref 74] Yw I4 L6 post := by
  have e8 : L6 8 = L 8 := hq.1 8 (by decide)
  have e7 : I4 7 = I 7 := hj.1 7 (by decide)
  have e10 : I4 10 = I 10 := hj.1 10 (by decide)
  have hs := sSum_in hb
  have a1 : sm (L6 72) 40 = sD I L := sm_congr (fun j j0 j1 => (hq.2.2 j j0 j1).1.1) 40 (by decide)
  have a2 : sm (L6 65) 40 = sG I L := sm_congr (fun j j0 j1 => (hq.2.2 j j0 j1).2.2.2.1) 40 (by decide)
  have a3 : sm (L6 64) 40 = sN I L := sm_congr (fun j j0 j1 => (hq.2.2 j j0 j1).2.2.1) 40 (by decide)
  have a4 : sm (L6 63) 40 = sS I L := sm_congr (fun j j0 j1 => (hq.2.2 j j0 j1).2.1) 40 (by decide)
  have a5 : sm (aF I4 L6) 40 = sT I L := sm_congr (fun j j0 j1 => by unfold aF sFr; rw [e7, e10, (hj.2.2 j (by omega) j1).1, (hq.2.1 j (by omega) j1).1]) 40 (by decide)
  have a6 : sm (aT I4 L6) 40 = sm (aT I L) 40 := sm_congr (fun j j0 j1 => by unfold aT; rw [e7, e10, e8]) 40 (by decide)
  refine cS_addUp hl (fun j a b => by rw [e7, e10]; exact (hb.1 j a b).1) (fun j a b => by rw [(hj.2.2 j a b).1]; have := gvF_in (st0 I) (I 15) (I 17) j 40; exact ⟨this.1, this.2⟩) (fun j a b => by rw [e8]; exact (hb.1 j a b).2.2.2.2.2.2.1) (fun j a b => by rw [(hq.2.1 j a b).1]; have q0 := sL2_in hb (b := j) ⟨a, b⟩ (n := 40) (by decide); have q1 := sL1_in hb (b := j) ⟨a, b⟩; have q2 := sL0_in hb (b := j) ⟨a, b⟩; omega) (by rw [a1]; omega) (by rw [a2]; omega) (fun s h0 h2 h3 h4 h5 h6 h7 => h _ ⟨fr_trans (ks2 := [78]) hq.1 (fun a ha => by simp only [List.mem_cons, List.not_mem_nil, or_false, not_or] at ha; simp [rowS, rowU, ha]) (fun a ha => by simp only [List.mem_cons, List.not_mem_nil, or_false, not_or] at ha ⊢; simp [ha]), hq.2.1, hq.2.2, h0.trans a6, h2.trans a5, h3.trans a1, h4.trans a2, h5.trans a3, h6.trans a4, ?_⟩)
  show s 7 = sRe I L
  rw [h7, a5, a1, a2]
  rfl
