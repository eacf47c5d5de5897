section
-- ===== PART A: goes FIRST, ahead of the names: the tables' words, and 'selects' of the private methods out of them =====
/-- a private method of a class that the tables say can be made, by its rows of tables_1 -/
def lw_okq (q : MethodName × Nat) : Prop := (q.1.cls ≠ "java/lang/invoke/MethodHandle" ∧ q.1.cls ≠ "java/lang/invoke/VarHandle") ∧ Cond.instantiable q.1.cls q.2 ∈ tables_1 ∧ Cond.privateMethod q.1 ∈ tables_1 ∧ Cond.instanceMethod q.1 ∈ tables_1
theorem lw_p0 : lw_okq (⟨"java/lang/Throwable", "fillInStackTrace", "(I)Ljava/lang/Throwable;"⟩, 6) := ⟨⟨by decide +kernel, by decide +kernel⟩, List.mem_of_getElem? (i := 313) (by decide +kernel), List.mem_of_getElem? (i := 311) (by decide +kernel), List.mem_of_getElem? (i := 312) (by decide +kernel)⟩
theorem lw_p1 : lw_okq (⟨"EstateDesk", "requireOpen", "()V"⟩, 8) := ⟨⟨by decide +kernel, by decide +kernel⟩, List.mem_of_getElem? (i := 17) (by decide +kernel), List.mem_of_getElem? (i := 338) (by decide +kernel), List.mem_of_getElem? (i := 339) (by decide +kernel)⟩
theorem lw_p2 : lw_okq (⟨"EstateDesk", "noteFact", "()V"⟩, 8) := ⟨⟨by decide +kernel, by decide +kernel⟩, List.mem_of_getElem? (i := 17) (by decide +kernel), List.mem_of_getElem? (i := 360) (by decide +kernel), List.mem_of_getElem? (i := 361) (by decide +kernel)⟩
theorem lw_p3 : lw_okq (⟨"EstateDesk", "requireAsset", "(I)V"⟩, 8) := ⟨⟨by decide +kernel, by decide +kernel⟩, List.mem_of_getElem? (i := 17) (by decide +kernel), List.mem_of_getElem? (i := 387) (by decide +kernel), List.mem_of_getElem? (i := 388) (by decide +kernel)⟩
theorem lw_p4 : lw_okq (⟨"EstateDesk", "requireAssetOrNone", "(I)V"⟩, 8) := ⟨⟨by decide +kernel, by decide +kernel⟩, List.mem_of_getElem? (i := 17) (by decide +kernel), List.mem_of_getElem? (i := 420) (by decide +kernel), List.mem_of_getElem? (i := 421) (by decide +kernel)⟩
theorem lw_p5 : lw_okq (⟨"EstateDesk$Settling", "judgeClauses", "()V"⟩, 7) := ⟨⟨by decide +kernel, by decide +kernel⟩, List.mem_of_getElem? (i := 191) (by decide +kernel), List.mem_of_getElem? (i := 515) (by decide +kernel), List.mem_of_getElem? (i := 516) (by decide +kernel)⟩
theorem lw_p6 : lw_okq (⟨"EstateDesk$Settling", "firstWhoOutlived", "([I)I"⟩, 7) := ⟨⟨by decide +kernel, by decide +kernel⟩, List.mem_of_getElem? (i := 191) (by decide +kernel), List.mem_of_getElem? (i := 519) (by decide +kernel), List.mem_of_getElem? (i := 520) (by decide +kernel)⟩
theorem lw_p7 : lw_okq (⟨"EstateDesk$Settling", "judge", "(II)V"⟩, 7) := ⟨⟨by decide +kernel, by decide +kernel⟩, List.mem_of_getElem? (i := 191) (by decide +kernel), List.mem_of_getElem? (i := 527) (by decide +kernel), List.mem_of_getElem? (i := 528) (by decide +kernel)⟩
theorem lw_p8 : lw_okq (⟨"EstateDesk$Settling", "divideDebts", "()V"⟩, 7) := ⟨⟨by decide +kernel, by decide +kernel⟩, List.mem_of_getElem? (i := 191) (by decide +kernel), List.mem_of_getElem? (i := 531) (by decide +kernel), List.mem_of_getElem? (i := 532) (by decide +kernel)⟩
theorem lw_p9 : lw_okq (⟨"EstateDesk$Settling", "valueClauses", "()V"⟩, 7) := ⟨⟨by decide +kernel, by decide +kernel⟩, List.mem_of_getElem? (i := 191) (by decide +kernel), List.mem_of_getElem? (i := 542) (by decide +kernel), List.mem_of_getElem? (i := 543) (by decide +kernel)⟩
theorem lw_p10 : lw_okq (⟨"EstateDesk$Settling", "valueGood", "(I)V"⟩, 7) := ⟨⟨by decide +kernel, by decide +kernel⟩, List.mem_of_getElem? (i := 191) (by decide +kernel), List.mem_of_getElem? (i := 546) (by decide +kernel), List.mem_of_getElem? (i := 547) (by decide +kernel)⟩
theorem lw_p11 : lw_okq (⟨"EstateDesk$Settling", "addUp", "()V"⟩, 7) := ⟨⟨by decide +kernel, by decide +kernel⟩, List.mem_of_getElem? (i := 191) (by decide +kernel), List.mem_of_getElem? (i := 550) (by decide +kernel), List.mem_of_getElem? (i := 551) (by decide +kernel)⟩
theorem lw_p12 : lw_okq (⟨"EstateDesk$Settling", "payInProportion", "(J)V"⟩, 7) := ⟨⟨by decide +kernel, by decide +kernel⟩, List.mem_of_getElem? (i := 191) (by decide +kernel), List.mem_of_getElem? (i := 561) (by decide +kernel), List.mem_of_getElem? (i := 562) (by decide +kernel)⟩
theorem lw_p13 : lw_okq (⟨"EstateDesk$Split", "cut", "(IJJJ)V"⟩, 2) := ⟨⟨by decide +kernel, by decide +kernel⟩, List.mem_of_getElem? (i := 197) (by decide +kernel), List.mem_of_getElem? (i := 571) (by decide +kernel), List.mem_of_getElem? (i := 572) (by decide +kernel)⟩
theorem lw_p14 : lw_okq (⟨"EstateDesk$Split", "greatestRest", "()I"⟩, 2) := ⟨⟨by decide +kernel, by decide +kernel⟩, List.mem_of_getElem? (i := 197) (by decide +kernel), List.mem_of_getElem? (i := 577) (by decide +kernel), List.mem_of_getElem? (i := 578) (by decide +kernel)⟩
theorem lw_p15 : lw_okq (⟨"EstateDesk$Settling", "abateByClass", "()V"⟩, 7) := ⟨⟨by decide +kernel, by decide +kernel⟩, List.mem_of_getElem? (i := 191) (by decide +kernel), List.mem_of_getElem? (i := 586) (by decide +kernel), List.mem_of_getElem? (i := 587) (by decide +kernel)⟩
def lw_privs_1 : List (MethodName × Nat) := [(⟨"java/lang/Throwable", "fillInStackTrace", "(I)Ljava/lang/Throwable;"⟩, 6), (⟨"EstateDesk", "requireOpen", "()V"⟩, 8), (⟨"EstateDesk", "noteFact", "()V"⟩, 8), (⟨"EstateDesk", "requireAsset", "(I)V"⟩, 8), (⟨"EstateDesk", "requireAssetOrNone", "(I)V"⟩, 8), (⟨"EstateDesk$Settling", "judgeClauses", "()V"⟩, 7), (⟨"EstateDesk$Settling", "firstWhoOutlived", "([I)I"⟩, 7), (⟨"EstateDesk$Settling", "judge", "(II)V"⟩, 7), (⟨"EstateDesk$Settling", "divideDebts", "()V"⟩, 7), (⟨"EstateDesk$Settling", "valueClauses", "()V"⟩, 7), (⟨"EstateDesk$Settling", "valueGood", "(I)V"⟩, 7), (⟨"EstateDesk$Settling", "addUp", "()V"⟩, 7), (⟨"EstateDesk$Settling", "payInProportion", "(J)V"⟩, 7), (⟨"EstateDesk$Split", "cut", "(IJJJ)V"⟩, 2), (⟨"EstateDesk$Split", "greatestRest", "()I"⟩, 2), (⟨"EstateDesk$Settling", "abateByClass", "()V"⟩, 7)]
theorem lw_r1 : ∀ q ∈ lw_privs_1, lw_okq q := List.forall_mem_cons.mpr ⟨lw_p0, List.forall_mem_cons.mpr ⟨lw_p1, List.forall_mem_cons.mpr ⟨lw_p2, List.forall_mem_cons.mpr ⟨lw_p3, List.forall_mem_cons.mpr ⟨lw_p4, List.forall_mem_cons.mpr ⟨lw_p5, List.forall_mem_cons.mpr ⟨lw_p6, List.forall_mem_cons.mpr ⟨lw_p7, List.forall_mem_cons.mpr ⟨lw_p8, List.forall_mem_cons.mpr ⟨lw_p9, List.forall_mem_cons.mpr ⟨lw_p10, List.forall_mem_cons.mpr ⟨lw_p11, List.forall_mem_cons.mpr ⟨lw_p12, List.forall_mem_cons.mpr ⟨lw_p13, List.forall_mem_cons.mpr ⟨lw_p14, List.forall_mem_cons.mpr ⟨lw_p15, fun _ h => absurd h List.not_mem_nil⟩⟩⟩⟩⟩⟩⟩⟩⟩⟩⟩⟩⟩⟩⟩⟩
theorem lw_p16 : lw_okq (⟨"EstateDesk$Settling", "bear", "([JJ)V"⟩, 7) := ⟨⟨by decide +kernel, by decide +kernel⟩, List.mem_of_getElem? (i := 191) (by decide +kernel), List.mem_of_getElem? (i := 591) (by decide +kernel), List.mem_of_getElem? (i := 592) (by decide +kernel)⟩
theorem lw_p17 : lw_okq (⟨"EstateDesk$Settling", "shareResidue", "()V"⟩, 7) := ⟨⟨by decide +kernel, by decide +kernel⟩, List.mem_of_getElem? (i := 191) (by decide +kernel), List.mem_of_getElem? (i := 595) (by decide +kernel), List.mem_of_getElem? (i := 596) (by decide +kernel)⟩
theorem lw_p18 : lw_okq (⟨"EstateDesk$Settling", "handOut", "()V"⟩, 7) := ⟨⟨by decide +kernel, by decide +kernel⟩, List.mem_of_getElem? (i := 191) (by decide +kernel), List.mem_of_getElem? (i := 599) (by decide +kernel), List.mem_of_getElem? (i := 600) (by decide +kernel)⟩
theorem lw_p19 : lw_okq (⟨"EstateDeskModel", "isBarred", "(ZZ)Z"⟩, 37) := ⟨⟨by decide +kernel, by decide +kernel⟩, List.mem_of_getElem? (i := 662) (by decide +kernel), List.mem_of_getElem? (i := 792) (by decide +kernel), List.mem_of_getElem? (i := 793) (by decide +kernel)⟩
theorem lw_p20 : lw_okq (⟨"EstateDeskModel", "refused", "(I)Z"⟩, 37) := ⟨⟨by decide +kernel, by decide +kernel⟩, List.mem_of_getElem? (i := 662) (by decide +kernel), List.mem_of_getElem? (i := 796) (by decide +kernel), List.mem_of_getElem? (i := 797) (by decide +kernel)⟩
theorem lw_p21 : lw_okq (⟨"EstateDeskModel", "hasAsset", "(I)Z"⟩, 37) := ⟨⟨by decide +kernel, by decide +kernel⟩, List.mem_of_getElem? (i := 662) (by decide +kernel), List.mem_of_getElem? (i := 820) (by decide +kernel), List.mem_of_getElem? (i := 821) (by decide +kernel)⟩
theorem lw_p22 : lw_okq (⟨"EstateDeskModel", "isHad", "(IIZ)Z"⟩, 37) := ⟨⟨by decide +kernel, by decide +kernel⟩, List.mem_of_getElem? (i := 662) (by decide +kernel), List.mem_of_getElem? (i := 832) (by decide +kernel), List.mem_of_getElem? (i := 833) (by decide +kernel)⟩
theorem lw_p23 : lw_okq (⟨"EstateDeskModel", "tell", "(IIIJI)V"⟩, 37) := ⟨⟨by decide +kernel, by decide +kernel⟩, List.mem_of_getElem? (i := 662) (by decide +kernel), List.mem_of_getElem? (i := 836) (by decide +kernel), List.mem_of_getElem? (i := 837) (by decide +kernel)⟩
theorem lw_p24 : lw_okq (⟨"EstateDeskModel", "findStates", "()V"⟩, 37) := ⟨⟨by decide +kernel, by decide +kernel⟩, List.mem_of_getElem? (i := 662) (by decide +kernel), List.mem_of_getElem? (i := 876) (by decide +kernel), List.mem_of_getElem? (i := 877) (by decide +kernel)⟩
theorem lw_p25 : lw_okq (⟨"EstateDeskModel", "takerOf", "(I)I"⟩, 37) := ⟨⟨by decide +kernel, by decide +kernel⟩, List.mem_of_getElem? (i := 662) (by decide +kernel), List.mem_of_getElem? (i := 880) (by decide +kernel), List.mem_of_getElem? (i := 881) (by decide +kernel)⟩
theorem lw_p26 : lw_okq (⟨"EstateDeskModel", "outlived", "(I)Z"⟩, 37) := ⟨⟨by decide +kernel, by decide +kernel⟩, List.mem_of_getElem? (i := 662) (by decide +kernel), List.mem_of_getElem? (i := 884) (by decide +kernel), List.mem_of_getElem? (i := 885) (by decide +kernel)⟩
theorem lw_p27 : lw_okq (⟨"EstateDeskModel", "findOwn", "()V"⟩, 37) := ⟨⟨by decide +kernel, by decide +kernel⟩, List.mem_of_getElem? (i := 662) (by decide +kernel), List.mem_of_getElem? (i := 888) (by decide +kernel), List.mem_of_getElem? (i := 889) (by decide +kernel)⟩
theorem lw_p28 : lw_okq (⟨"EstateDeskModel", "giftOf", "(I)I"⟩, 37) := ⟨⟨by decide +kernel, by decide +kernel⟩, List.mem_of_getElem? (i := 662) (by decide +kernel), List.mem_of_getElem? (i := 892) (by decide +kernel), List.mem_of_getElem? (i := 893) (by decide +kernel)⟩
theorem lw_p29 : lw_okq (⟨"EstateDeskModel", "isGood", "(II)Z"⟩, 37) := ⟨⟨by decide +kernel, by decide +kernel⟩, List.mem_of_getElem? (i := 662) (by decide +kernel), List.mem_of_getElem? (i := 896) (by decide +kernel), List.mem_of_getElem? (i := 897) (by decide +kernel)⟩
theorem lw_p30 : lw_okq (⟨"EstateDeskModel", "findValues", "()V"⟩, 37) := ⟨⟨by decide +kernel, by decide +kernel⟩, List.mem_of_getElem? (i := 662) (by decide +kernel), List.mem_of_getElem? (i := 900) (by decide +kernel), List.mem_of_getElem? (i := 901) (by decide +kernel)⟩
theorem lw_p31 : lw_okq (⟨"EstateDeskModel", "ownOf", "(I)J"⟩, 37) := ⟨⟨by decide +kernel, by decide +kernel⟩, List.mem_of_getElem? (i := 662) (by decide +kernel), List.mem_of_getElem? (i := 904) (by decide +kernel), List.mem_of_getElem? (i := 905) (by decide +kernel)⟩
def lw_privs_2 : List (MethodName × Nat) := [(⟨"EstateDesk$Settling", "bear", "([JJ)V"⟩, 7), (⟨"EstateDesk$Settling", "shareResidue", "()V"⟩, 7), (⟨"EstateDesk$Settling", "handOut", "()V"⟩, 7), (⟨"EstateDeskModel", "isBarred", "(ZZ)Z"⟩, 37), (⟨"EstateDeskModel", "refused", "(I)Z"⟩, 37), (⟨"EstateDeskModel", "hasAsset", "(I)Z"⟩, 37), (⟨"EstateDeskModel", "isHad", "(IIZ)Z"⟩, 37), (⟨"EstateDeskModel", "tell", "(IIIJI)V"⟩, 37), (⟨"EstateDeskModel", "findStates", "()V"⟩, 37), (⟨"EstateDeskModel", "takerOf", "(I)I"⟩, 37), (⟨"EstateDeskModel", "outlived", "(I)Z"⟩, 37), (⟨"EstateDeskModel", "findOwn", "()V"⟩, 37), (⟨"EstateDeskModel", "giftOf", "(I)I"⟩, 37), (⟨"EstateDeskModel", "isGood", "(II)Z"⟩, 37), (⟨"EstateDeskModel", "findValues", "()V"⟩, 37), (⟨"EstateDeskModel", "ownOf", "(I)J"⟩, 37)]
theorem lw_r2 : ∀ q ∈ lw_privs_2, lw_okq q := List.forall_mem_cons.mpr ⟨lw_p16, List.forall_mem_cons.mpr ⟨lw_p17, List.forall_mem_cons.mpr ⟨lw_p18, List.forall_mem_cons.mpr ⟨lw_p19, List.forall_mem_cons.mpr ⟨lw_p20, List.forall_mem_cons.mpr ⟨lw_p21, List.forall_mem_cons.mpr ⟨lw_p22, List.forall_mem_cons.mpr ⟨lw_p23, List.forall_mem_cons.mpr ⟨lw_p24, List.forall_mem_cons.mpr ⟨lw_p25, List.forall_mem_cons.mpr ⟨lw_p26, List.forall_mem_cons.mpr ⟨lw_p27, List.forall_mem_cons.mpr ⟨lw_p28, List.forall_mem_cons.mpr ⟨lw_p29, List.forall_mem_cons.mpr ⟨lw_p30, List.forall_mem_cons.mpr ⟨lw_p31, fun _ h => absurd h List.not_mem_nil⟩⟩⟩⟩⟩⟩⟩⟩⟩⟩⟩⟩⟩⟩⟩⟩
theorem lw_p32 : lw_okq (⟨"EstateDeskModel", "addUp", "()V"⟩, 37) := ⟨⟨by decide +kernel, by decide +kernel⟩, List.mem_of_getElem? (i := 662) (by decide +kernel), List.mem_of_getElem? (i := 914) (by decide +kernel), List.mem_of_getElem? (i := 915) (by decide +kernel)⟩
theorem lw_p33 : lw_okq (⟨"EstateDeskModel", "spread", "(J)V"⟩, 37) := ⟨⟨by decide +kernel, by decide +kernel⟩, List.mem_of_getElem? (i := 662) (by decide +kernel), List.mem_of_getElem? (i := 921) (by decide +kernel), List.mem_of_getElem? (i := 922) (by decide +kernel)⟩
theorem lw_p34 : lw_okq (⟨"EstateDeskModel", "split", "(J)V"⟩, 37) := ⟨⟨by decide +kernel, by decide +kernel⟩, List.mem_of_getElem? (i := 662) (by decide +kernel), List.mem_of_getElem? (i := 925) (by decide +kernel), List.mem_of_getElem? (i := 926) (by decide +kernel)⟩
theorem lw_p35 : lw_okq (⟨"EstateDeskModel", "share", "(IJJ)V"⟩, 37) := ⟨⟨by decide +kernel, by decide +kernel⟩, List.mem_of_getElem? (i := 662) (by decide +kernel), List.mem_of_getElem? (i := 930) (by decide +kernel), List.mem_of_getElem? (i := 931) (by decide +kernel)⟩
theorem lw_p36 : lw_okq (⟨"EstateDeskModel", "bear", "(IJ)V"⟩, 37) := ⟨⟨by decide +kernel, by decide +kernel⟩, List.mem_of_getElem? (i := 662) (by decide +kernel), List.mem_of_getElem? (i := 938) (by decide +kernel), List.mem_of_getElem? (i := 939) (by decide +kernel)⟩
theorem lw_p37 : lw_okq (⟨"EstateDeskModel", "shareResidue", "(J)V"⟩, 37) := ⟨⟨by decide +kernel, by decide +kernel⟩, List.mem_of_getElem? (i := 662) (by decide +kernel), List.mem_of_getElem? (i := 942) (by decide +kernel), List.mem_of_getElem? (i := 943) (by decide +kernel)⟩
theorem lw_p38 : lw_okq (⟨"EstateDeskModel", "hand", "()V"⟩, 37) := ⟨⟨by decide +kernel, by decide +kernel⟩, List.mem_of_getElem? (i := 662) (by decide +kernel), List.mem_of_getElem? (i := 946) (by decide +kernel), List.mem_of_getElem? (i := 947) (by decide +kernel)⟩
theorem lw_p39 : lw_okq (⟨"EstateDeskModel", "isWrong", "(Z)Z"⟩, 37) := ⟨⟨by decide +kernel, by decide +kernel⟩, List.mem_of_getElem? (i := 662) (by decide +kernel), List.mem_of_getElem? (i := 954) (by decide +kernel), List.mem_of_getElem? (i := 955) (by decide +kernel)⟩
def lw_privs_3 : List (MethodName × Nat) := [(⟨"EstateDeskModel", "addUp", "()V"⟩, 37), (⟨"EstateDeskModel", "spread", "(J)V"⟩, 37), (⟨"EstateDeskModel", "split", "(J)V"⟩, 37), (⟨"EstateDeskModel", "share", "(IJJ)V"⟩, 37), (⟨"EstateDeskModel", "bear", "(IJ)V"⟩, 37), (⟨"EstateDeskModel", "shareResidue", "(J)V"⟩, 37), (⟨"EstateDeskModel", "hand", "()V"⟩, 37), (⟨"EstateDeskModel", "isWrong", "(Z)Z"⟩, 37)]
theorem lw_r3 : ∀ q ∈ lw_privs_3, lw_okq q := List.forall_mem_cons.mpr ⟨lw_p32, List.forall_mem_cons.mpr ⟨lw_p33, List.forall_mem_cons.mpr ⟨lw_p34, List.forall_mem_cons.mpr ⟨lw_p35, List.forall_mem_cons.mpr ⟨lw_p36, List.forall_mem_cons.mpr ⟨lw_p37, List.forall_mem_cons.mpr ⟨lw_p38, List.forall_mem_cons.mpr ⟨lw_p39, fun _ h => absurd h List.not_mem_nil⟩⟩⟩⟩⟩⟩⟩⟩
def lw_privs : List (MethodName × Nat) := lw_privs_1 ++ (lw_privs_2 ++ (lw_privs_3))
def lw_tbl : List Cond := k2_sels lw_privs ++ tables_1
theorem lw_privs_ok : ∀ q ∈ lw_privs, lw_okq q := by
  show ∀ q ∈ lw_privs_1 ++ (lw_privs_2 ++ (lw_privs_3)), lw_okq q
  exact List.forall_mem_append.mpr ⟨lw_r1, List.forall_mem_append.mpr ⟨lw_r2, lw_r3⟩⟩
end
section
/-! names: classes and their fields; the places of words (printed by wip/whole/prog/gen.py) -/
theorem tb {w : Cond} (i : Nat) (h : tables_1[i]? = some w) : w ∈ lw_tbl := List.mem_append_right _ (List.mem_of_getElem? h)
theorem tb1 {w : Cond} (i : Nat) (h : tables_1_1[i]? = some w) : w ∈ lw_tbl := List.mem_append_right _ (show w ∈ tables_1 from List.mem_append_left _ (List.mem_of_getElem? h))
theorem tb2 {w : Cond} (i : Nat) (h : tables_1_2[i]? = some w) : w ∈ lw_tbl := List.mem_append_right _ (show w ∈ tables_1 from List.mem_append_right _ (List.mem_append_left _ (List.mem_of_getElem? h)))
theorem tb3 {w : Cond} (i : Nat) (h : tables_1_3[i]? = some w) : w ∈ lw_tbl := List.mem_append_right _ (show w ∈ tables_1 from List.mem_append_right _ (List.mem_append_right _ (List.mem_append_left _ (List.mem_of_getElem? h))))
theorem tb4 {w : Cond} (i : Nat) (h : tables_1_4[i]? = some w) : w ∈ lw_tbl := List.mem_append_right _ (show w ∈ tables_1 from List.mem_append_right _ (List.mem_append_right _ (List.mem_append_right _ (List.mem_append_left _ (List.mem_of_getElem? h)))))
theorem tb5 {w : Cond} (i : Nat) (h : tables_1_5[i]? = some w) : w ∈ lw_tbl := List.mem_append_right _ (show w ∈ tables_1 from List.mem_append_right _ (List.mem_append_right _ (List.mem_append_right _ (List.mem_append_right _ (List.mem_of_getElem? h)))))
theorem ts {w : Cond} (i : Nat) (h : (k2_sels lw_privs)[i]? = some w) : w ∈ lw_tbl := List.mem_append_left _ (List.mem_of_getElem? h)
def eT0 : u_T := fun k => match k with
  | 0 => ("EstateDesk", "persons", "LEstateDesk$Persons;", true)
  | 1 => ("EstateDesk", "assets", "LEstateDesk$Assets;", true)
  | 2 => ("EstateDesk", "clauses", "LEstateDesk$Clauses;", true)
  | 3 => ("EstateDesk", "debts", "LEstateDesk$Debts;", true)
  | 4 => ("EstateDesk", "settling", "LEstateDesk$Settling;", true)
  | 5 => ("EstateDesk", "settled", "Z", false)
  | 6 => ("EstateDesk", "settledSinceLastFact", "Z", false)
  | _ => ("EstateDesk", "closed", "Z", false)
def eT1 : u_T := fun k => match k with
  | 0 => ("EstateDesk$Persons", "testatorDay", "I", false)
  | 1 => ("EstateDesk$Persons", "diedOn", "[I", true)
  | 2 => ("EstateDesk$Persons", "getsAssets", "[J", true)
  | 3 => ("EstateDesk$Persons", "getsCents", "[J", true)
  | _ => ("EstateDesk$Persons", "owes", "[J", true)
def eT2 : u_T := fun k => match k with
  | 0 => ("EstateDesk$Assets", "known", "[Z", true)
  | 1 => ("EstateDesk$Assets", "value", "[J", true)
  | 2 => ("EstateDesk$Assets", "fund", "[Z", true)
  | 3 => ("EstateDesk$Assets", "gone", "[Z", true)
  | 4 => ("EstateDesk$Assets", "left", "[J", true)
  | 5 => ("EstateDesk$Assets", "givenBy", "[I", true)
  | _ => ("EstateDesk$Assets", "holder", "[I", true)
def eT3 : u_T := fun k => match k with
  | 0 => ("EstateDesk$Clauses", "kind", "[I", true)
  | 1 => ("EstateDesk$Clauses", "amount", "[J", true)
  | 2 => ("EstateDesk$Clauses", "asset", "[I", true)
  | 3 => ("EstateDesk$Clauses", "debtsStay", "[Z", true)
  | 4 => ("EstateDesk$Clauses", "named", "[[I", true)
  | 5 => ("EstateDesk$Clauses", "state", "[I", true)
  | 6 => ("EstateDesk$Clauses", "goesTo", "[I", true)
  | 7 => ("EstateDesk$Clauses", "given", "[J", true)
  | 8 => ("EstateDesk$Clauses", "drawn", "[J", true)
  | 9 => ("EstateDesk$Clauses", "general", "[J", true)
  | 10 => ("EstateDesk$Clauses", "residueParts", "[J", true)
  | 11 => ("EstateDesk$Clauses", "bears", "[J", true)
  | _ => ("EstateDesk$Clauses", "getsCents", "[J", true)
def eT4 : u_T := fun k => match k with
  | 0 => ("EstateDesk$Debts", "cents", "[J", true)
  | 1 => ("EstateDesk$Debts", "asset", "[I", true)
  | 2 => ("EstateDesk$Debts", "ordinary", "[J", true)
  | _ => ("EstateDesk$Debts", "paidOff", "[J", true)
def eT5 : u_T := fun k => match k with
  | 0 => ("EstateDesk$Settling", "persons", "LEstateDesk$Persons;", true)
  | 1 => ("EstateDesk$Settling", "assets", "LEstateDesk$Assets;", true)
  | 2 => ("EstateDesk$Settling", "clauses", "LEstateDesk$Clauses;", true)
  | 3 => ("EstateDesk$Settling", "debts", "LEstateDesk$Debts;", true)
  | 4 => ("EstateDesk$Settling", "split", "LEstateDesk$Split;", true)
  | 5 => ("EstateDesk$Settling", "sums", "[J", true)
  | _ => ("EstateDesk$Settling", "shortage", "J", false)
def eT6 : u_T := fun k => match k with
  | 0 => ("EstateDesk$Split", "share", "[J", true)
  | _ => ("EstateDesk$Split", "rest", "[J", true)
def eT7 : u_T := fun k => match k with
  | 0 => ("EstateDeskModel", "fault", "I", false)
  | 1 => ("EstateDeskModel", "day", "I", false)
  | 2 => ("EstateDeskModel", "isClosed", "Z", false)
  | 3 => ("EstateDeskModel", "isSettled", "Z", false)
  | 4 => ("EstateDeskModel", "isFresh", "Z", false)
  | 5 => ("EstateDeskModel", "died", "[I", true)
  | 6 => ("EstateDeskModel", "isAsset", "[Z", true)
  | 7 => ("EstateDeskModel", "worths", "[J", true)
  | 8 => ("EstateDeskModel", "isFund", "[Z", true)
  | 9 => ("EstateDeskModel", "isGone", "[Z", true)
  | 10 => ("EstateDeskModel", "kinds", "[I", true)
  | 11 => ("EstateDeskModel", "assetOf", "[I", true)
  | 12 => ("EstateDeskModel", "cents", "[J", true)
  | 13 => ("EstateDeskModel", "number", "[I", true)
  | 14 => ("EstateDeskModel", "stays", "[Z", true)
  | 15 => ("EstateDeskModel", "ranks", "[I", true)
  | 16 => ("EstateDeskModel", "isDebt", "[Z", true)
  | 17 => ("EstateDeskModel", "owed", "[J", true)
  | 18 => ("EstateDeskModel", "chargedOn", "[I", true)
  | 19 => ("EstateDeskModel", "states", "[I", true)
  | 20 => ("EstateDeskModel", "takers", "[I", true)
  | 21 => ("EstateDeskModel", "general", "[J", true)
  | 22 => ("EstateDeskModel", "drawn", "[J", true)
  | 23 => ("EstateDeskModel", "values", "[J", true)
  | 24 => ("EstateDeskModel", "bears", "[J", true)
  | 25 => ("EstateDeskModel", "shares", "[J", true)
  | 26 => ("EstateDeskModel", "ownDebt", "[J", true)
  | 27 => ("EstateDeskModel", "ordinary", "[J", true)
  | 28 => ("EstateDeskModel", "paid", "[J", true)
  | 29 => ("EstateDeskModel", "assetGot", "[J", true)
  | 30 => ("EstateDeskModel", "centsGot", "[J", true)
  | 31 => ("EstateDeskModel", "owes", "[J", true)
  | 32 => ("EstateDeskModel", "gotBy", "[I", true)
  | 33 => ("EstateDeskModel", "sums", "[J", true)
  | 34 => ("EstateDeskModel", "weights", "[J", true)
  | 35 => ("EstateDeskModel", "parts", "[J", true)
  | _ => ("EstateDeskModel", "rests", "[J", true)
abbrev ed_cl : List vw_C := [("EstateDesk", eT0, 8), ("EstateDesk$Persons", eT1, 5), ("EstateDesk$Assets", eT2, 7), ("EstateDesk$Clauses", eT3, 13), ("EstateDesk$Debts", eT4, 4), ("EstateDesk$Settling", eT5, 7), ("EstateDesk$Split", eT6, 2), ("EstateDeskModel", eT7, 37)]
theorem ew0_0 : u_lay "EstateDesk" eT0 0 ∈ lw_tbl := tb2 2 rfl
theorem ew0_1 : u_lay "EstateDesk" eT0 1 ∈ lw_tbl := tb2 4 rfl
theorem ew0_2 : u_lay "EstateDesk" eT0 2 ∈ lw_tbl := tb2 6 rfl
theorem ew0_3 : u_lay "EstateDesk" eT0 3 ∈ lw_tbl := tb2 8 rfl
theorem ew0_4 : u_lay "EstateDesk" eT0 4 ∈ lw_tbl := tb2 10 rfl
theorem ew0_5 : u_lay "EstateDesk" eT0 5 ∈ lw_tbl := tb2 12 rfl
theorem ew0_6 : u_lay "EstateDesk" eT0 6 ∈ lw_tbl := tb2 14 rfl
theorem ew0_7 : u_lay "EstateDesk" eT0 7 ∈ lw_tbl := tb2 16 rfl
theorem ec0 : ∀ k, k < 8 → u_lay "EstateDesk" eT0 k ∈ lw_tbl ∧ goodWord (u_lay "EstateDesk" eT0 k) = true
  | 0, _ => ⟨ew0_0, rfl⟩
  | 1, _ => ⟨ew0_1, rfl⟩
  | 2, _ => ⟨ew0_2, rfl⟩
  | 3, _ => ⟨ew0_3, rfl⟩
  | 4, _ => ⟨ew0_4, rfl⟩
  | 5, _ => ⟨ew0_5, rfl⟩
  | 6, _ => ⟨ew0_6, rfl⟩
  | 7, _ => ⟨ew0_7, rfl⟩
  | k + 8, h => absurd h (by omega)
def ety0 : Nat → FieldType := fun k => match k with
  | 0 => .object "EstateDesk$Persons"
  | 1 => .object "EstateDesk$Assets"
  | 2 => .object "EstateDesk$Clauses"
  | 3 => .object "EstateDesk$Debts"
  | 4 => .object "EstateDesk$Settling"
  | 5 => .boolean
  | 6 => .boolean
  | _ => .boolean
theorem et0 : (∀ k, k < 8 → parseFieldDescriptor (eT0 k).2.2.1 = some (ety0 k)) ∧ (∀ a, a < 8 → ∀ b, b < 8 → a ≠ b → (eT0 a).2.1 ≠ (eT0 b).2.1) := ⟨by decide +kernel, by decide +kernel⟩
theorem ew1_0 : u_lay "EstateDesk$Persons" eT1 0 ∈ lw_tbl := tb1 43 rfl
theorem ew1_1 : u_lay "EstateDesk$Persons" eT1 1 ∈ lw_tbl := tb1 45 rfl
theorem ew1_2 : u_lay "EstateDesk$Persons" eT1 2 ∈ lw_tbl := tb1 47 rfl
theorem ew1_3 : u_lay "EstateDesk$Persons" eT1 3 ∈ lw_tbl := tb1 49 rfl
theorem ew1_4 : u_lay "EstateDesk$Persons" eT1 4 ∈ lw_tbl := tb1 51 rfl
theorem ec1 : ∀ k, k < 5 → u_lay "EstateDesk$Persons" eT1 k ∈ lw_tbl ∧ goodWord (u_lay "EstateDesk$Persons" eT1 k) = true
  | 0, _ => ⟨ew1_0, rfl⟩
  | 1, _ => ⟨ew1_1, rfl⟩
  | 2, _ => ⟨ew1_2, rfl⟩
  | 3, _ => ⟨ew1_3, rfl⟩
  | 4, _ => ⟨ew1_4, rfl⟩
  | k + 5, h => absurd h (by omega)
def ety1 : Nat → FieldType := fun k => match k with
  | 0 => .int
  | 1 => .array (.int)
  | 2 => .array (.long)
  | 3 => .array (.long)
  | _ => .array (.long)
theorem et1 : (∀ k, k < 5 → parseFieldDescriptor (eT1 k).2.2.1 = some (ety1 k)) ∧ (∀ a, a < 5 → ∀ b, b < 5 → a ≠ b → (eT1 a).2.1 ≠ (eT1 b).2.1) := ⟨by decide +kernel, by decide +kernel⟩
theorem ew2_0 : u_lay "EstateDesk$Assets" eT2 0 ∈ lw_tbl := tb1 79 rfl
theorem ew2_1 : u_lay "EstateDesk$Assets" eT2 1 ∈ lw_tbl := tb1 81 rfl
theorem ew2_2 : u_lay "EstateDesk$Assets" eT2 2 ∈ lw_tbl := tb1 83 rfl
theorem ew2_3 : u_lay "EstateDesk$Assets" eT2 3 ∈ lw_tbl := tb1 85 rfl
theorem ew2_4 : u_lay "EstateDesk$Assets" eT2 4 ∈ lw_tbl := tb1 87 rfl
theorem ew2_5 : u_lay "EstateDesk$Assets" eT2 5 ∈ lw_tbl := tb1 89 rfl
theorem ew2_6 : u_lay "EstateDesk$Assets" eT2 6 ∈ lw_tbl := tb1 91 rfl
theorem ec2 : ∀ k, k < 7 → u_lay "EstateDesk$Assets" eT2 k ∈ lw_tbl ∧ goodWord (u_lay "EstateDesk$Assets" eT2 k) = true
  | 0, _ => ⟨ew2_0, rfl⟩
  | 1, _ => ⟨ew2_1, rfl⟩
  | 2, _ => ⟨ew2_2, rfl⟩
  | 3, _ => ⟨ew2_3, rfl⟩
  | 4, _ => ⟨ew2_4, rfl⟩
  | 5, _ => ⟨ew2_5, rfl⟩
  | 6, _ => ⟨ew2_6, rfl⟩
  | k + 7, h => absurd h (by omega)
def ety2 : Nat → FieldType := fun k => match k with
  | 0 => .array (.boolean)
  | 1 => .array (.long)
  | 2 => .array (.boolean)
  | 3 => .array (.boolean)
  | 4 => .array (.long)
  | 5 => .array (.int)
  | _ => .array (.int)
theorem et2 : (∀ k, k < 7 → parseFieldDescriptor (eT2 k).2.2.1 = some (ety2 k)) ∧ (∀ a, a < 7 → ∀ b, b < 7 → a ≠ b → (eT2 a).2.1 ≠ (eT2 b).2.1) := ⟨by decide +kernel, by decide +kernel⟩
theorem ew3_0 : u_lay "EstateDesk$Clauses" eT3 0 ∈ lw_tbl := tb1 137 rfl
theorem ew3_1 : u_lay "EstateDesk$Clauses" eT3 1 ∈ lw_tbl := tb1 139 rfl
theorem ew3_2 : u_lay "EstateDesk$Clauses" eT3 2 ∈ lw_tbl := tb1 141 rfl
theorem ew3_3 : u_lay "EstateDesk$Clauses" eT3 3 ∈ lw_tbl := tb1 143 rfl
theorem ew3_4 : u_lay "EstateDesk$Clauses" eT3 4 ∈ lw_tbl := tb1 145 rfl
theorem ew3_5 : u_lay "EstateDesk$Clauses" eT3 5 ∈ lw_tbl := tb1 147 rfl
theorem ew3_6 : u_lay "EstateDesk$Clauses" eT3 6 ∈ lw_tbl := tb1 149 rfl
theorem ew3_7 : u_lay "EstateDesk$Clauses" eT3 7 ∈ lw_tbl := tb1 151 rfl
theorem ew3_8 : u_lay "EstateDesk$Clauses" eT3 8 ∈ lw_tbl := tb1 153 rfl
theorem ew3_9 : u_lay "EstateDesk$Clauses" eT3 9 ∈ lw_tbl := tb1 155 rfl
theorem ew3_10 : u_lay "EstateDesk$Clauses" eT3 10 ∈ lw_tbl := tb1 157 rfl
theorem ew3_11 : u_lay "EstateDesk$Clauses" eT3 11 ∈ lw_tbl := tb1 159 rfl
theorem ew3_12 : u_lay "EstateDesk$Clauses" eT3 12 ∈ lw_tbl := tb1 161 rfl
theorem ec3 : ∀ k, k < 13 → u_lay "EstateDesk$Clauses" eT3 k ∈ lw_tbl ∧ goodWord (u_lay "EstateDesk$Clauses" eT3 k) = true
  | 0, _ => ⟨ew3_0, rfl⟩
  | 1, _ => ⟨ew3_1, rfl⟩
  | 2, _ => ⟨ew3_2, rfl⟩
  | 3, _ => ⟨ew3_3, rfl⟩
  | 4, _ => ⟨ew3_4, rfl⟩
  | 5, _ => ⟨ew3_5, rfl⟩
  | 6, _ => ⟨ew3_6, rfl⟩
  | 7, _ => ⟨ew3_7, rfl⟩
  | 8, _ => ⟨ew3_8, rfl⟩
  | 9, _ => ⟨ew3_9, rfl⟩
  | 10, _ => ⟨ew3_10, rfl⟩
  | 11, _ => ⟨ew3_11, rfl⟩
  | 12, _ => ⟨ew3_12, rfl⟩
  | k + 13, h => absurd h (by omega)
def ety3 : Nat → FieldType := fun k => match k with
  | 0 => .array (.int)
  | 1 => .array (.long)
  | 2 => .array (.int)
  | 3 => .array (.boolean)
  | 4 => .array (.array (.int))
  | 5 => .array (.int)
  | 6 => .array (.int)
  | 7 => .array (.long)
  | 8 => .array (.long)
  | 9 => .array (.long)
  | 10 => .array (.long)
  | 11 => .array (.long)
  | _ => .array (.long)
theorem et3 : (∀ k, k < 13 → parseFieldDescriptor (eT3 k).2.2.1 = some (ety3 k)) ∧ (∀ a, a < 13 → ∀ b, b < 13 → a ≠ b → (eT3 a).2.1 ≠ (eT3 b).2.1) := ⟨by decide +kernel, by decide +kernel⟩
theorem ew4_0 : u_lay "EstateDesk$Debts" eT4 0 ∈ lw_tbl := tb1 181 rfl
theorem ew4_1 : u_lay "EstateDesk$Debts" eT4 1 ∈ lw_tbl := tb1 183 rfl
theorem ew4_2 : u_lay "EstateDesk$Debts" eT4 2 ∈ lw_tbl := tb1 185 rfl
theorem ew4_3 : u_lay "EstateDesk$Debts" eT4 3 ∈ lw_tbl := tb1 187 rfl
theorem ec4 : ∀ k, k < 4 → u_lay "EstateDesk$Debts" eT4 k ∈ lw_tbl ∧ goodWord (u_lay "EstateDesk$Debts" eT4 k) = true
  | 0, _ => ⟨ew4_0, rfl⟩
  | 1, _ => ⟨ew4_1, rfl⟩
  | 2, _ => ⟨ew4_2, rfl⟩
  | 3, _ => ⟨ew4_3, rfl⟩
  | k + 4, h => absurd h (by omega)
def ety4 : Nat → FieldType := fun k => match k with
  | 0 => .array (.long)
  | 1 => .array (.int)
  | 2 => .array (.long)
  | _ => .array (.long)
theorem et4 : (∀ k, k < 4 → parseFieldDescriptor (eT4 k).2.2.1 = some (ety4 k)) ∧ (∀ a, a < 4 → ∀ b, b < 4 → a ≠ b → (eT4 a).2.1 ≠ (eT4 b).2.1) := ⟨by decide +kernel, by decide +kernel⟩
theorem ew5_0 : u_lay "EstateDesk$Settling" eT5 0 ∈ lw_tbl := tb1 219 rfl
theorem ew5_1 : u_lay "EstateDesk$Settling" eT5 1 ∈ lw_tbl := tb1 221 rfl
theorem ew5_2 : u_lay "EstateDesk$Settling" eT5 2 ∈ lw_tbl := tb1 223 rfl
theorem ew5_3 : u_lay "EstateDesk$Settling" eT5 3 ∈ lw_tbl := tb1 225 rfl
theorem ew5_4 : u_lay "EstateDesk$Settling" eT5 4 ∈ lw_tbl := tb1 227 rfl
theorem ew5_5 : u_lay "EstateDesk$Settling" eT5 5 ∈ lw_tbl := tb1 229 rfl
theorem ew5_6 : u_lay "EstateDesk$Settling" eT5 6 ∈ lw_tbl := tb1 231 rfl
theorem ec5 : ∀ k, k < 7 → u_lay "EstateDesk$Settling" eT5 k ∈ lw_tbl ∧ goodWord (u_lay "EstateDesk$Settling" eT5 k) = true
  | 0, _ => ⟨ew5_0, rfl⟩
  | 1, _ => ⟨ew5_1, rfl⟩
  | 2, _ => ⟨ew5_2, rfl⟩
  | 3, _ => ⟨ew5_3, rfl⟩
  | 4, _ => ⟨ew5_4, rfl⟩
  | 5, _ => ⟨ew5_5, rfl⟩
  | 6, _ => ⟨ew5_6, rfl⟩
  | k + 7, h => absurd h (by omega)
def ety5 : Nat → FieldType := fun k => match k with
  | 0 => .object "EstateDesk$Persons"
  | 1 => .object "EstateDesk$Assets"
  | 2 => .object "EstateDesk$Clauses"
  | 3 => .object "EstateDesk$Debts"
  | 4 => .object "EstateDesk$Split"
  | 5 => .array (.long)
  | _ => .long
theorem et5 : (∀ k, k < 7 → parseFieldDescriptor (eT5 k).2.2.1 = some (ety5 k)) ∧ (∀ a, a < 7 → ∀ b, b < 7 → a ≠ b → (eT5 a).2.1 ≠ (eT5 b).2.1) := ⟨by decide +kernel, by decide +kernel⟩
theorem ew6_0 : u_lay "EstateDesk$Split" eT6 0 ∈ lw_tbl := tb1 205 rfl
theorem ew6_1 : u_lay "EstateDesk$Split" eT6 1 ∈ lw_tbl := tb1 207 rfl
theorem ec6 : ∀ k, k < 2 → u_lay "EstateDesk$Split" eT6 k ∈ lw_tbl ∧ goodWord (u_lay "EstateDesk$Split" eT6 k) = true
  | 0, _ => ⟨ew6_0, rfl⟩
  | 1, _ => ⟨ew6_1, rfl⟩
  | k + 2, h => absurd h (by omega)
def ety6 : Nat → FieldType := fun k => match k with
  | 0 => .array (.long)
  | _ => .array (.long)
theorem et6 : (∀ k, k < 2 → parseFieldDescriptor (eT6 k).2.2.1 = some (ety6 k)) ∧ (∀ a, a < 2 → ∀ b, b < 2 → a ≠ b → (eT6 a).2.1 ≠ (eT6 b).2.1) := ⟨by decide +kernel, by decide +kernel⟩
theorem ew7_0 : u_lay "EstateDeskModel" eT7 0 ∈ lw_tbl := tb3 224 rfl
theorem ew7_1 : u_lay "EstateDeskModel" eT7 1 ∈ lw_tbl := tb3 226 rfl
theorem ew7_2 : u_lay "EstateDeskModel" eT7 2 ∈ lw_tbl := tb3 228 rfl
theorem ew7_3 : u_lay "EstateDeskModel" eT7 3 ∈ lw_tbl := tb3 230 rfl
theorem ew7_4 : u_lay "EstateDeskModel" eT7 4 ∈ lw_tbl := tb3 232 rfl
theorem ew7_5 : u_lay "EstateDeskModel" eT7 5 ∈ lw_tbl := tb3 234 rfl
theorem ew7_6 : u_lay "EstateDeskModel" eT7 6 ∈ lw_tbl := tb3 236 rfl
theorem ew7_7 : u_lay "EstateDeskModel" eT7 7 ∈ lw_tbl := tb3 238 rfl
theorem ew7_8 : u_lay "EstateDeskModel" eT7 8 ∈ lw_tbl := tb4 0 rfl
theorem ew7_9 : u_lay "EstateDeskModel" eT7 9 ∈ lw_tbl := tb4 2 rfl
theorem ew7_10 : u_lay "EstateDeskModel" eT7 10 ∈ lw_tbl := tb4 4 rfl
theorem ew7_11 : u_lay "EstateDeskModel" eT7 11 ∈ lw_tbl := tb4 6 rfl
theorem ew7_12 : u_lay "EstateDeskModel" eT7 12 ∈ lw_tbl := tb4 8 rfl
theorem ew7_13 : u_lay "EstateDeskModel" eT7 13 ∈ lw_tbl := tb4 10 rfl
theorem ew7_14 : u_lay "EstateDeskModel" eT7 14 ∈ lw_tbl := tb4 12 rfl
theorem ew7_15 : u_lay "EstateDeskModel" eT7 15 ∈ lw_tbl := tb4 14 rfl
theorem ew7_16 : u_lay "EstateDeskModel" eT7 16 ∈ lw_tbl := tb4 16 rfl
theorem ew7_17 : u_lay "EstateDeskModel" eT7 17 ∈ lw_tbl := tb4 18 rfl
theorem ew7_18 : u_lay "EstateDeskModel" eT7 18 ∈ lw_tbl := tb4 20 rfl
theorem ew7_19 : u_lay "EstateDeskModel" eT7 19 ∈ lw_tbl := tb4 22 rfl
theorem ew7_20 : u_lay "EstateDeskModel" eT7 20 ∈ lw_tbl := tb4 24 rfl
theorem ew7_21 : u_lay "EstateDeskModel" eT7 21 ∈ lw_tbl := tb4 26 rfl
theorem ew7_22 : u_lay "EstateDeskModel" eT7 22 ∈ lw_tbl := tb4 28 rfl
theorem ew7_23 : u_lay "EstateDeskModel" eT7 23 ∈ lw_tbl := tb4 30 rfl
theorem ew7_24 : u_lay "EstateDeskModel" eT7 24 ∈ lw_tbl := tb4 32 rfl
theorem ew7_25 : u_lay "EstateDeskModel" eT7 25 ∈ lw_tbl := tb4 34 rfl
theorem ew7_26 : u_lay "EstateDeskModel" eT7 26 ∈ lw_tbl := tb4 36 rfl
theorem ew7_27 : u_lay "EstateDeskModel" eT7 27 ∈ lw_tbl := tb4 38 rfl
theorem ew7_28 : u_lay "EstateDeskModel" eT7 28 ∈ lw_tbl := tb4 40 rfl
theorem ew7_29 : u_lay "EstateDeskModel" eT7 29 ∈ lw_tbl := tb4 42 rfl
theorem ew7_30 : u_lay "EstateDeskModel" eT7 30 ∈ lw_tbl := tb4 44 rfl
theorem ew7_31 : u_lay "EstateDeskModel" eT7 31 ∈ lw_tbl := tb4 46 rfl
theorem ew7_32 : u_lay "EstateDeskModel" eT7 32 ∈ lw_tbl := tb4 48 rfl
theorem ew7_33 : u_lay "EstateDeskModel" eT7 33 ∈ lw_tbl := tb4 50 rfl
theorem ew7_34 : u_lay "EstateDeskModel" eT7 34 ∈ lw_tbl := tb4 52 rfl
theorem ew7_35 : u_lay "EstateDeskModel" eT7 35 ∈ lw_tbl := tb4 54 rfl
theorem ew7_36 : u_lay "EstateDeskModel" eT7 36 ∈ lw_tbl := tb4 56 rfl
theorem ec7 : ∀ k, k < 37 → u_lay "EstateDeskModel" eT7 k ∈ lw_tbl ∧ goodWord (u_lay "EstateDeskModel" eT7 k) = true
  | 0, _ => ⟨ew7_0, rfl⟩
  | 1, _ => ⟨ew7_1, rfl⟩
  | 2, _ => ⟨ew7_2, rfl⟩
  | 3, _ => ⟨ew7_3, rfl⟩
  | 4, _ => ⟨ew7_4, rfl⟩
  | 5, _ => ⟨ew7_5, rfl⟩
  | 6, _ => ⟨ew7_6, rfl⟩
  | 7, _ => ⟨ew7_7, rfl⟩
  | 8, _ => ⟨ew7_8, rfl⟩
  | 9, _ => ⟨ew7_9, rfl⟩
  | 10, _ => ⟨ew7_10, rfl⟩
  | 11, _ => ⟨ew7_11, rfl⟩
  | 12, _ => ⟨ew7_12, rfl⟩
  | 13, _ => ⟨ew7_13, rfl⟩
  | 14, _ => ⟨ew7_14, rfl⟩
  | 15, _ => ⟨ew7_15, rfl⟩
  | 16, _ => ⟨ew7_16, rfl⟩
  | 17, _ => ⟨ew7_17, rfl⟩
  | 18, _ => ⟨ew7_18, rfl⟩
  | 19, _ => ⟨ew7_19, rfl⟩
  | 20, _ => ⟨ew7_20, rfl⟩
  | 21, _ => ⟨ew7_21, rfl⟩
  | 22, _ => ⟨ew7_22, rfl⟩
  | 23, _ => ⟨ew7_23, rfl⟩
  | 24, _ => ⟨ew7_24, rfl⟩
  | 25, _ => ⟨ew7_25, rfl⟩
  | 26, _ => ⟨ew7_26, rfl⟩
  | 27, _ => ⟨ew7_27, rfl⟩
  | 28, _ => ⟨ew7_28, rfl⟩
  | 29, _ => ⟨ew7_29, rfl⟩
  | 30, _ => ⟨ew7_30, rfl⟩
  | 31, _ => ⟨ew7_31, rfl⟩
  | 32, _ => ⟨ew7_32, rfl⟩
  | 33, _ => ⟨ew7_33, rfl⟩
  | 34, _ => ⟨ew7_34, rfl⟩
  | 35, _ => ⟨ew7_35, rfl⟩
  | 36, _ => ⟨ew7_36, rfl⟩
  | k + 37, h => absurd h (by omega)
def ety7 : Nat → FieldType := fun k => match k with
  | 0 => .int
  | 1 => .int
  | 2 => .boolean
  | 3 => .boolean
  | 4 => .boolean
  | 5 => .array (.int)
  | 6 => .array (.boolean)
  | 7 => .array (.long)
  | 8 => .array (.boolean)
  | 9 => .array (.boolean)
  | 10 => .array (.int)
  | 11 => .array (.int)
  | 12 => .array (.long)
  | 13 => .array (.int)
  | 14 => .array (.boolean)
  | 15 => .array (.int)
  | 16 => .array (.boolean)
  | 17 => .array (.long)
  | 18 => .array (.int)
  | 19 => .array (.int)
  | 20 => .array (.int)
  | 21 => .array (.long)
  | 22 => .array (.long)
  | 23 => .array (.long)
  | 24 => .array (.long)
  | 25 => .array (.long)
  | 26 => .array (.long)
  | 27 => .array (.long)
  | 28 => .array (.long)
  | 29 => .array (.long)
  | 30 => .array (.long)
  | 31 => .array (.long)
  | 32 => .array (.int)
  | 33 => .array (.long)
  | 34 => .array (.long)
  | 35 => .array (.long)
  | _ => .array (.long)
theorem et7 : (∀ k, k < 37 → parseFieldDescriptor (eT7 k).2.2.1 = some (ety7 k)) ∧ (∀ a, a < 37 → ∀ b, b < 37 → a ≠ b → (eT7 a).2.1 ≠ (eT7 b).2.1) := ⟨by decide +kernel, by decide +kernel⟩
theorem ed_cl_good : ∀ (ci : Nat) (r : vw_C), ed_cl[ci]? = some r → ∀ w ∈ u_ws r.1 r.2.1 r.2.2, w ∈ lw_tbl ∧ goodWord w = true := by
  intro ci r hr w hw
  obtain ⟨k, hk, rfl⟩ := List.mem_map.mp hw
  have hk := List.mem_range.mp hk
  match ci, hr with
  | 0, hr => cases hr; exact ec0 k hk
  | 1, hr => cases hr; exact ec1 k hk
  | 2, hr => cases hr; exact ec2 k hk
  | 3, hr => cases hr; exact ec3 k hk
  | 4, hr => cases hr; exact ec4 k hk
  | 5, hr => cases hr; exact ec5 k hk
  | 6, hr => cases hr; exact ec6 k hk
  | 7, hr => cases hr; exact ec7 k hk
theorem ed_cl_ty : ∀ (ci : Nat) (r : vw_C), ed_cl[ci]? = some r → ∃ ty0 : Nat → FieldType, (∀ k, k < r.2.2 → parseFieldDescriptor (r.2.1 k).2.2.1 = some (ty0 k)) ∧ (∀ a, a < r.2.2 → ∀ b, b < r.2.2 → a ≠ b → (r.2.1 a).2.1 ≠ (r.2.1 b).2.1) := by
  intro ci r hr
  match ci, hr with
  | 0, hr => cases hr; exact ⟨ety0, et0⟩
  | 1, hr => cases hr; exact ⟨ety1, et1⟩
  | 2, hr => cases hr; exact ⟨ety2, et2⟩
  | 3, hr => cases hr; exact ⟨ety3, et3⟩
  | 4, hr => cases hr; exact ⟨ety4, et4⟩
  | 5, hr => cases hr; exact ⟨ety5, et5⟩
  | 6, hr => cases hr; exact ⟨ety6, et6⟩
  | 7, hr => cases hr; exact ⟨ety7, et7⟩
/-- words on static fields below the world, which a throw reads -/
def ed_stw : List Cond := [.isRef (.static "java/lang/Throwable" "UNASSIGNED_STACK" "[Ljava/lang/StackTraceElement;"), .isRef (.static "java/lang/Throwable" "SUPPRESSED_SENTINEL" "Ljava/util/List;"), .laysStatic "java/lang/Throwable" "UNASSIGNED_STACK" "[Ljava/lang/StackTraceElement;", .laysStatic "java/lang/Throwable" "SUPPRESSED_SENTINEL" "Ljava/util/List;"]
end
section
/-! calls that may throw, and catching, over the library's Steps and Stand -/
section JXA
variable {p : Program} {l : Launch} {e : Env} {R : Room} {s : State} {m : MethodId} {sargs : Array Value} {below : List Frame} {meth : Method} {c : Code}
/-- the caller's state behind a callee's end t: the callee's heap and tables -/
def jx_at (U t : State) : State := ({ U with heap := t.heap, slotsUsed := t.slotsUsed } : State).setVm t.vm
theorem jx_call {y : MethodName} {S : Spec} {Pq : Array Value → State → Prop} {Qq : Array Value → State → Outcome → State → Prop}
    (hM : MetFree l y S Pq (fun _ _ _ _ _ => True) Qq) {U : State} {Ls : List Loc} {c0 s0 : Nat}
    (X : Stand p l e R s m sargs below meth c U Ls c0 s0) {f : JFrame} (hg : f.method = m) (hsize : f.locals.size = c.maxLocals)
    {ig : Instr} {len : Nat} (hdg : decode c.code f.pc = .ok (ig, len)) (hW : 2 * f.monitorRoom + (f.stack.map fun v => v.category).sum ≤ 8)
    {mk : MethodId} (hn : U.methodNamed? y = some mk) {methY : Method} {cY : Code} (hmY : U.vm.method? mk = some methY) (hcY : methY.code = some cY)
    {kY : Class} (hkY : U.vm.classes[mk.cls]? = some kY) (hiY : kY.init = .initialized)
    (hfr : S.room.frames + 1 ≤ R.frames) (hlo : 8 + (cY.maxLocals + 11) + S.room.locals ≤ R.locals) (hce : c0 + S.room.cells ≤ R.cells) (hsl : s0 + S.room.slots ≤ R.slots)
    {a : Array Value} (hpre : S.pre.before a U = true) (hP : Pq a (U.calling f mk a)) :
    ∃ (o : Outcome) (t : State), Qq a (U.calling f mk a) o t ∧ ∀ (L : List Loc) (mc ms : Nat), (U.calling f mk a).WarmedH t.vm → (U.calling f mk a).sameButNew ({ t with vm := (U.calling f mk a).vm } : State) L mc ms →
      Stand p l e R s m sargs below meth c (jx_at U t) (Ls ++ L) (c0 + mc) (s0 + ms) ∧
      (∀ v, o = .returned v → Steps p.tables e below (doInvoke e (U.setTop f) [] mk a).1 ((jx_at U t).setTop { f with pc := f.pc + len, stack := v.toList ++ f.stack })) ∧
      (∀ q, o = .threw q → Steps p.tables e below (doInvoke e (U.setTop f) [] mk a).1 (((jx_at U t).setTop f).pushFrame (.throwing q))) := by
  have h : At U f.method c below := by rw [hg]; exact X.here
  have happ : S.appliesLoose y e.platform (U.calling f mk a) = true :=
    Spec.appliesLoose_calling (g := f) h hdg hn hkY hiY (X.room_calling (g := f) (R' := S.room) hsize hmY hcY hfr (by omega) hce hsl) hpre
  obtain ⟨mid, hmid⟩ := h.above
  have hfr9 : (U.setTop f).frames = (.java f :: mid) ++ below := by rw [State.frames_setTop' f h.top, hmid]; rfl
  obtain ⟨o, t, hsteps, -, hend, hq⟩ := Steps.callFree hM p X.admits X.cas X.clock (acts := []) hfr9 happ hP trivial
  refine ⟨o, t, hq, fun L mc ms hW₂ hsm => ?_⟩
  rw [State.frames_setTop' f h.top] at hend
  obtain ⟨g₀, hg0⟩ := Option.isSome_iff_exists.mp h.top
  obtain ⟨r, hr⟩ := State.topJava?_eq_some.mp hg0
  obtain ⟨e2, q2, q3, q4, q5, q6⟩ := id hsm
  have e3 : t = ({ (U.calling f mk a).setFrames t.frames with heap := t.heap, slotsUsed := t.slotsUsed } : State).setVm t.vm := by
    have h9 : t = ({ t with vm := (U.calling f mk a).vm } : State).setVm t.vm := rfl
    rw [e2] at h9
    exact h9
  have hr' : (({ U with heap := t.heap, slotsUsed := t.slotsUsed } : State).setVm t.vm).frames = .java g₀ :: r := hr
  have hW' : U.WarmedH t.vm := hW₂
  have hsame : U.sameButNew ({ U with heap := t.heap, slotsUsed := t.slotsUsed } : State) L mc ms := by
    refine ⟨?_, q2, q3, q4, q5, q6⟩
    obtain ⟨t9, ht9, -⟩ := State.frames_cons hr
    show ({ U with heap := t.heap, slotsUsed := t.slotsUsed } : State) = { U.setFrames U.frames with heap := t.heap, slotsUsed := t.slotsUsed }
    rw [State.setFrames_self ht9]
  subst hg
  refine ⟨⟨X.admits, X.cas, X.clock, X.frames, X.room, X.hears, X.method, X.code, (X.here.setHeapUsed t.heap t.slotsUsed).setVm hW'.alike, X.tail, State.WarmedH.trans X.warmed hW', X.limits, X.bytes, X.same.trans (hsame.setVm s.vm)⟩, ?_, ?_⟩
  · intro v hv
    subst hv
    obtain ⟨c₂, i₂, len₂, hc₂, hd₂, hf₂⟩ := hend
    have hcc : c₂ = c := by
      have h1 : t.code? f.method = U.code? f.method := by
        rw [State.code?_eq, State.code?_eq, hW'.alike.method?]
      exact Option.some.inj (hc₂.symm.trans (h1.trans h.code))
    subst hcc
    have hlen : len₂ = len := by rw [hdg] at hd₂; cases hd₂; rfl
    subst hlen
    have hs₂ : t = (({ U with heap := t.heap, slotsUsed := t.slotsUsed } : State).setVm t.vm).setTop { f with pc := f.pc + len₂, stack := v.toList ++ f.stack } := by
      refine e3.trans ?_
      rw [hf₂, State.calling_eq h.top, State.setFrames_setFrames, State.setTop_of_frames _ hr', hr]
      rfl
    show Steps p.tables e below _ ((({ U with heap := t.heap, slotsUsed := t.slotsUsed } : State).setVm t.vm).setTop { f with pc := f.pc + len₂, stack := v.toList ++ f.stack })
    rw [← hs₂]
    exact hsteps
  · intro q hv
    subst hv
    have hf₂ : t.frames = .throwing q :: .java f :: U.frames.tail := hend
    have hs₂ : t = ((({ U with heap := t.heap, slotsUsed := t.slotsUsed } : State).setVm t.vm).setTop f).pushFrame (.throwing q) := by
      refine e3.trans ?_
      rw [hf₂, State.calling_eq h.top, State.setFrames_setFrames, State.pushFrame, State.frames_setTop _ hr', State.setTop_of_frames _ hr', State.setFrames_setFrames, hr]
      rfl
    show Steps p.tables e below _ (((({ U with heap := t.heap, slotsUsed := t.slotsUsed } : State).setVm t.vm).setTop f).pushFrame (.throwing q))
    rw [← hs₂]
    exact hsteps
/-- which row of a handler table takes an object of the class 'thrown' at pc -/
def jx_takes (pl : Platform) (s₀ : State) (d : ClassId) (pc : Nat) (thrown : ClassId) : List ExceptionTableEntry → Nat → Prop
  | [], _ => False
  | x :: t, h => (covers x pc = false ∧ jx_takes pl s₀ d pc thrown t h) ∨
      (covers x pc = true ∧ x.catchType ≠ 0 ∧ ∃ c, s₀.vm.ClassLinks pl d x.catchType c ∧ ((s₀.vm.assignable thrown c = true ∧ h = x.handlerPc) ∨ (s₀.vm.assignable thrown c = false ∧ jx_takes pl s₀ d pc thrown t h)))
theorem jx_go {e : Env} {s₀ : State} {f : JFrame} {a : Addr} {cell : Cell} (hobj : ∀ k, cell.vm ≠ .statics k) (hk0 : ∃ k, s₀.vm.classes[cell.cls]? = some k) {h : Nat} :
    ∀ (tb : List ExceptionTableEntry) (S : State), s₀.WarmedH S.vm → S.heap[a]? = some cell → jx_takes e.platform s₀ f.method.cls f.pc cell.cls tb h →
      ∃ vm', s₀.WarmedH vm' ∧ ∀ (Q : Handler → Pre) (E : CtlPost) (d : Bool) (acts : List Action), wp (findHandler.go f a tb) Q E e d acts S ↔ Q (.found h) d acts (S.setVm vm') := by
  obtain ⟨k0, hk0⟩ := hk0
  intro tb
  induction tb with
  | nil => intro S _ _ ht; exact ht.elim
  | cons x t ih =>
    intro S hW hcell ht
    rcases ht with ⟨hcov, ht⟩ | ⟨hx, h0, c9, hl, ht⟩
    · obtain ⟨vm', hW', hq⟩ := ih S hW hcell ht
      exact ⟨vm', hW', fun Q E d acts => by rw [W.findHandler_go_skip hcov]; exact hq Q E d acts⟩
    · obtain ⟨dk, _, _, kt, hd, _, _, _, _, hkt, _, hopen⟩ := hl.here
      have hl' := hW.classLinks hl
      have hWn : s₀.WarmedH (S.vm.noted f.method.cls x.catchType (.cls c9)) := hW.noted hd hopen (State.rightAt_cls hl)
      obtain ⟨k1, hk1, -⟩ := hWn.alike.2.2 _ _ hk0
      obtain ⟨k2, hk2, -⟩ := hWn.alike.2.2 _ _ hkt
      obtain ⟨ha, hr⟩ := (resolveClass_links e.toSetting hl').op (op := VmOp.resolveClass f.method.cls x.catchType) rfl
      simp only [covers] at hx
      rcases ht with ⟨hfit, rfl⟩ | ⟨hno, ht⟩
      · have hfit' : (S.vm.noted f.method.cls x.catchType (.cls c9)).assignable cell.cls c9 = true := by rw [hWn.alike.assignable]; exact hfit
        exact ⟨_, hWn, fun Q E d acts => by simp [findHandler.go, hx, h0, ha, hr, hcell, hobj, hk1, hk2, hfit', VmOp.dirties, VmOp.acts]⟩
      · have hno' : (S.vm.noted f.method.cls x.catchType (.cls c9)).assignable cell.cls c9 = false := by rw [hWn.alike.assignable]; exact hno
        obtain ⟨vm', hW', hq⟩ := ih (S.setVm (S.vm.noted f.method.cls x.catchType (.cls c9))) hWn hcell ht
        refine ⟨vm', hW', fun Q E d acts => ?_⟩
        have h9 : wp (findHandler.go f a (x :: t)) Q E e d acts S ↔ wp (findHandler.go f a t) Q E e d acts (S.setVm (S.vm.noted f.method.cls x.catchType (.cls c9))) := by
          simp [findHandler.go, hx, h0, ha, hr, hcell, hobj, hk1, hk2, hno', VmOp.dirties, VmOp.acts]
        rw [h9]
        exact hq Q E d acts
theorem jx_note {e : Env} {s : State} {a : Addr} {f : JFrame} {r : List Frame} {pc : Nat} {vm' : Vm} (hfind : ∀ (Q : Handler → Pre) (E : CtlPost) (d : Bool) (acts : List Action), wp (findHandler f a) Q E e d acts s ↔ Q (.found pc) d acts (s.setVm vm')) :
    (stepThrowing e s a (.java f :: r)).Is ((s.setVm vm').setFrames (.java { f with pc := pc, stack := [.ref a] } :: r)) [] := by
  simp only [stepThrowing, searchFrame, vmDo]
  generalize hr : Sem.go _ e false [] s = res
  obtain ⟨as, rfl, ha⟩ := Sem.eq_ok_of hr (a := Handler.found pc) (s' := s.setVm vm') (acts' := []) (by simp [hfind _ _ _ _])
  exact ⟨rfl, ha⟩
theorem jx_sets (u : State) (vm' : Vm) (F G : List Frame) : ((u.setFrames F).setVm vm').setFrames G = (u.setVm vm').setFrames G := by
  have h1 : (u.setFrames F).setVm vm' = (u.setVm vm').setFrames F := rfl
  rw [h1, State.setFrames_setFrames]
/-- from the thrown object over the frame f to the handler that takes it -/
theorem jx_caught {T : State} {locs : List Loc} {cells slots : Nat} (X : Stand p l e R s m sargs below meth c T locs cells slots) {f : JFrame} (hg : f.method = m) {a : Addr} {cell : Cell} (hcell : T.heap[a]? = some cell) (hv : cell.vm = .none)
    (hk0 : ∃ k, s.vm.classes[cell.cls]? = some k) {h : Nat} (ht : jx_takes e.platform s m.cls f.pc cell.cls c.exceptionTable.toList h) :
    ∃ vm', Stand p l e R s m sargs below meth c (T.setVm vm') locs cells slots ∧
      ∀ target, Steps p.tables e below ((T.setVm vm').setTop { f with pc := h, stack := [.ref a] }) target → Steps p.tables e below ((T.setTop f).pushFrame (.throwing a)) target := by
  subst hg
  obtain ⟨vm', hW', hf⟩ := jx_go (e := e) (s₀ := s) (f := f) (a := a) (cell := cell) (fun k => by rw [hv]; simp) hk0 c.exceptionTable.toList ((T.setTop f).pushFrame (.throwing a)) X.warmed hcell ht
  refine ⟨vm', X.noted hW', fun target hrest => ?_⟩
  have hA := X.here
  obtain ⟨hgo, hw⟩ := hA.throwing a
  refine Steps.head hgo hw ?_
  have hm9 : ((T.setTop f).pushFrame (.throwing a)).vm.method? f.method = some meth := X.method'
  have hfind : ∀ (Q : Handler → Pre) (E : CtlPost) (d : Bool) (acts : List Action), wp (findHandler f a) Q E e d acts ((T.setTop f).pushFrame (.throwing a)) ↔ Q (.found h) d acts (((T.setTop f).pushFrame (.throwing a)).setVm vm') := fun Q E d acts => by
    rw [W.findHandler_eq hm9 X.code]
    exact hf Q E d acts
  rw [stepThread_throwing (frames_entered hA.top _), (jx_note hfind).1]
  obtain ⟨g₀, hg⟩ := Option.isSome_iff_exists.mp hA.top
  obtain ⟨r, hr⟩ := State.topJava?_eq_some.mp hg
  have hr' : (T.setVm vm').frames = .java g₀ :: r := hr
  rw [State.setTop_of_frames _ hr'] at hrest
  rw [hr, List.tail_cons, State.pushFrame, jx_sets, State.setTop_of_frames _ hr, jx_sets]
  exact hrest
end JXA
end
section
/-! a world by numbers: cell k of the world lies at B + k; what it is says the layout Y (true: no cell lies behind the world); what it holds say two functions, I (ints and booleans) and L (longs).
A cell: an object (its class's number in ed_cl, its fields: a reference or null, an int or boolean, a long), or an array (0 int, 1 boolean, 2 long, 3 int[], its length, for 3 the first row's cell) -/
abbrev ed_f : Type := Option Nat ⊕ Bool
abbrev ed_c : Type := (Nat × List ed_f) ⊕ (Nat × Nat × Nat)
abbrev ed_Y : Type := Bool × List ed_c
def ed_tys (ca : Nat → ClassId) : List (ClassId × FieldType) := [(ca 0, .int), (ca 1, .boolean), (ca 2, .long), (ca 3, .array .int)]
abbrev ed_g : Type := Nat × Nat × Heap × (Nat → ClassId) × va_G
/-- a number for a cell; 'retAddr' stands for the script, which lies below the world -/
def ed_cv (g : ed_g) : Value → Value
  | .ref k => .ref (g.1 + k)
  | .retAddr _ => .ref g.2.1
  | v => v
theorem ed_cv_cat (g : ed_g) (v : Value) : (ed_cv g v).category = v.category := by cases v <;> rfl
/-! numbers: every int is iZ of an Int, every long lZ of one -/
def iZ (z : Int) : Int32 := Int32.ofInt z
def lZ (z : Int) : Int64 := Int64.ofInt z
theorem iZ_of (x : Int32) : x = iZ x.toInt := (Int32.ofInt_toInt x).symm
theorem lZ_of (x : Int64) : x = lZ x.toInt := (Int64.ofInt_toInt x).symm
theorem iZ_toInt {z : Int} (h : -2147483648 ≤ z ∧ z ≤ 2147483647) : (iZ z).toInt = z := by
  unfold iZ
  rw [Int32.toInt_ofInt]
  have e : ((Int32.size : Nat) : Int) = 4294967296 := rfl
  apply Int.bmod_eq_of_le <;> omega
theorem lZ_toInt {z : Int} (h : -9223372036854775808 ≤ z ∧ z ≤ 9223372036854775807) : (lZ z).toInt = z := by
  unfold lZ
  rw [Int64.toInt_ofInt]
  have e : ((Int64.size : Nat) : Int) = 18446744073709551616 := rfl
  apply Int.bmod_eq_of_le <;> omega
theorem iZ_add (a b : Int) : iZ a + iZ b = iZ (a + b) := (Int32.ofInt_add a b).symm
theorem iZ_sub (a b : Int) : iZ a - iZ b = iZ (a - b) := (Int32.ofInt_sub a b).symm
theorem iZ_mul (a b : Int) : iZ a * iZ b = iZ (a * b) := (Int32.ofInt_mul a b).symm
theorem lZ_add (a b : Int) : lZ a + lZ b = lZ (a + b) := (Int64.ofInt_add a b).symm
theorem lZ_sub (a b : Int) : lZ a - lZ b = lZ (a - b) := (Int64.ofInt_sub a b).symm
theorem lZ_mul (a b : Int) : lZ a * lZ b = lZ (a * b) := (Int64.ofInt_mul a b).symm
theorem iZ_eq {a b : Int} (ha : -2147483648 ≤ a ∧ a ≤ 2147483647) (hb : -2147483648 ≤ b ∧ b ≤ 2147483647) : iZ a = iZ b ↔ a = b := by
  rw [← Int32.toInt_inj, iZ_toInt ha, iZ_toInt hb]
theorem iZ_lt {a b : Int} (ha : -2147483648 ≤ a ∧ a ≤ 2147483647) (hb : -2147483648 ≤ b ∧ b ≤ 2147483647) : iZ a < iZ b ↔ a < b := by
  rw [Int32.lt_iff_toInt_lt, iZ_toInt ha, iZ_toInt hb]
theorem iZ_le {a b : Int} (ha : -2147483648 ≤ a ∧ a ≤ 2147483647) (hb : -2147483648 ≤ b ∧ b ≤ 2147483647) : iZ a ≤ iZ b ↔ a ≤ b := by
  rw [Int32.le_iff_toInt_le, iZ_toInt ha, iZ_toInt hb]
theorem lZ_eq {a b : Int} (ha : -9223372036854775808 ≤ a ∧ a ≤ 9223372036854775807) (hb : -9223372036854775808 ≤ b ∧ b ≤ 9223372036854775807) : lZ a = lZ b ↔ a = b := by
  rw [← Int64.toInt_inj, lZ_toInt ha, lZ_toInt hb]
theorem lZ_lt {a b : Int} (ha : -9223372036854775808 ≤ a ∧ a ≤ 9223372036854775807) (hb : -9223372036854775808 ≤ b ∧ b ≤ 9223372036854775807) : lZ a < lZ b ↔ a < b := by
  rw [Int64.lt_iff_toInt_lt, lZ_toInt ha, lZ_toInt hb]
theorem lZ_le {a b : Int} (ha : -9223372036854775808 ≤ a ∧ a ≤ 9223372036854775807) (hb : -9223372036854775808 ≤ b ∧ b ≤ 9223372036854775807) : lZ a ≤ lZ b ↔ a ≤ b := by
  rw [Int64.le_iff_toInt_le, lZ_toInt ha, lZ_toInt hb]
theorem lZ_div {a b : Int} (ha : 0 ≤ a ∧ a ≤ 9223372036854775807) (hb : 0 < b ∧ b ≤ 9223372036854775807) : lZ a / lZ b = lZ (a / b) := by
  apply Int64.toInt_inj.mp
  have h1 : 0 ≤ a / b := Int.ediv_nonneg ha.1 (by omega)
  have h2 : a / b ≤ a := Int.ediv_le_self b ha.1
  rw [Int64.toInt_div, lZ_toInt (by omega), lZ_toInt (by omega), lZ_toInt (by omega), Int.tdiv_eq_ediv_of_nonneg ha.1]
  apply Int.bmod_eq_of_le <;> omega
theorem lZ_rem {a b : Int} (ha : 0 ≤ a ∧ a ≤ 9223372036854775807) (hb : 0 < b ∧ b ≤ 9223372036854775807) : lZ a - lZ a / lZ b * lZ b = lZ (a % b) := by
  rw [lZ_div ha hb, lZ_mul, lZ_sub]
  have h := Int.emod_def a b
  rw [Int.mul_comm] at h
  rw [h]
theorem iZ_l {a : Int} (ha : -2147483648 ≤ a ∧ a ≤ 2147483647) : (iZ a).toInt64 = lZ a := by
  apply Int64.toInt_inj.mp
  rw [Int32.toInt_toInt64, iZ_toInt ha, lZ_toInt (by omega)]
theorem iZ_clamp {z : Int} (h : 0 ≤ z ∧ z ≤ 2147483647) : (iZ z).toNatClampNeg = z.toNat := by
  unfold Int32.toNatClampNeg
  rw [iZ_toInt (by omega)]
theorem iZ_in {z : Int} {N : Nat} (h0 : 0 ≤ z) (h1 : z < N) (hN : N < 2147483648) : vp_in (iZ z) N := by
  rw [vp_in_iff, iZ_toInt (by omega)]
  omega
abbrev ed_I : Type := Nat → Int → Int
abbrev ed_L : Type := Nat → Int → Int
def upI (I : ed_I) (k : Nat) (i x : Int) : ed_I := fun a b => if a = k ∧ b = i then x else I a b
abbrev upL (L : ed_L) (k : Nat) (i x : Int) : ed_L := upI L k i x
theorem upI_ne {I : ed_I} {k a : Nat} {i x : Int} (h : a ≠ k) : upI I k i x a = I a := by funext b; simp [upI, h]
theorem upI_row (I : ed_I) (k : Nat) {i : Int} (hi : 0 ≤ i) (x : Int) : (fun m : Nat => iZ (upI I k i x k m)) = upd (fun m : Nat => iZ (I k m)) i.toNat (iZ x) := by
  funext m
  have : (m : Int) = i ↔ m = i.toNat := by omega
  simp only [upI, upd, this, true_and]
  split <;> rfl
theorem upL_row (L : ed_L) (k : Nat) {i : Int} (hi : 0 ≤ i) (x : Int) : (fun m : Nat => lZ (upI L k i x k m)) = vp_updL (fun m : Nat => lZ (L k m)) i.toNat (lZ x) := by
  funext m
  have : (m : Int) = i ↔ m = i.toNat := by omega
  simp only [upI, vp_updL, this, true_and]
  split <;> rfl
def ed_fv (I : ed_I) (L : ed_L) (k : Nat) (i : Nat) : ed_f → Value
  | .inl none => .null
  | .inl (some r) => .ref r
  | .inr false => .int (iZ (I k i))
  | .inr true => .long (lZ (L k i))
def ed_rc (g : ed_g) (I : ed_I) (L : ed_L) (k : Nat) : ed_c → va_E
  | .inl (ci, fs) => .inr (ci, fs.mapIdx (fun i f => ed_cv g (ed_fv I L k i f)))
  | .inr (0, n, _) => .inl (g.2.2.2.1 0, n, .inl (fun m => iZ (I k m)))
  | .inr (1, n, _) => .inl (g.2.2.2.1 1, n, .inl (fun m => iZ (I k m)))
  | .inr (2, n, _) => .inl (g.2.2.2.1 2, n, .inr (.inl (fun m => lZ (L k m))))
  | .inr (_ + 3, n, r) => .inl (g.2.2.2.1 3, n, .inr (.inr (.inr (.inr (fun j => some (g.1 + (r + j)))))))
theorem ed_rc_I {g : ed_g} {I : ed_I} {L : ed_L} {k a : Nat} {i x : Int} (h : a ≠ k) (c : ed_c) : ed_rc g (upI I k i x) L a c = ed_rc g I L a c := by
  rcases c with ⟨ci, fs⟩ | ⟨t, n, r⟩
  · have : ∀ (j : Nat) (f : ed_f), ed_fv (upI I k i x) L a j f = ed_fv I L a j f := by
      intro j f
      rcases f with (_ | r) | (_ | _) <;> simp [ed_fv, upI_ne h]
    simp [ed_rc, this]
  · rcases t with _ | _ | _ | t <;> simp [ed_rc, upI_ne h]
theorem ed_rc_L {g : ed_g} {I : ed_I} {L : ed_L} {k a : Nat} {i x : Int} (h : a ≠ k) (c : ed_c) : ed_rc g I (upL L k i x) a c = ed_rc g I L a c := by
  rcases c with ⟨ci, fs⟩ | ⟨t, n, r⟩
  · have : ∀ (j : Nat) (f : ed_f), ed_fv I (upL L k i x) a j f = ed_fv I L a j f := by
      intro j f
      rcases f with (_ | r) | (_ | _) <;> simp [ed_fv, upI_ne h]
    simp [ed_rc, this]
  · rcases t with _ | _ | _ | t <;> simp [ed_rc, upI_ne h]
def ed_ws (g : ed_g) (Y : ed_Y) (I : ed_I) (L : ed_L) : va_W := Y.2.mapIdx (fun k c => (g.1 + k, ed_rc g I L k c))
theorem ed_ws_at {g : ed_g} {Y : ed_Y} {I : ed_I} {L : ed_L} {k : Nat} {c : ed_c} (hk : Y.2[k]? = some c) : (ed_ws g Y I L)[k]? = some (g.1 + k, ed_rc g I L k c) := by simp [ed_ws, List.getElem?_mapIdx, hk]
theorem ed_ws_of {g : ed_g} {Y : ed_Y} {I : ed_I} {L : ed_L} {k : Nat} {q : Nat × va_E} (h : (ed_ws g Y I L)[k]? = some q) : ∃ c, Y.2[k]? = some c ∧ q = (g.1 + k, ed_rc g I L k c) := by
  simp only [ed_ws, List.getElem?_mapIdx, Option.map_eq_some_iff] at h
  obtain ⟨c, h1, h2⟩ := h
  exact ⟨c, h1, h2.symm⟩
theorem ed_ws_D (g : ed_g) (Y : ed_Y) (I : ed_I) (L : ed_L) : va_D (fun q => g.1 ≤ q) (ed_ws g Y I L) := by
  refine ⟨fun i j p q hi hj h => ?_, fun k q hk => ?_⟩
  · obtain ⟨c1, -, rfl⟩ := ed_ws_of hi
    obtain ⟨c2, -, rfl⟩ := ed_ws_of hj
    have h9 : g.1 + i = g.1 + j := h
    omega
  · obtain ⟨c1, -, rfl⟩ := ed_ws_of hk
    exact Nat.le_add_right _ _
theorem ed_ws_I {g : ed_g} {Y : ed_Y} {I : ed_I} {L : ed_L} {k : Nat} {i x : Int} {c : ed_c} (hk : Y.2[k]? = some c) {e : va_E} (he : e = ed_rc g (upI I k i x) L k c) : (ed_ws g Y I L).set k (g.1 + k, e) = ed_ws g Y (upI I k i x) L := by
  subst he
  apply List.ext_getElem?
  intro j
  have hlen : k < (ed_ws g Y I L).length := (List.getElem?_eq_some_iff.mp (ed_ws_at (g := g) (I := I) (L := L) hk)).1
  by_cases hj : k = j
  · subst hj
    rw [List.getElem?_set_self hlen, ed_ws_at hk]
  · rw [List.getElem?_set_ne hj]
    simp only [ed_ws, List.getElem?_mapIdx, ed_rc_I (fun h => hj h.symm)]
theorem ed_ws_L {g : ed_g} {Y : ed_Y} {I : ed_I} {L : ed_L} {k : Nat} {i x : Int} {c : ed_c} (hk : Y.2[k]? = some c) {e : va_E} (he : e = ed_rc g I (upL L k i x) k c) : (ed_ws g Y I L).set k (g.1 + k, e) = ed_ws g Y I (upL L k i x) := by
  subst he
  apply List.ext_getElem?
  intro j
  have hlen : k < (ed_ws g Y I L).length := (List.getElem?_eq_some_iff.mp (ed_ws_at (g := g) (I := I) (L := L) hk)).1
  by_cases hj : k = j
  · subst hj
    rw [List.getElem?_set_self hlen, ed_ws_at hk]
  · rw [List.getElem?_set_ne hj]
    simp only [ed_ws, List.getElem?_mapIdx, ed_rc_L (fun h => hj h.symm)]
/-- the heap holds the world; below it all is as at the law's start -/
def ed_H (g : ed_g) (Y : ed_Y) (I : ed_I) (L : ed_L) (H : Heap) : Prop := (g.1 ≤ H.size ∧ (Y.1 = true → H.size = g.1 + Y.2.length)) ∧ (∀ q : Nat, q < g.1 → H[q]? = g.2.2.1[q]?) ∧ va_P g.2.2.2.2 ed_cl (ed_ws g Y I L) H
theorem ed_H.go {g : ed_g} {Y : ed_Y} {I I' : ed_I} {L L' : ed_L} {H H1 : Heap} {locs : List Loc} (h : ed_H g Y I L H) (hY : Y.1 = false) (hs : va_S (fun q => g.1 ≤ q) H H1 locs) (hP : va_P g.2.2.2.2 ed_cl (ed_ws g Y I' L') H1) : ed_H g Y I' L' H1 :=
  ⟨⟨Nat.le_trans h.1.1 hs.1, fun h9 => by rw [hY] at h9; cases h9⟩, fun q hq => (hs.2.1 q (Nat.lt_of_lt_of_le hq h.1.1) (Nat.not_le.mpr hq)).trans (h.2.1 q hq), hP⟩
/-! the locals: a list of those that are known, in the order of their first store -/
def lk : List (Nat × Value) → Nat → Option Value
  | [], _ => none
  | (j, v) :: t, i => if j = i then some v else lk t i
theorem lk_mem : ∀ {ls : List (Nat × Value)} {i : Nat} {v : Value}, lk ls i = some v → (i, v) ∈ ls
  | [], _, _, h => by cases h
  | (j, w) :: t, i, v, h => by
    by_cases e : j = i
    · subst e
      simp [lk] at h
      subst h
      exact List.mem_cons_self
    · simp [lk, e] at h
      exact List.mem_cons_of_mem _ (lk_mem h)
def lst (f : Nat × Value → Bool) (i : Nat) (v : Value) : List (Nat × Value) → List (Nat × Value)
  | [] => [(i, v)]
  | q :: t => if q.1 = i then (i, v) :: t.filter f else if f q = true then q :: lst f i v t else lst f i v t
theorem lst_mem {f : Nat × Value → Bool} {i : Nat} {v : Value} : ∀ {ls : List (Nat × Value)} {q : Nat × Value}, q ∈ lst f i v ls → q = (i, v) ∨ q ∈ ls.filter f
  | [], q, h => by simp [lst] at h; exact Or.inl h
  | a :: t, q, h => by
    unfold lst at h
    split at h
    · rcases List.mem_cons.mp h with h | h
      · exact Or.inl h
      · right
        obtain ⟨h1, h2⟩ := List.mem_filter.mp h
        exact List.mem_filter.mpr ⟨List.mem_cons_of_mem _ h1, h2⟩
    · split at h
      · rename_i hf
        rcases List.mem_cons.mp h with h | h
        · right; subst h; exact List.mem_filter.mpr ⟨List.mem_cons_self, hf⟩
        · rcases lst_mem h with h | h
          · exact Or.inl h
          · right
            obtain ⟨h1, h2⟩ := List.mem_filter.mp h
            exact List.mem_filter.mpr ⟨List.mem_cons_of_mem _ h1, h2⟩
      · rcases lst_mem h with h | h
        · exact Or.inl h
        · right
          obtain ⟨h1, h2⟩ := List.mem_filter.mp h
          exact List.mem_filter.mpr ⟨List.mem_cons_of_mem _ h1, h2⟩
abbrev lf1 (i : Nat) : Nat × Value → Bool := fun q => !(q.1 == i) && !(q.1 + 1 == i && q.2.category == 2)
abbrev lf2 (i : Nat) : Nat × Value → Bool := fun q => !(q.1 == i) && (!(q.1 == i + 1) && !(q.1 + 1 == i && q.2.category == 2))
abbrev ls1 (i : Nat) (v : Value) (ls : List (Nat × Value)) : List (Nat × Value) := lst (lf1 i) i v ls
abbrev ls2 (i : Nat) (v : Value) (ls : List (Nat × Value)) : List (Nat × Value) := lst (lf2 i) i v ls
def ed_lv (g : ed_g) (ls : List (Nat × Value)) : List (Nat × Value) := ls.map fun q => (q.1, ed_cv g q.2)
theorem ed_lv_at {g : ed_g} {nL : Nat} {la : Array Slot} {ls : List (Nat × Value)} (h : lv_has la nL (ed_lv g ls)) {i : Nat} {v : Value} (hl : lk ls i = some v) : la[i]? = some (.val (ed_cv g v)) :=
  h.2.2 (i, ed_cv g v) (List.mem_map.mpr ⟨(i, v), lk_mem hl, rfl⟩)
theorem ed_lv_set {g : ed_g} {nL : Nat} {la : Array Slot} {ls : List (Nat × Value)} {f : Nat × Value → Bool} (hf : ∀ q, f (q.1, ed_cv g q.2) = f q) {i : Nat} {v : Value} (h : lv_has la nL ((i, ed_cv g v) :: (ed_lv g ls).filter f)) : lv_has la nL (ed_lv g (lst f i v ls)) := by
  refine ⟨h.1, h.2.1, fun q hq => h.2.2 q ?_⟩
  obtain ⟨q0, hq0, rfl⟩ := List.mem_map.mp hq
  rcases lst_mem hq0 with rfl | hq0
  · exact List.mem_cons_self
  · obtain ⟨h1, h2⟩ := List.mem_filter.mp hq0
    exact List.mem_cons_of_mem _ (List.mem_filter.mpr ⟨List.mem_map.mpr ⟨q0, h1, rfl⟩, by rw [hf]; exact h2⟩)
theorem lf1_cv (g : ed_g) (i : Nat) (q : Nat × Value) : lf1 i (q.1, ed_cv g q.2) = lf1 i q := by simp only [lf1, ed_cv_cat]
theorem lf2_cv (g : ed_g) (i : Nat) (q : Nat × Value) : lf2 i (q.1, ed_cv g q.2) = lf2 i q := by simp only [lf2, ed_cv_cat]
theorem ed_lv_args (g : ed_g) : ∀ (vs : List Value) (n : Nat), lv_args n (vs.map (ed_cv g)) = ed_lv g (lv_args n vs)
  | [], n => rfl
  | v :: t, n => by
    simp only [List.map_cons, lv_args, ed_cv_cat]
    rw [ed_lv_args g t]
    rfl
/-! the tables' words that stay as the tables warm -/
def ed_stab : Cond → Bool
  | .fieldLinkNest _ _ _ _ _ _ => true
  | .methodLinkNest _ _ _ _ => true
  | w => goodWord w
theorem ed_stab_good {w : Cond} (h : goodWord w = true) : ed_stab w = true := by
  unfold ed_stab
  split <;> first | rfl | exact h
theorem ed_cl_ok (ci : Nat) (r : vw_C) (hr : ed_cl[ci]? = some r) (w : Cond) (hw : w ∈ u_ws r.1 r.2.1 r.2.2) : w ∈ lw_tbl ∧ ed_stab w = true := ⟨(ed_cl_good ci r hr w hw).1, ed_stab_good (ed_cl_good ci r hr w hw).2⟩
def ed_T (U : State) : Prop := ∀ w ∈ lw_tbl, ed_stab w = true → w.before #[] U = true
theorem ed_word {w : Cond} (hs : ed_stab w = true) {s U : State} {a a' : Array Value} (hW : s.WarmedH U.vm) (h : w.before a s = true) : w.before a' U = true := by
  unfold ed_stab at hs
  split at hs
  · exact va_Nw.use rfl (va_Nw.warmF hW (va_Nw.of rfl h))
  · exact va_Nw.use rfl (va_Nw.warmM hW (va_Nw.of rfl h))
  · exact word_at hW (good_of_word hs) h
theorem ed_T.warm {s U : State} (h : ed_T s) (hW : s.WarmedH U.vm) : ed_T U := fun w hw hs => ed_word hs hW (h w hw hs)
theorem ed_T.use {s : State} (h : ed_T s) {w : Cond} (hw : w ∈ lw_tbl) (hs : ed_stab w = true) (a : Array Value) : w.before a s = true := ed_word hs (State.WarmedH.refl s) (h w hw hs)
/-- words that speak of static fields below the world -/
def ed_S (g : ed_g) (U : State) : Prop := ∀ V : State, U.vm.Alike V.vm → (∀ q : Nat, q < g.1 → V.heap[q]? = g.2.2.1[q]?) → ∀ w ∈ ed_stw, ∀ a, w.before a V = true
def ed_N (U : State) : Prop := va_Nc "java/lang/IllegalStateException" "java/lang/IllegalArgumentException" U
def ed_ok (g : ed_g) (U : State) : Prop := ed_T U ∧ va_K g.2.2.2.2 ed_cl (ed_tys g.2.2.2.1) U ∧ ed_S g U ∧ ed_N U
theorem ed_ok.warm {g : ed_g} {s U : State} (h : ed_ok g s) (hW : s.WarmedH U.vm) : ed_ok g U :=
  ⟨h.1.warm hW, va_K.moved hW.alike h.2.1, fun V hV hq w hw a => h.2.2.1 V (hW.alike.trans hV) hq w hw a, va_Nc.moved hW.alike h.2.2.2⟩
/-! contracts over worlds -/
abbrev ed_post : Type := Option Value ⊕ String → ed_Y → ed_I → ed_L → Prop
def ed_Qf (g : ed_g) (post : ed_post) (mc ms : Nat) (s : State) (o : Outcome) (t : State) : Prop :=
  ∃ (Lc : List Loc) (Y : ed_Y) (I : ed_I) (L : ed_L), (∀ q ∈ Lc, g.1 ≤ q.base) ∧ s.WarmedH t.vm ∧ s.sameButNew ({ t with vm := s.vm } : State) Lc mc ms ∧ ed_H g Y I L t.heap ∧
    ((∃ v : Option Value, o = .returned (v.map (ed_cv g)) ∧ post (.inl v) Y I L) ∨
     (∃ (q : Addr) (E : String) (ce : Cell), o = .threw q ∧ t.heap[q]? = some ce ∧ ce.vm = .none ∧ s.vm.findClass E = some ce.cls ∧ post (.inr E) Y I L))
def ed_Pc (g : ed_g) (av : List Value) (Y : ed_Y) (I : ed_I) (L : ed_L) (a : Array Value) (U : State) : Prop := a = (av.map (ed_cv g)).toArray ∧ ed_H g Y I L U.heap ∧ ed_ok g U
/-- a method: its class, name, code, locals, answer, handlers -/
abbrev ed_m : Type := MethodName × ByteArray × Nat × Option FieldType × List (Nat × Nat × Nat × Nat)
def ed_cw (y : ed_m) : Cond := match y.2.2.2.2 with
  | [] => .code y.1 y.2.1 y.2.2.1 y.2.2.2.1
  | hh => .codeWith y.1 y.2.1 y.2.2.1 y.2.2.2.1 hh
def ed_rm (d mc ms : Nat) : Room := { frames := d + 6, cells := mc, slots := ms, locals := 40 * d + 84 }
/-- y, called with av in a world of I and L, ends as post says; it is d calls deep and makes at most mc cells of ms slots -/
def ed_Ct (g : ed_g) (l : Launch) (y : ed_m) (d mc ms : Nat) (av : List Value) (Y : ed_Y) (I : ed_I) (L : ed_L) (post : ed_post) : Prop :=
  MetFree l y.1 (headSpec [ed_cw y] (ed_rm d mc ms)) (ed_Pc g av Y I L) (fun _ _ _ _ _ => True) (fun _ st o t => ed_Qf g post mc ms st o t)
abbrev ed_x : Type := Program × Launch × Env × Room × State × MethodId × Array Value × List Frame × Method × Code
def ed_Z (g : ed_g) (x : ed_x) (post : ed_post) (mc ms : Nat) : State → Prop := fun t => ∃ o, t.status = .running ∧ Ended t x.2.2.2.2.2.2.2.1 o ∧ ed_Qf g post mc ms x.2.2.2.2.1 o t
/-- the machine at pc of a method with these locals, this stack, this world comes to an end that post allows -/
def Gd (g : ed_g) (x : ed_x) (post : ed_post) (mc ms nL cells slots : Nat) (Y : ed_Y) (I : ed_I) (L : ed_L) (pc : Nat) (ls : List (Nat × Value)) (st : List Value) : Prop :=
  ∀ (H : Heap) (locs : List Loc) (la : Array Slot), ed_H g Y I L H → (∀ q ∈ locs, g.1 ≤ q.base) → lv_has la nL (ed_lv g ls) →
    W x.1 x.2.1 x.2.2.1 x.2.2.2.1 x.2.2.2.2.1 x.2.2.2.2.2.1 x.2.2.2.2.2.2.1 x.2.2.2.2.2.2.2.1 x.2.2.2.2.2.2.2.2.1 x.2.2.2.2.2.2.2.2.2 H locs cells slots (ed_Z g x post mc ms) (F0 x.2.2.2.2.2.1 pc la (st.map (ed_cv g)))
/-- what holds in the body of y -/
def Cx (g : ed_g) (x : ed_x) (y : ed_m) (rm : Room) : Prop :=
  x.1.tables.exec = Jvm.exec ∧ x.2.2.2.2.2.2.2.2.2.code = y.2.1 ∧ x.2.2.2.2.2.2.2.2.2.maxLocals = y.2.2.1 ∧ x.2.2.2.2.1.vm.findClass y.1.cls = some x.2.2.2.2.2.1.cls ∧ x.2.2.2.2.2.2.2.2.1.locks = false ∧ x.2.1.stackTraces = false ∧ ed_ok g x.2.2.2.2.1 ∧
  x.2.2.2.1 = rm ∧ x.2.2.2.2.2.2.2.2.1.sig.returnType = y.2.2.2.1 ∧ x.2.2.2.2.2.2.2.2.2.exceptionTable.toList.map (fun h => (h.startPc, h.endPc, h.handlerPc, h.catchType)) = y.2.2.2.2 ∧ x.2.2.2.2.2.2.2.2.1.name = y.1.name
theorem Gd.sub {g : ed_g} {x : ed_x} {post : ed_post} {mc ms nL cells slots : Nat} {Y : ed_Y} {I : ed_I} {L : ed_L} {pc : Nat} {ls ls' : List (Nat × Value)} {st : List Value} (h : ∀ q ∈ ls', q ∈ ls) (k : Gd g x post mc ms nL cells slots Y I L pc ls' st) : Gd g x post mc ms nL cells slots Y I L pc ls st :=
  fun H locs la hH hl hv => k H locs la hH hl ⟨hv.1, hv.2.1, fun q hq => by
    obtain ⟨q0, h0, rfl⟩ := List.mem_map.mp hq
    exact hv.2.2 _ (List.mem_map.mpr ⟨q0, h q0 h0, rfl⟩)⟩
theorem Gd.wide {g : ed_g} {x : ed_x} {post : ed_post} {mc ms nL cells slots c2 s2 : Nat} {Y : ed_Y} {I : ed_I} {L : ed_L} {pc : Nat} {ls : List (Nat × Value)} {st : List Value} (h1 : cells ≤ c2) (h2 : slots ≤ s2) (k : Gd g x post mc ms nL c2 s2 Y I L pc ls st) : Gd g x post mc ms nL cells slots Y I L pc ls st :=
  fun H locs la hH hl hv => W.widen h1 h2 (k H locs la hH hl hv)
/-- a body gives the contract: from the entry, over the heap as it is there -/
theorem ed_Ct.ofW {g : ed_g} {l : Launch} {y : ed_m} {d mc ms : Nat} {av : List Value} {Y : ed_Y} {I : ed_I} {L : ed_L} {post : ed_post} (hl : l.stackTraces = false) (hy : plainName y.1.cls = true) (hn : (lg_sl av).length ≤ y.2.2.1)
    (body : ∀ (x : ed_x) (la : Array Slot), x.2.1 = l → Cx g x y (ed_rm d mc ms) → ed_H g Y I L x.2.2.2.2.1.heap → lv_has la y.2.2.1 (ed_lv g (lv_args 0 av)) →
      W x.1 x.2.1 x.2.2.1 x.2.2.2.1 x.2.2.2.2.1 x.2.2.2.2.2.1 x.2.2.2.2.2.2.1 x.2.2.2.2.2.2.2.1 x.2.2.2.2.2.2.2.2.1 x.2.2.2.2.2.2.2.2.2 x.2.2.2.2.1.heap [] 0 0 (ed_Z g x post mc ms) (F0 x.2.2.2.2.2.1 0 la [])) : ed_Ct g l y d mc ms av Y I L post := by
  obtain ⟨nm, cc, nL, ret, hh⟩ := y
  have key : ∀ {args : Array Value} {s : State}, (ed_cw (nm, cc, nL, ret, hh)).before args s = true → ∃ (mk : MethodId) (meth : Method) (c : Code), s.methodNamed? nm = some mk ∧ s.vm.method? mk = some meth ∧ meth.code = some c ∧ c.code = cc ∧ c.maxLocals = nL ∧ c.exceptionTable.toList.map (fun h => (h.startPc, h.endPc, h.handlerPc, h.catchType)) = hh ∧ meth.sig.returnType = ret ∧ meth.locks = false := by
    intro args s h
    cases hh with
    | nil =>
      obtain ⟨mk, hn⟩ := Cond.code_named h
      obtain ⟨meth, c, h1, h2, h3, h4, h5, h6, h7, -⟩ := Cond.code_spec hn h
      exact ⟨mk, meth, c, hn, h1, h2, h3, h4, by rw [Array.isEmpty_iff.mp h7]; rfl, h5, h6⟩
    | cons a t =>
      obtain ⟨mk, meth, c, hn, h1, h2, h3, h4, h5, h6, h7, -⟩ := Cond.codeWith_spec h
      exact ⟨mk, meth, c, hn, h1, h2, h3, h4, h5, h6, h7⟩
  refine MetFree.of_bodyS (code := cc) (maxLocals := nL) (ret := ret) hy ?_ ?_
  · intro args s m h hnm
    obtain ⟨mk, meth, c, hn, h1, h2, h3, h4, -, h5, h6⟩ := key (atoms_spec (ws := [ed_cw (nm, cc, nL, ret, hh)]) h _ List.mem_cons_self)
    cases hnm.symm.trans hn
    exact ⟨meth, c, h1, h2, h3, h4, h5, h6⟩
  · intro p e s m args below meth c s₁ B hml hP _
    obtain ⟨rfl, hH, hok⟩ := hP
    obtain ⟨mk, meth9, c9, hn9, h1, h2, -, -, ht, -, -⟩ := key (atoms_spec (ws := [ed_cw (nm, cc, nL, ret, hh)]) B.pre _ List.mem_cons_self)
    cases B.named.symm.trans hn9
    cases Option.some.inj (h1.symm.trans B.method)
    cases Option.some.inj (h2.symm.trans (Stand.of_body B).code)
    have hh0 : s₁.heap = s.heap := by rw [B.state]; rfl
    have hsl : (lg_sl (av.map (ed_cv g))).length = (lg_sl av).length := by
      clear hH hok B h1 h2 hn9 hn body
      induction av with
      | nil => rfl
      | cons v t ih =>
        simp only [lg_sl, List.map_cons, List.flatMap_cons, List.length_append, ed_cv_cat] at ih ⊢
        rw [ih]
        split <;> rfl
    have hent := lv_entry (av.map (ed_cv g)) (n := nL) (by rw [hsl]; exact hn)
    rw [ed_lv_args] at hent
    have k := body (p, l, e, ed_rm d mc ms, s, m, (av.map (ed_cv g)).toArray, below, meth, c) _ rfl
      ⟨B.exec, B.bytes, hml, findClass_of_methodNamed B.named, B.notSynchronized, hl, hok, rfl, B.returns, ht, (name_of_methodNamed B.named B.method).1⟩ hH hent
    have k3 : W p l e (ed_rm d mc ms) s m (av.map (ed_cv g)).toArray below meth c s.heap [] 0 0 (ed_Z g (p, l, e, ed_rm d mc ms, s, m, (av.map (ed_cv g)).toArray, below, meth, c) post mc ms) (entryFrame m (av.map (ed_cv g)).toArray nL) := by
      rw [lg_entry_eq]
      exact k
    obtain ⟨t, a1, o, b1, b2, b3⟩ := k3 s₁ hh0 (Stand.of_body B)
    exact ⟨t, o, a1, b1, b2, b3⟩
/-- .. over any heap that holds the world -/
theorem ed_Ct.of {g : ed_g} {l : Launch} {y : ed_m} {d mc ms : Nat} {av : List Value} {Y : ed_Y} {I : ed_I} {L : ed_L} {post : ed_post} (hl : l.stackTraces = false) (hy : plainName y.1.cls = true) (hn : (lg_sl av).length ≤ y.2.2.1)
    (body : ∀ x : ed_x, x.2.1 = l → Cx g x y (ed_rm d mc ms) → Gd g x post mc ms y.2.2.1 0 0 Y I L 0 (lv_args 0 av) []) : ed_Ct g l y d mc ms av Y I L post :=
  ed_Ct.ofW hl hy hn (fun x la hx C hH hla => body x hx C _ [] la hH (fun _ h => by cases h) hla)
end
section
/-! putting a number into a field -/
def ed_put (ci i : Nat) (v : Int) : Prop := ∀ r : vw_C, ed_cl[ci]? = some r → ∃ ty, (r.2.1 i).2.2.2 = false ∧ parseFieldDescriptor (r.2.1 i).2.2.1 = some ty ∧ narrow ty (.int (iZ v)) = .int (iZ v) ∧ fits ty (.int (iZ v)) = true
def ed_putl (ci i : Nat) : Prop := ∀ r : vw_C, ed_cl[ci]? = some r → (r.2.1 i).2.2.2 = false ∧ parseFieldDescriptor (r.2.1 i).2.2.1 = some .long
end
section
/-! rows: an instruction each, over worlds by numbers (printed by wip/whole/prog/rows.py) -/
def Dn (y : ed_m) (pc : Nat) (i : Instr) (k n : Nat) : Prop := decode y.2.1 pc = .ok (i, k) ∧ pc + k = n
def Dj (y : ed_m) (pc : Nat) (mk : Int → Instr) (n t : Nat) : Prop := ∃ off, decode y.2.1 pc = .ok (mk off, 3) ∧ pc + 3 = n ∧ (pc : Int) + off = (t : Int)
/-- a load or store of local i: by its short or its long form -/
def Dv (y : ed_m) (pc : Nat) (sh : Fin 4 → Instr) (lo : Nat → Instr) (i n : Nat) : Prop := (∃ k : Fin 4, decode y.2.1 pc = .ok (sh k, 1) ∧ (k : Nat) = i ∧ pc + 1 = n) ∨ (decode y.2.1 pc = .ok (lo i, 2) ∧ pc + 2 = n)
/-- a constant on the stack -/
def Dk (y : ed_m) (pc : Nat) (w : Int) (n : Nat) : Prop :=
  (∃ v, decode y.2.1 pc = .ok (.iconst v, 1) ∧ Int32.ofInt v = iZ w ∧ pc + 1 = n) ∨ (∃ v, decode y.2.1 pc = .ok (.bipush v, 2) ∧ (Int8.ofInt v).toInt32 = iZ w ∧ pc + 2 = n) ∨
  (∃ v, decode y.2.1 pc = .ok (.sipush v, 3) ∧ (Int16.ofInt v).toInt32 = iZ w ∧ pc + 3 = n) ∨ (∃ i, decode y.2.1 pc = .ok (.ldc i, 2) ∧ Cond.constant y.1.cls i (iZ w) ∈ lw_tbl ∧ pc + 2 = n)
def Dl (y : ed_m) (pc : Nat) (w : Int) (n : Nat) : Prop :=
  (∃ v : Fin 2, decode y.2.1 pc = .ok (.lconst v, 1) ∧ Int64.ofNat (v : Nat) = lZ w ∧ pc + 1 = n) ∨ (∃ i, decode y.2.1 pc = .ok (.ldc2_w i, 3) ∧ Cond.constantLong y.1.cls i (lZ w) ∈ lw_tbl ∧ pc + 3 = n)
section ROWS
variable {g : ed_g} {x : ed_x} {post : ed_post} {mc ms nL cells slots : Nat} {Y : ed_Y} {I : ed_I} {L : ed_L} {pc n : Nat} {ls : List (Nat × Value)} {st : List Value} {y : ed_m} {rm : Room}
theorem r_ik (C : Cx g x y rm) {w : Int} (d : Dk y pc w n) (k : Gd g x post mc ms nL cells slots Y I L n ls (.int (iZ w) :: st)) : Gd g x post mc ms nL cells slots Y I L pc ls st := by
  intro H locs la hH hl hv
  have k := k H locs la hH hl hv
  rcases d with ⟨v, d, hw, rfl⟩ | ⟨v, d, hw, rfl⟩ | ⟨v, d, hw, rfl⟩ | ⟨i, d, hw, rfl⟩
  · exact lv_iconst C.1 C.2.1 d hw k
  · exact lv_bipush C.1 C.2.1 d hw k
  · exact lv_sipush C.1 C.2.1 d hw k
  · exact lv_ldc C.1 C.2.1 C.2.2.2.1 (C.2.2.2.2.2.2.1.1.use hw rfl _) d k
theorem r_lk (C : Cx g x y rm) {w : Int} (d : Dl y pc w n) (k : Gd g x post mc ms nL cells slots Y I L n ls (.long (lZ w) :: st)) : Gd g x post mc ms nL cells slots Y I L pc ls st := by
  intro H locs la hH hl hv
  have k := k H locs la hH hl hv
  rcases d with ⟨v, d, hw, rfl⟩ | ⟨i, d, hw, rfl⟩
  · exact lv_lconst C.1 C.2.1 d hw k
  · exact lv_ldc2 C.1 C.2.1 C.2.2.2.1 (C.2.2.2.2.2.2.1.1.use hw rfl _) d k
theorem r_ild (C : Cx g x y rm) {i : Nat} (d : Dv y pc .iload_n .iload i n) {v : Int32} (h : lk ls i = some (.int v)) (k : Gd g x post mc ms nL cells slots Y I L n ls (.int v :: st)) : Gd g x post mc ms nL cells slots Y I L pc ls st := by
  intro H locs la hH hl hv
  have k := k H locs la hH hl hv
  have h9 := ed_lv_at hv h
  rcases d with ⟨j, d, rfl, rfl⟩ | ⟨d, rfl⟩
  · exact lv_iload_n C.1 C.2.1 d rfl h9 k
  · exact lv_iload C.1 C.2.1 d h9 k
theorem r_lld (C : Cx g x y rm) {i : Nat} (d : Dv y pc .lload_n .lload i n) {v : Int64} (h : lk ls i = some (.long v)) (k : Gd g x post mc ms nL cells slots Y I L n ls (.long v :: st)) : Gd g x post mc ms nL cells slots Y I L pc ls st := by
  intro H locs la hH hl hv
  have k := k H locs la hH hl hv
  have h9 := ed_lv_at hv h
  rcases d with ⟨j, d, rfl, rfl⟩ | ⟨d, rfl⟩
  · exact lv_lload_n C.1 C.2.1 d rfl h9 k
  · exact lv_lload C.1 C.2.1 d h9 k
theorem r_ald (C : Cx g x y rm) {i : Nat} (d : Dv y pc .aload_n .aload i n) {v : Nat} (h : lk ls i = some (.ref v)) (k : Gd g x post mc ms nL cells slots Y I L n ls (.ref v :: st)) : Gd g x post mc ms nL cells slots Y I L pc ls st := by
  intro H locs la hH hl hv
  have k := k H locs la hH hl hv
  have h9 := ed_lv_at hv h
  rcases d with ⟨j, d, rfl, rfl⟩ | ⟨d, rfl⟩
  · exact lv_aload_n C.1 C.2.1 d rfl h9 k
  · exact lv_aload C.1 C.2.1 d h9 k
/-- the script's reference -/
theorem r_aldX (C : Cx g x y rm) {i : Nat} (d : Dv y pc .aload_n .aload i n) {v : Nat} (h : lk ls i = some (.retAddr v)) (k : Gd g x post mc ms nL cells slots Y I L n ls (.retAddr v :: st)) : Gd g x post mc ms nL cells slots Y I L pc ls st := by
  intro H locs la hH hl hv
  have k := k H locs la hH hl hv
  have h9 := ed_lv_at hv h
  rcases d with ⟨j, d, rfl, rfl⟩ | ⟨d, rfl⟩
  · exact lv_aload_n C.1 C.2.1 d rfl h9 k
  · exact lv_aload C.1 C.2.1 d h9 k
theorem r_ist (C : Cx g x y rm) {i : Nat} (d : Dv y pc .istore_n .istore i n) {v : Int32} (hn : i < nL) {ls' : List (Nat × Value)} (h : ls1 i (.int v) ls = ls') (k : Gd g x post mc ms nL cells slots Y I L n ls' st) : Gd g x post mc ms nL cells slots Y I L pc ls (.int v :: st) := by
  intro H locs la hH hl hv
  subst h
  rcases d with ⟨j, d, rfl, rfl⟩ | ⟨d, rfl⟩
  · exact lv_istore_n C.1 C.2.1 d rfl hv hn rfl (fun la' h' => k H locs la' hH hl (ed_lv_set (lf1_cv g _) h'))
  · exact lv_istore C.1 C.2.1 d hv hn rfl (fun la' h' => k H locs la' hH hl (ed_lv_set (lf1_cv g _) h'))
theorem r_lst (C : Cx g x y rm) {i : Nat} (d : Dv y pc .lstore_n .lstore i n) {v : Int64} (hn : i + 1 < nL) {ls' : List (Nat × Value)} (h : ls2 i (.long v) ls = ls') (k : Gd g x post mc ms nL cells slots Y I L n ls' st) : Gd g x post mc ms nL cells slots Y I L pc ls (.long v :: st) := by
  intro H locs la hH hl hv
  subst h
  rcases d with ⟨j, d, rfl, rfl⟩ | ⟨d, rfl⟩
  · exact lv_lstore_n C.1 C.2.1 d rfl hv hn rfl (fun la' h' => k H locs la' hH hl (ed_lv_set (lf2_cv g _) h'))
  · exact lv_lstore C.1 C.2.1 d hv hn rfl (fun la' h' => k H locs la' hH hl (ed_lv_set (lf2_cv g _) h'))
theorem r_ast (C : Cx g x y rm) {i : Nat} (d : Dv y pc .astore_n .astore i n) {v : Nat} (hn : i < nL) {ls' : List (Nat × Value)} (h : ls1 i (.ref v) ls = ls') (k : Gd g x post mc ms nL cells slots Y I L n ls' st) : Gd g x post mc ms nL cells slots Y I L pc ls (.ref v :: st) := by
  intro H locs la hH hl hv
  subst h
  rcases d with ⟨j, d, rfl, rfl⟩ | ⟨d, rfl⟩
  · exact lv_astore_n C.1 C.2.1 d rfl hv hn rfl (fun la' h' => k H locs la' hH hl (ed_lv_set (lf1_cv g _) h'))
  · exact lv_astore C.1 C.2.1 d hv hn rfl (fun la' h' => k H locs la' hH hl (ed_lv_set (lf1_cv g _) h'))
theorem r_iinc (C : Cx g x y rm) {i : Nat} {v : Int} (d : Dn y pc (.iinc i v) 3 n) {a : Int} (hn : i < nL) (h : lk ls i = some (.int (iZ a))) {ls' : List (Nat × Value)} (hs : ls1 i (.int (iZ (a + v))) ls = ls') (k : Gd g x post mc ms nL cells slots Y I L n ls' st) : Gd g x post mc ms nL cells slots Y I L pc ls st := by
  intro H locs la hH hl hv
  subst hs
  obtain ⟨d, rfl⟩ := d
  obtain ⟨j, hj⟩ := List.getElem?_of_mem (List.mem_map.mpr ⟨(i, .int (iZ a)), lk_mem h, rfl⟩ : (i, ed_cv g (.int (iZ a))) ∈ ed_lv g ls)
  exact lv_iinc C.1 C.2.1 d hv hj (iZ_add a v) hn rfl (fun la' h' => k H locs la' hH hl (ed_lv_set (lf1_cv g _) h'))
theorem r_iadd (C : Cx g x y rm) (d : Dn y pc .iadd 1 n) {a b : Int} (k : Gd g x post mc ms nL cells slots Y I L n ls (.int (iZ (a + b)) :: st)) : Gd g x post mc ms nL cells slots Y I L pc ls (.int (iZ b) :: .int (iZ a) :: st) := by
  obtain ⟨d, rfl⟩ := d
  exact fun H locs la hH hl hv => lv_iadd C.1 C.2.1 d (by rw [iZ_add]; exact k H locs la hH hl hv)
theorem r_isub (C : Cx g x y rm) (d : Dn y pc .isub 1 n) {a b : Int} (k : Gd g x post mc ms nL cells slots Y I L n ls (.int (iZ (a - b)) :: st)) : Gd g x post mc ms nL cells slots Y I L pc ls (.int (iZ b) :: .int (iZ a) :: st) := by
  obtain ⟨d, rfl⟩ := d
  exact fun H locs la hH hl hv => lv_isub C.1 C.2.1 d (by rw [iZ_sub]; exact k H locs la hH hl hv)
theorem r_imul (C : Cx g x y rm) (d : Dn y pc .imul 1 n) {a b : Int} (k : Gd g x post mc ms nL cells slots Y I L n ls (.int (iZ (a * b)) :: st)) : Gd g x post mc ms nL cells slots Y I L pc ls (.int (iZ b) :: .int (iZ a) :: st) := by
  obtain ⟨d, rfl⟩ := d
  exact fun H locs la hH hl hv => lv_imul C.1 C.2.1 d (by rw [iZ_mul]; exact k H locs la hH hl hv)
theorem r_iand (C : Cx g x y rm) (d : Dn y pc .iand 1 n) {a b : Int32} (k : Gd g x post mc ms nL cells slots Y I L n ls (.int (a &&& b) :: st)) : Gd g x post mc ms nL cells slots Y I L pc ls (.int b :: .int a :: st) := by
  obtain ⟨d, rfl⟩ := d
  exact fun H locs la hH hl hv => lv_iand C.1 C.2.1 d (k H locs la hH hl hv)
theorem r_ior (C : Cx g x y rm) (d : Dn y pc .ior 1 n) {a b : Int32} (k : Gd g x post mc ms nL cells slots Y I L n ls (.int (a ||| b) :: st)) : Gd g x post mc ms nL cells slots Y I L pc ls (.int b :: .int a :: st) := by
  obtain ⟨d, rfl⟩ := d
  exact fun H locs la hH hl hv => lv_ior C.1 C.2.1 d (k H locs la hH hl hv)
theorem r_ladd (C : Cx g x y rm) (d : Dn y pc .ladd 1 n) {a b : Int} (k : Gd g x post mc ms nL cells slots Y I L n ls (.long (lZ (a + b)) :: st)) : Gd g x post mc ms nL cells slots Y I L pc ls (.long (lZ b) :: .long (lZ a) :: st) := by
  obtain ⟨d, rfl⟩ := d
  exact fun H locs la hH hl hv => lv_ladd C.1 C.2.1 d (by rw [lZ_add]; exact k H locs la hH hl hv)
theorem r_lsub (C : Cx g x y rm) (d : Dn y pc .lsub 1 n) {a b : Int} (k : Gd g x post mc ms nL cells slots Y I L n ls (.long (lZ (a - b)) :: st)) : Gd g x post mc ms nL cells slots Y I L pc ls (.long (lZ b) :: .long (lZ a) :: st) := by
  obtain ⟨d, rfl⟩ := d
  exact fun H locs la hH hl hv => lv_lsub C.1 C.2.1 d (by rw [lZ_sub]; exact k H locs la hH hl hv)
theorem r_lmul (C : Cx g x y rm) (d : Dn y pc .lmul 1 n) {a b : Int} (k : Gd g x post mc ms nL cells slots Y I L n ls (.long (lZ (a * b)) :: st)) : Gd g x post mc ms nL cells slots Y I L pc ls (.long (lZ b) :: .long (lZ a) :: st) := by
  obtain ⟨d, rfl⟩ := d
  exact fun H locs la hH hl hv => lv_lmul C.1 C.2.1 d (by rw [lZ_mul]; exact k H locs la hH hl hv)
theorem r_land (C : Cx g x y rm) (d : Dn y pc .land 1 n) {a b : Int64} (k : Gd g x post mc ms nL cells slots Y I L n ls (.long (a &&& b) :: st)) : Gd g x post mc ms nL cells slots Y I L pc ls (.long b :: .long a :: st) := by
  obtain ⟨d, rfl⟩ := d
  exact fun H locs la hH hl hv => lv_land C.1 C.2.1 d (k H locs la hH hl hv)
theorem r_lor (C : Cx g x y rm) (d : Dn y pc .lor 1 n) {a b : Int64} (k : Gd g x post mc ms nL cells slots Y I L n ls (.long (a ||| b) :: st)) : Gd g x post mc ms nL cells slots Y I L pc ls (.long b :: .long a :: st) := by
  obtain ⟨d, rfl⟩ := d
  exact fun H locs la hH hl hv => lv_lor C.1 C.2.1 d (k H locs la hH hl hv)
theorem r_ldiv (C : Cx g x y rm) (d : Dn y pc .ldiv 1 n) {a b : Int} (hr : 0 ≤ a ∧ a ≤ 9223372036854775807 ∧ 0 < b ∧ b ≤ 9223372036854775807) (k : Gd g x post mc ms nL cells slots Y I L n ls (.long (lZ (a / b)) :: st)) : Gd g x post mc ms nL cells slots Y I L pc ls (.long (lZ b) :: .long (lZ a) :: st) := by
  obtain ⟨d, rfl⟩ := d
  have hb : ¬ lZ b = 0 := fun h => by
    have h2 := (lZ_eq (a := b) (b := 0) (by omega) (by omega)).mp h
    omega
  exact fun H locs la hH hl hv => lv_ldiv C.1 C.2.1 d hb (by rw [lZ_div ⟨hr.1, hr.2.1⟩ hr.2.2]; exact k H locs la hH hl hv)
theorem r_lrem (C : Cx g x y rm) (d : Dn y pc .lrem 1 n) {a b : Int} (hr : 0 ≤ a ∧ a ≤ 9223372036854775807 ∧ 0 < b ∧ b ≤ 9223372036854775807) (k : Gd g x post mc ms nL cells slots Y I L n ls (.long (lZ (a % b)) :: st)) : Gd g x post mc ms nL cells slots Y I L pc ls (.long (lZ b) :: .long (lZ a) :: st) := by
  obtain ⟨d, rfl⟩ := d
  have hb : ¬ lZ b = 0 := fun h => by
    have h2 := (lZ_eq (a := b) (b := 0) (by omega) (by omega)).mp h
    omega
  exact fun H locs la hH hl hv => lv_lrem C.1 C.2.1 d hb (by rw [lZ_rem ⟨hr.1, hr.2.1⟩ hr.2.2]; exact k H locs la hH hl hv)
theorem r_lshl (C : Cx g x y rm) (d : Dn y pc .lshl 1 n) {a : Int64} {b : Int32} (k : Gd g x post mc ms nL cells slots Y I L n ls (.long (a <<< (b.toInt64 &&& 63)) :: st)) : Gd g x post mc ms nL cells slots Y I L pc ls (.int b :: .long a :: st) := by
  obtain ⟨d, rfl⟩ := d
  exact fun H locs la hH hl hv => lv_lshl C.1 C.2.1 d rfl (k H locs la hH hl hv)
theorem r_lshr (C : Cx g x y rm) (d : Dn y pc .lshr 1 n) {a : Int64} {b : Int32} (k : Gd g x post mc ms nL cells slots Y I L n ls (.long (a >>> (b.toInt64 &&& 63)) :: st)) : Gd g x post mc ms nL cells slots Y I L pc ls (.int b :: .long a :: st) := by
  obtain ⟨d, rfl⟩ := d
  exact fun H locs la hH hl hv => lv_lshr C.1 C.2.1 d rfl (k H locs la hH hl hv)
theorem r_i2l (C : Cx g x y rm) (d : Dn y pc .i2l 1 n) {a : Int} (hr : -2147483648 ≤ a ∧ a ≤ 2147483647) (k : Gd g x post mc ms nL cells slots Y I L n ls (.long (lZ a) :: st)) : Gd g x post mc ms nL cells slots Y I L pc ls (.int (iZ a) :: st) := by
  obtain ⟨d, rfl⟩ := d
  exact fun H locs la hH hl hv => lv_i2l C.1 C.2.1 d (iZ_l hr) (k H locs la hH hl hv)
theorem r_dup (C : Cx g x y rm) (d : Dn y pc .dup 1 n) {a : Value} (ha : a.category = 1) (k : Gd g x post mc ms nL cells slots Y I L n ls (a :: a :: st)) : Gd g x post mc ms nL cells slots Y I L pc ls (a :: st) := by
  obtain ⟨d, rfl⟩ := d
  exact fun H locs la hH hl hv => lv_dup C.1 C.2.1 d ((ed_cv_cat g a).trans ha) (k H locs la hH hl hv)
theorem r_pop (C : Cx g x y rm) (d : Dn y pc .pop 1 n) {a : Value} (ha : a.category = 1) (k : Gd g x post mc ms nL cells slots Y I L n ls st) : Gd g x post mc ms nL cells slots Y I L pc ls (a :: st) := by
  obtain ⟨d, rfl⟩ := d
  exact fun H locs la hH hl hv => lv_pop C.1 C.2.1 d ((ed_cv_cat g a).trans ha) (k H locs la hH hl hv)
theorem r_pop2 (C : Cx g x y rm) (d : Dn y pc .pop2 1 n) {a : Value} (ha : a.category = 2) (k : Gd g x post mc ms nL cells slots Y I L n ls st) : Gd g x post mc ms nL cells slots Y I L pc ls (a :: st) := by
  obtain ⟨d, rfl⟩ := d
  exact fun H locs la hH hl hv => lv_pop2_2 C.1 C.2.1 d ((ed_cv_cat g a).trans ha) (k H locs la hH hl hv)
theorem r_dup2 (C : Cx g x y rm) (d : Dn y pc .dup2 1 n) {a b : Value} (ha : a.category = 1) (hb : b.category = 1) (k : Gd g x post mc ms nL cells slots Y I L n ls (a :: b :: a :: b :: st)) : Gd g x post mc ms nL cells slots Y I L pc ls (a :: b :: st) := by
  obtain ⟨d, rfl⟩ := d
  exact fun H locs la hH hl hv => lv_dup2_11 C.1 C.2.1 d ((ed_cv_cat g a).trans ha) ((ed_cv_cat g b).trans hb) (k H locs la hH hl hv)
theorem r_dup_x1 (C : Cx g x y rm) (d : Dn y pc .dup_x1 1 n) {a b : Value} (ha : a.category = 1) (hb : b.category = 1) (k : Gd g x post mc ms nL cells slots Y I L n ls (a :: b :: a :: st)) : Gd g x post mc ms nL cells slots Y I L pc ls (a :: b :: st) := by
  obtain ⟨d, rfl⟩ := d
  exact fun H locs la hH hl hv => lv_dup_x1 C.1 C.2.1 d ((ed_cv_cat g a).trans ha) ((ed_cv_cat g b).trans hb) (k H locs la hH hl hv)
theorem ed_cmp {a b : Int} (hr : -9223372036854775808 ≤ a ∧ a ≤ 9223372036854775807 ∧ -9223372036854775808 ≤ b ∧ b ≤ 9223372036854775807) : lg_cmp (lZ a) (lZ b) = iZ (if b < a then 1 else if a = b then 0 else -1) := by
  unfold lg_cmp
  have h1 : lZ b < lZ a ↔ b < a := lZ_lt (by omega) (by omega)
  have h2 : lZ a = lZ b ↔ a = b := lZ_eq (by omega) (by omega)
  by_cases c1 : b < a
  · rw [if_pos (h1.mpr c1), if_pos c1]; rfl
  · rw [if_neg (fun h => c1 (h1.mp h)), if_neg c1]
    by_cases c2 : a = b
    · rw [if_pos (h2.mpr c2), if_pos c2]; rfl
    · rw [if_neg (fun h => c2 (h2.mp h)), if_neg c2]; rfl
theorem r_lcmp (C : Cx g x y rm) (d : Dn y pc .lcmp 1 n) {a b : Int} (hr : -9223372036854775808 ≤ a ∧ a ≤ 9223372036854775807 ∧ -9223372036854775808 ≤ b ∧ b ≤ 9223372036854775807) (k : Gd g x post mc ms nL cells slots Y I L n ls (.int (iZ (if b < a then 1 else if a = b then 0 else -1)) :: st)) : Gd g x post mc ms nL cells slots Y I L pc ls (.long (lZ b) :: .long (lZ a) :: st) := by
  obtain ⟨d, rfl⟩ := d
  exact fun H locs la hH hl hv => W.lcmp C.1 C.2.1 d (by rw [ed_cmp hr]; exact k H locs la hH hl hv)
theorem r_if_eq (C : Cx g x y rm) {t : Nat} (d : Dj y pc (.ifCond .eq) n t) {a : Int} (hr : -2147483648 ≤ a ∧ a ≤ 2147483647) (kt : a = 0 → Gd g x post mc ms nL cells slots Y I L t ls st) (kf : a ≠ 0 → Gd g x post mc ms nL cells slots Y I L n ls st) : Gd g x post mc ms nL cells slots Y I L pc ls (.int (iZ a) :: st) := by
  obtain ⟨off, d, rfl, ht⟩ := d
  have e : (0 : Int32) = iZ 0 := rfl
  have h9 := iZ_eq (a := a) (b := 0) (by omega) (by omega)
  exact fun H locs la hH hl hv => lv_if_eq C.1 C.2.1 d ht (fun h => kt (by first | (rw [e, h9] at h; omega) | (simp only [ne_eq, e, h9, Decidable.not_not] at h; omega)) H locs la hH hl hv) (fun h => kf (by first | (rw [e, h9] at h; omega) | (simp only [ne_eq, e, h9, Decidable.not_not] at h; omega)) H locs la hH hl hv)
theorem r_icmp_eq (C : Cx g x y rm) {t : Nat} (d : Dj y pc (.if_icmp .eq) n t) {a b : Int} (hr : -2147483648 ≤ a ∧ a ≤ 2147483647 ∧ -2147483648 ≤ b ∧ b ≤ 2147483647) (kt : a = b → Gd g x post mc ms nL cells slots Y I L t ls st) (kf : a ≠ b → Gd g x post mc ms nL cells slots Y I L n ls st) : Gd g x post mc ms nL cells slots Y I L pc ls (.int (iZ b) :: .int (iZ a) :: st) := by
  obtain ⟨off, d, rfl, ht⟩ := d
  have h9 := iZ_eq (a := a) (b := b) (by omega) (by omega)
  exact fun H locs la hH hl hv => lv_icmp_eq C.1 C.2.1 d ht (fun h => kt (by first | (rw [h9] at h; omega) | (simp only [ne_eq, h9, Decidable.not_not] at h; omega)) H locs la hH hl hv) (fun h => kf (by first | (rw [h9] at h; omega) | (simp only [ne_eq, h9, Decidable.not_not] at h; omega)) H locs la hH hl hv)
theorem r_lc_eq (C : Cx g x y rm) {t k : Nat} (d1 : Dn y pc .lcmp 1 k) (d : Dj y k (.ifCond .eq) n t) {a b : Int} (hr : -9223372036854775808 ≤ a ∧ a ≤ 9223372036854775807 ∧ -9223372036854775808 ≤ b ∧ b ≤ 9223372036854775807) (kt : a = b → Gd g x post mc ms nL cells slots Y I L t ls st) (kf : a ≠ b → Gd g x post mc ms nL cells slots Y I L n ls st) : Gd g x post mc ms nL cells slots Y I L pc ls (.long (lZ b) :: .long (lZ a) :: st) :=
  r_lcmp C d1 hr (r_if_eq C d (by split <;> (try split) <;> omega) (fun h => kt (by split at h <;> (try split at h) <;> omega)) (fun h => kf (by split at h <;> (try split at h) <;> omega)))
theorem r_if_ne (C : Cx g x y rm) {t : Nat} (d : Dj y pc (.ifCond .ne) n t) {a : Int} (hr : -2147483648 ≤ a ∧ a ≤ 2147483647) (kt : a ≠ 0 → Gd g x post mc ms nL cells slots Y I L t ls st) (kf : a = 0 → Gd g x post mc ms nL cells slots Y I L n ls st) : Gd g x post mc ms nL cells slots Y I L pc ls (.int (iZ a) :: st) := by
  obtain ⟨off, d, rfl, ht⟩ := d
  have e : (0 : Int32) = iZ 0 := rfl
  have h9 := iZ_eq (a := a) (b := 0) (by omega) (by omega)
  exact fun H locs la hH hl hv => lv_if_ne C.1 C.2.1 d ht (fun h => kt (by first | (rw [e, h9] at h; omega) | (simp only [ne_eq, e, h9, Decidable.not_not] at h; omega)) H locs la hH hl hv) (fun h => kf (by first | (rw [e, h9] at h; omega) | (simp only [ne_eq, e, h9, Decidable.not_not] at h; omega)) H locs la hH hl hv)
theorem r_icmp_ne (C : Cx g x y rm) {t : Nat} (d : Dj y pc (.if_icmp .ne) n t) {a b : Int} (hr : -2147483648 ≤ a ∧ a ≤ 2147483647 ∧ -2147483648 ≤ b ∧ b ≤ 2147483647) (kt : a ≠ b → Gd g x post mc ms nL cells slots Y I L t ls st) (kf : a = b → Gd g x post mc ms nL cells slots Y I L n ls st) : Gd g x post mc ms nL cells slots Y I L pc ls (.int (iZ b) :: .int (iZ a) :: st) := by
  obtain ⟨off, d, rfl, ht⟩ := d
  have h9 := iZ_eq (a := a) (b := b) (by omega) (by omega)
  exact fun H locs la hH hl hv => lv_icmp_ne C.1 C.2.1 d ht (fun h => kt (by first | (rw [h9] at h; omega) | (simp only [ne_eq, h9, Decidable.not_not] at h; omega)) H locs la hH hl hv) (fun h => kf (by first | (rw [h9] at h; omega) | (simp only [ne_eq, h9, Decidable.not_not] at h; omega)) H locs la hH hl hv)
theorem r_lc_ne (C : Cx g x y rm) {t k : Nat} (d1 : Dn y pc .lcmp 1 k) (d : Dj y k (.ifCond .ne) n t) {a b : Int} (hr : -9223372036854775808 ≤ a ∧ a ≤ 9223372036854775807 ∧ -9223372036854775808 ≤ b ∧ b ≤ 9223372036854775807) (kt : a ≠ b → Gd g x post mc ms nL cells slots Y I L t ls st) (kf : a = b → Gd g x post mc ms nL cells slots Y I L n ls st) : Gd g x post mc ms nL cells slots Y I L pc ls (.long (lZ b) :: .long (lZ a) :: st) :=
  r_lcmp C d1 hr (r_if_ne C d (by split <;> (try split) <;> omega) (fun h => kt (by split at h <;> (try split at h) <;> omega)) (fun h => kf (by split at h <;> (try split at h) <;> omega)))
theorem r_if_lt (C : Cx g x y rm) {t : Nat} (d : Dj y pc (.ifCond .lt) n t) {a : Int} (hr : -2147483648 ≤ a ∧ a ≤ 2147483647) (kt : a < 0 → Gd g x post mc ms nL cells slots Y I L t ls st) (kf : 0 ≤ a → Gd g x post mc ms nL cells slots Y I L n ls st) : Gd g x post mc ms nL cells slots Y I L pc ls (.int (iZ a) :: st) := by
  obtain ⟨off, d, rfl, ht⟩ := d
  have e : (0 : Int32) = iZ 0 := rfl
  have h9 := iZ_lt (a := a) (b := 0) (by omega) (by omega)
  exact fun H locs la hH hl hv => lv_if_lt C.1 C.2.1 d ht (fun h => kt (by first | (rw [e, h9] at h; omega) | (simp only [ne_eq, e, h9, Decidable.not_not] at h; omega)) H locs la hH hl hv) (fun h => kf (by first | (rw [e, h9] at h; omega) | (simp only [ne_eq, e, h9, Decidable.not_not] at h; omega)) H locs la hH hl hv)
theorem r_icmp_lt (C : Cx g x y rm) {t : Nat} (d : Dj y pc (.if_icmp .lt) n t) {a b : Int} (hr : -2147483648 ≤ a ∧ a ≤ 2147483647 ∧ -2147483648 ≤ b ∧ b ≤ 2147483647) (kt : a < b → Gd g x post mc ms nL cells slots Y I L t ls st) (kf : b ≤ a → Gd g x post mc ms nL cells slots Y I L n ls st) : Gd g x post mc ms nL cells slots Y I L pc ls (.int (iZ b) :: .int (iZ a) :: st) := by
  obtain ⟨off, d, rfl, ht⟩ := d
  have h9 := iZ_lt (a := a) (b := b) (by omega) (by omega)
  exact fun H locs la hH hl hv => lv_icmp_lt C.1 C.2.1 d ht (fun h => kt (by first | (rw [h9] at h; omega) | (simp only [ne_eq, h9, Decidable.not_not] at h; omega)) H locs la hH hl hv) (fun h => kf (by first | (rw [h9] at h; omega) | (simp only [ne_eq, h9, Decidable.not_not] at h; omega)) H locs la hH hl hv)
theorem r_lc_lt (C : Cx g x y rm) {t k : Nat} (d1 : Dn y pc .lcmp 1 k) (d : Dj y k (.ifCond .lt) n t) {a b : Int} (hr : -9223372036854775808 ≤ a ∧ a ≤ 9223372036854775807 ∧ -9223372036854775808 ≤ b ∧ b ≤ 9223372036854775807) (kt : a < b → Gd g x post mc ms nL cells slots Y I L t ls st) (kf : b ≤ a → Gd g x post mc ms nL cells slots Y I L n ls st) : Gd g x post mc ms nL cells slots Y I L pc ls (.long (lZ b) :: .long (lZ a) :: st) :=
  r_lcmp C d1 hr (r_if_lt C d (by split <;> (try split) <;> omega) (fun h => kt (by split at h <;> (try split at h) <;> omega)) (fun h => kf (by split at h <;> (try split at h) <;> omega)))
theorem r_if_ge (C : Cx g x y rm) {t : Nat} (d : Dj y pc (.ifCond .ge) n t) {a : Int} (hr : -2147483648 ≤ a ∧ a ≤ 2147483647) (kt : 0 ≤ a → Gd g x post mc ms nL cells slots Y I L t ls st) (kf : a < 0 → Gd g x post mc ms nL cells slots Y I L n ls st) : Gd g x post mc ms nL cells slots Y I L pc ls (.int (iZ a) :: st) := by
  obtain ⟨off, d, rfl, ht⟩ := d
  have e : (0 : Int32) = iZ 0 := rfl
  have h9 := iZ_le (a := 0) (b := a) (by omega) (by omega)
  exact fun H locs la hH hl hv => lv_if_ge C.1 C.2.1 d ht (fun h => kt (by first | (rw [e, h9] at h; omega) | (simp only [ne_eq, e, h9, Decidable.not_not] at h; omega)) H locs la hH hl hv) (fun h => kf (by first | (rw [e, h9] at h; omega) | (simp only [ne_eq, e, h9, Decidable.not_not] at h; omega)) H locs la hH hl hv)
theorem r_icmp_ge (C : Cx g x y rm) {t : Nat} (d : Dj y pc (.if_icmp .ge) n t) {a b : Int} (hr : -2147483648 ≤ a ∧ a ≤ 2147483647 ∧ -2147483648 ≤ b ∧ b ≤ 2147483647) (kt : b ≤ a → Gd g x post mc ms nL cells slots Y I L t ls st) (kf : a < b → Gd g x post mc ms nL cells slots Y I L n ls st) : Gd g x post mc ms nL cells slots Y I L pc ls (.int (iZ b) :: .int (iZ a) :: st) := by
  obtain ⟨off, d, rfl, ht⟩ := d
  have h9 := iZ_le (a := b) (b := a) (by omega) (by omega)
  exact fun H locs la hH hl hv => lv_icmp_ge C.1 C.2.1 d ht (fun h => kt (by first | (rw [h9] at h; omega) | (simp only [ne_eq, h9, Decidable.not_not] at h; omega)) H locs la hH hl hv) (fun h => kf (by first | (rw [h9] at h; omega) | (simp only [ne_eq, h9, Decidable.not_not] at h; omega)) H locs la hH hl hv)
theorem r_lc_ge (C : Cx g x y rm) {t k : Nat} (d1 : Dn y pc .lcmp 1 k) (d : Dj y k (.ifCond .ge) n t) {a b : Int} (hr : -9223372036854775808 ≤ a ∧ a ≤ 9223372036854775807 ∧ -9223372036854775808 ≤ b ∧ b ≤ 9223372036854775807) (kt : b ≤ a → Gd g x post mc ms nL cells slots Y I L t ls st) (kf : a < b → Gd g x post mc ms nL cells slots Y I L n ls st) : Gd g x post mc ms nL cells slots Y I L pc ls (.long (lZ b) :: .long (lZ a) :: st) :=
  r_lcmp C d1 hr (r_if_ge C d (by split <;> (try split) <;> omega) (fun h => kt (by split at h <;> (try split at h) <;> omega)) (fun h => kf (by split at h <;> (try split at h) <;> omega)))
theorem r_if_gt (C : Cx g x y rm) {t : Nat} (d : Dj y pc (.ifCond .gt) n t) {a : Int} (hr : -2147483648 ≤ a ∧ a ≤ 2147483647) (kt : 0 < a → Gd g x post mc ms nL cells slots Y I L t ls st) (kf : a ≤ 0 → Gd g x post mc ms nL cells slots Y I L n ls st) : Gd g x post mc ms nL cells slots Y I L pc ls (.int (iZ a) :: st) := by
  obtain ⟨off, d, rfl, ht⟩ := d
  have e : (0 : Int32) = iZ 0 := rfl
  have h9 := iZ_lt (a := 0) (b := a) (by omega) (by omega)
  exact fun H locs la hH hl hv => lv_if_gt C.1 C.2.1 d ht (fun h => kt (by first | (rw [e, h9] at h; omega) | (simp only [ne_eq, e, h9, Decidable.not_not] at h; omega)) H locs la hH hl hv) (fun h => kf (by first | (rw [e, h9] at h; omega) | (simp only [ne_eq, e, h9, Decidable.not_not] at h; omega)) H locs la hH hl hv)
theorem r_icmp_gt (C : Cx g x y rm) {t : Nat} (d : Dj y pc (.if_icmp .gt) n t) {a b : Int} (hr : -2147483648 ≤ a ∧ a ≤ 2147483647 ∧ -2147483648 ≤ b ∧ b ≤ 2147483647) (kt : b < a → Gd g x post mc ms nL cells slots Y I L t ls st) (kf : a ≤ b → Gd g x post mc ms nL cells slots Y I L n ls st) : Gd g x post mc ms nL cells slots Y I L pc ls (.int (iZ b) :: .int (iZ a) :: st) := by
  obtain ⟨off, d, rfl, ht⟩ := d
  have h9 := iZ_lt (a := b) (b := a) (by omega) (by omega)
  exact fun H locs la hH hl hv => lv_icmp_gt C.1 C.2.1 d ht (fun h => kt (by first | (rw [h9] at h; omega) | (simp only [ne_eq, h9, Decidable.not_not] at h; omega)) H locs la hH hl hv) (fun h => kf (by first | (rw [h9] at h; omega) | (simp only [ne_eq, h9, Decidable.not_not] at h; omega)) H locs la hH hl hv)
theorem r_lc_gt (C : Cx g x y rm) {t k : Nat} (d1 : Dn y pc .lcmp 1 k) (d : Dj y k (.ifCond .gt) n t) {a b : Int} (hr : -9223372036854775808 ≤ a ∧ a ≤ 9223372036854775807 ∧ -9223372036854775808 ≤ b ∧ b ≤ 9223372036854775807) (kt : b < a → Gd g x post mc ms nL cells slots Y I L t ls st) (kf : a ≤ b → Gd g x post mc ms nL cells slots Y I L n ls st) : Gd g x post mc ms nL cells slots Y I L pc ls (.long (lZ b) :: .long (lZ a) :: st) :=
  r_lcmp C d1 hr (r_if_gt C d (by split <;> (try split) <;> omega) (fun h => kt (by split at h <;> (try split at h) <;> omega)) (fun h => kf (by split at h <;> (try split at h) <;> omega)))
theorem r_if_le (C : Cx g x y rm) {t : Nat} (d : Dj y pc (.ifCond .le) n t) {a : Int} (hr : -2147483648 ≤ a ∧ a ≤ 2147483647) (kt : a ≤ 0 → Gd g x post mc ms nL cells slots Y I L t ls st) (kf : 0 < a → Gd g x post mc ms nL cells slots Y I L n ls st) : Gd g x post mc ms nL cells slots Y I L pc ls (.int (iZ a) :: st) := by
  obtain ⟨off, d, rfl, ht⟩ := d
  have e : (0 : Int32) = iZ 0 := rfl
  have h9 := iZ_le (a := a) (b := 0) (by omega) (by omega)
  exact fun H locs la hH hl hv => lv_if_le C.1 C.2.1 d ht (fun h => kt (by first | (rw [e, h9] at h; omega) | (simp only [ne_eq, e, h9, Decidable.not_not] at h; omega)) H locs la hH hl hv) (fun h => kf (by first | (rw [e, h9] at h; omega) | (simp only [ne_eq, e, h9, Decidable.not_not] at h; omega)) H locs la hH hl hv)
theorem r_icmp_le (C : Cx g x y rm) {t : Nat} (d : Dj y pc (.if_icmp .le) n t) {a b : Int} (hr : -2147483648 ≤ a ∧ a ≤ 2147483647 ∧ -2147483648 ≤ b ∧ b ≤ 2147483647) (kt : a ≤ b → Gd g x post mc ms nL cells slots Y I L t ls st) (kf : b < a → Gd g x post mc ms nL cells slots Y I L n ls st) : Gd g x post mc ms nL cells slots Y I L pc ls (.int (iZ b) :: .int (iZ a) :: st) := by
  obtain ⟨off, d, rfl, ht⟩ := d
  have h9 := iZ_le (a := a) (b := b) (by omega) (by omega)
  exact fun H locs la hH hl hv => lv_icmp_le C.1 C.2.1 d ht (fun h => kt (by first | (rw [h9] at h; omega) | (simp only [ne_eq, h9, Decidable.not_not] at h; omega)) H locs la hH hl hv) (fun h => kf (by first | (rw [h9] at h; omega) | (simp only [ne_eq, h9, Decidable.not_not] at h; omega)) H locs la hH hl hv)
theorem r_lc_le (C : Cx g x y rm) {t k : Nat} (d1 : Dn y pc .lcmp 1 k) (d : Dj y k (.ifCond .le) n t) {a b : Int} (hr : -9223372036854775808 ≤ a ∧ a ≤ 9223372036854775807 ∧ -9223372036854775808 ≤ b ∧ b ≤ 9223372036854775807) (kt : a ≤ b → Gd g x post mc ms nL cells slots Y I L t ls st) (kf : b < a → Gd g x post mc ms nL cells slots Y I L n ls st) : Gd g x post mc ms nL cells slots Y I L pc ls (.long (lZ b) :: .long (lZ a) :: st) :=
  r_lcmp C d1 hr (r_if_le C d (by split <;> (try split) <;> omega) (fun h => kt (by split at h <;> (try split at h) <;> omega)) (fun h => kf (by split at h <;> (try split at h) <;> omega)))
theorem r_goto (C : Cx g x y rm) {t : Nat} (d : Dj y pc .goto n t) (k : Gd g x post mc ms nL cells slots Y I L t ls st) : Gd g x post mc ms nL cells slots Y I L pc ls st := by
  obtain ⟨off, d, rfl, ht⟩ := d
  exact fun H locs la hH hl hv => lv_goto C.1 C.2.1 d ht (k H locs la hH hl hv)
theorem r_sw (C : Cx g x y rm) {t len : Nat} {df lo hi : Int} {offs : Array Int} {a : Int} (hr : -2147483648 ≤ a ∧ a ≤ 2147483647) (d : decode y.2.1 pc = .ok (.tableswitch df lo hi offs, len)) {off : Int} (h1 : lo ≤ a) (h2 : a ≤ hi) (ho : offs[(a - lo).toNat]? = some off) (ht : (pc : Int) + off = (t : Int)) (k : Gd g x post mc ms nL cells slots Y I L t ls st) : Gd g x post mc ms nL cells slots Y I L pc ls (.int (iZ a) :: st) :=
  fun H locs la hH hl hv => lv_tableIn C.1 C.2.1 d (by rw [iZ_toInt hr]; omega) (by rw [iZ_toInt hr]; omega) (by rw [iZ_toInt hr]; exact ho) ht (k H locs la hH hl hv)
theorem r_swD (C : Cx g x y rm) {t len : Nat} {df lo hi : Int} {offs : Array Int} {a : Int} (hr : -2147483648 ≤ a ∧ a ≤ 2147483647) (d : decode y.2.1 pc = .ok (.tableswitch df lo hi offs, len)) (h : a < lo ∨ hi < a) (ht : (pc : Int) + df = (t : Int)) (k : Gd g x post mc ms nL cells slots Y I L t ls st) : Gd g x post mc ms nL cells slots Y I L pc ls (.int (iZ a) :: st) :=
  fun H locs la hH hl hv => lv_tableOut C.1 C.2.1 d (by rw [iZ_toInt hr]; exact h) ht (k H locs la hH hl hv)
theorem r_lsw (C : Cx g x y rm) {t len : Nat} {df : Int} {ps : Array (Int × Int)} {a : Int} (hr : -2147483648 ≤ a ∧ a ≤ 2147483647) {off : Int} (d : decode y.2.1 pc = .ok (.lookupswitch df ps, len)) (hp : (ps.toList.zip (ps.toList.drop 1)).all (fun (a, next) => a.1 < next.1) = true) (ho : Op.lookupswitch.offset ps.toList df a = off) (ht : (pc : Int) + off = (t : Int)) (k : Gd g x post mc ms nL cells slots Y I L t ls st) : Gd g x post mc ms nL cells slots Y I L pc ls (.int (iZ a) :: st) :=
  fun H locs la hH hl hv => lv_lookup C.1 C.2.1 d hp (by rw [iZ_toInt hr]; exact ho) ht (k H locs la hH hl hv)
theorem r_iald (C : Cx g x y rm) (d : Dn y pc .iaload 1 n) {k N r : Nat} {i : Int} (hk : Y.2[k]? = some (.inr (0, N, r))) (hi : 0 ≤ i ∧ i < (N : Int)) (hN : N < 2147483648) (kk : Gd g x post mc ms nL cells slots Y I L n ls (.int (iZ (I k i)) :: st)) : Gd g x post mc ms nL cells slots Y I L pc ls (.int (iZ i) :: .ref k :: st) := by
  obtain ⟨d, rfl⟩ := d
  intro H locs la hH hl hv
  have kk := kk H locs la hH hl hv
  refine va_iald C.1 C.2.1 C.2.2.2.2.2.2.1.2.1 hH.2.2 k 0 (ed_ws_at hk) rfl (iZ_in hi.1 hi.2 hN) d ?_
  rw [iZ_clamp (by omega), Int.toNat_of_nonneg hi.1]
  exact kk
theorem r_zald (C : Cx g x y rm) (d : Dn y pc .baload 1 n) {k N r : Nat} {i : Int} (hk : Y.2[k]? = some (.inr (1, N, r))) (hi : 0 ≤ i ∧ i < (N : Int)) (hN : N < 2147483648) (kk : Gd g x post mc ms nL cells slots Y I L n ls (.int (iZ (I k i)) :: st)) : Gd g x post mc ms nL cells slots Y I L pc ls (.int (iZ i) :: .ref k :: st) := by
  obtain ⟨d, rfl⟩ := d
  intro H locs la hH hl hv
  have kk := kk H locs la hH hl hv
  refine va_zald C.1 C.2.1 C.2.2.2.2.2.2.1.2.1 hH.2.2 k 1 (ed_ws_at hk) rfl (iZ_in hi.1 hi.2 hN) d ?_
  rw [iZ_clamp (by omega), Int.toNat_of_nonneg hi.1]
  exact kk
theorem r_lald (C : Cx g x y rm) (d : Dn y pc .laload 1 n) {k N r : Nat} {i : Int} (hk : Y.2[k]? = some (.inr (2, N, r))) (hi : 0 ≤ i ∧ i < (N : Int)) (hN : N < 2147483648) (kk : Gd g x post mc ms nL cells slots Y I L n ls (.long (lZ (L k i)) :: st)) : Gd g x post mc ms nL cells slots Y I L pc ls (.int (iZ i) :: .ref k :: st) := by
  obtain ⟨d, rfl⟩ := d
  intro H locs la hH hl hv
  have kk := kk H locs la hH hl hv
  refine va_lald C.1 C.2.1 C.2.2.2.2.2.2.1.2.1 hH.2.2 k 2 (ed_ws_at hk) rfl (iZ_in hi.1 hi.2 hN) d ?_
  rw [iZ_clamp (by omega), Int.toNat_of_nonneg hi.1]
  exact kk
theorem r_iast (C : Cx g x y rm) (d : Dn y pc .iastore 1 n) (hY : Y.1 = false) {k N r : Nat} {i v : Int} (hk : Y.2[k]? = some (.inr (0, N, r))) (hi : 0 ≤ i ∧ i < (N : Int)) (hN : N < 2147483648) (kk : Gd g x post mc ms nL cells slots Y (upI I k i v) L n ls st) : Gd g x post mc ms nL cells slots Y I L pc ls (.int (iZ v) :: .int (iZ i) :: .ref k :: st) := by
  obtain ⟨d, rfl⟩ := d
  intro H locs la hH hl hv
  refine va_iast C.1 C.2.1 C.2.2.2.2.2.2.1.2.1 hH.2.2 (ed_ws_D g Y I L) ⟨Nat.le_refl _, fun _ _ _ => rfl, hl⟩ k 0 (ed_ws_at hk) rfl (iZ_in hi.1 hi.2 hN) d (fun H1 locs1 hP hD hS => ?_)
  rw [iZ_clamp (by omega), ed_ws_I (x := v) (i := i) hk (by simp only [ed_rc, upI_row I k hi.1])] at hP
  exact kk H1 locs1 la (hH.go hY hS hP) hS.2.2 hv
theorem r_last (C : Cx g x y rm) (d : Dn y pc .lastore 1 n) (hY : Y.1 = false) {k N r : Nat} {i v : Int} (hk : Y.2[k]? = some (.inr (2, N, r))) (hi : 0 ≤ i ∧ i < (N : Int)) (hN : N < 2147483648) (kk : Gd g x post mc ms nL cells slots Y I (upI L k i v) n ls st) : Gd g x post mc ms nL cells slots Y I L pc ls (.long (lZ v) :: .int (iZ i) :: .ref k :: st) := by
  obtain ⟨d, rfl⟩ := d
  intro H locs la hH hl hv
  refine va_last C.1 C.2.1 C.2.2.2.2.2.2.1.2.1 hH.2.2 (ed_ws_D g Y I L) ⟨Nat.le_refl _, fun _ _ _ => rfl, hl⟩ k 2 (ed_ws_at hk) rfl (iZ_in hi.1 hi.2 hN) d (fun H1 locs1 hP hD hS => ?_)
  rw [iZ_clamp (by omega), ed_ws_L (x := v) (i := i) hk (by simp only [ed_rc, upL_row L k hi.1])] at hP
  exact kk H1 locs1 la (hH.go hY hS hP) hS.2.2 hv
theorem ed_nar01 {v : Int} (h : v = 0 ∨ v = 1) : vp_nar .boolean (iZ v) = iZ v := by rcases h with rfl | rfl <;> rfl
theorem r_zast (C : Cx g x y rm) (d : Dn y pc .bastore 1 n) (hY : Y.1 = false) {k N r : Nat} {i v : Int} (hk : Y.2[k]? = some (.inr (1, N, r))) (hi : 0 ≤ i ∧ i < (N : Int)) (hN : N < 2147483648) (h01 : v = 0 ∨ v = 1) (kk : Gd g x post mc ms nL cells slots Y (upI I k i v) L n ls st) : Gd g x post mc ms nL cells slots Y I L pc ls (.int (iZ v) :: .int (iZ i) :: .ref k :: st) := by
  obtain ⟨d, rfl⟩ := d
  intro H locs la hH hl hv
  refine va_zast C.1 C.2.1 C.2.2.2.2.2.2.1.2.1 hH.2.2 (ed_ws_D g Y I L) ⟨Nat.le_refl _, fun _ _ _ => rfl, hl⟩ k 1 (ed_ws_at hk) rfl (iZ_in hi.1 hi.2 hN) d (fun H1 locs1 hP hD hS => ?_)
  rw [iZ_clamp (by omega), ed_nar01 h01, ed_ws_I (x := v) (i := i) hk (by simp only [ed_rc, upI_row I k hi.1])] at hP
  exact kk H1 locs1 la (hH.go hY hS hP) hS.2.2 hv
theorem r_aald (C : Cx g x y rm) (d : Dn y pc .aaload 1 n) {k N r : Nat} {i : Int} (hk : Y.2[k]? = some (.inr (3, N, r))) (hi : 0 ≤ i ∧ i < (N : Int)) (hN : N < 2147483648) (kk : Gd g x post mc ms nL cells slots Y I L n ls (.ref (r + i.toNat) :: st)) : Gd g x post mc ms nL cells slots Y I L pc ls (.int (iZ i) :: .ref k :: st) := by
  obtain ⟨d, rfl⟩ := d
  intro H locs la hH hl hv
  have kk := kk H locs la hH hl hv
  have hin := iZ_in hi.1 hi.2 hN
  have hlt : (iZ i).toNatClampNeg < N := Nat.not_le.mp fun q => hin (Or.inr q)
  refine W.aald (v := .ref (g.1 + (r + i.toNat))) (ty := .array .int) C.1 C.2.1 (hH.2.2 k _ (ed_ws_at hk)) ((C.2.2.2.2.2.2.1.2.1.2 3 _ rfl).1 N (fun j => va_rf (some (g.1 + (r + j))))) rfl (fun q => by cases q) (by show ¬ (iZ i < 0 ∨ (arrV _ _ _).slots.size ≤ _); rw [arrV_size]; exact hin) (by show (arrV _ _ _).slots[_]? = _; rw [arrV_read _ _ hlt, iZ_clamp (by omega)]; rfl) rfl rfl d kk
theorem r_alen (C : Cx g x y rm) (d : Dn y pc .arraylength 1 n) {k t N r : Nat} (ht : t < 3) (hk : Y.2[k]? = some (.inr (t, N, r))) (kk : Gd g x post mc ms nL cells slots Y I L n ls (.int (iZ N) :: st)) : Gd g x post mc ms nL cells slots Y I L pc ls (.ref k :: st) := by
  obtain ⟨d, rfl⟩ := d
  intro H locs la hH hl hv
  have kk := kk H locs la hH hl hv
  have hK := C.2.2.2.2.2.2.1.2.1
  have e : Int32.ofNat N = iZ N := by unfold iZ; exact Int32.ofInt_eq_ofNat.symm
  rcases (show t = 0 ∨ t = 1 ∨ t = 2 by omega) with rfl | rfl | rfl
  · exact va_alen C.1 C.2.1 hK hH.2.2 k 0 (ed_ws_at hk) (ty := .int) rfl e d kk
  · exact va_alen C.1 C.2.1 hK hH.2.2 k 1 (ed_ws_at hk) (ty := .boolean) rfl e d kk
  · exact va_alen C.1 C.2.1 hK hH.2.2 k 2 (ed_ws_at hk) (ty := .long) rfl e d kk
/-- pool entry of the field instruction at pc: field i of class number ci -/
def Df (y : ed_m) (pc : Nat) (mk : Nat → Instr) (ci i n : Nat) : Prop := ∃ (idx : Nat) (r : vw_C), decode y.2.1 pc = .ok (mk idx, 3) ∧ pc + 3 = n ∧ ed_cl[ci]? = some r ∧ i < r.2.2 ∧ (r.2.1 i).1 = r.1 ∧
  (Cond.fieldLink y.1.cls idx r.1 (r.2.1 i).2.1 (r.2.1 i).2.2.1 ∈ lw_tbl ∨ ∃ host, Cond.fieldLinkNest y.1.cls idx r.1 (r.2.1 i).2.1 (r.2.1 i).2.2.1 host ∈ lw_tbl)
theorem ed_uws {ci : Nat} {r : vw_C} (hr : ed_cl[ci]? = some r) {s : State} (hT : ed_T s) (a : Array Value) : ∀ w ∈ u_ws r.1 r.2.1 r.2.2, w.before a s = true := fun w hw => hT.use (ed_cl_ok ci r hr w hw).1 (ed_cl_ok ci r hr w hw).2 a
theorem r_get (C : Cx g x y rm) {ci i k : Nat} (d : Df y pc .getfield ci i n) {fs : List ed_f} {f : ed_f} (hk : Y.2[k]? = some (.inl (ci, fs))) (hf : fs[i]? = some f) (kk : Gd g x post mc ms nL cells slots Y I L n ls (ed_fv I L k i f :: st)) : Gd g x post mc ms nL cells slots Y I L pc ls (.ref k :: st) := by
  obtain ⟨idx, r, d, rfl, hr, hi, hd, hw⟩ := d
  intro H locs la hH hl hv
  have kk := kk H locs la hH hl hv
  have hT := C.2.2.2.2.2.2.1.1
  have hv9 : (fs.mapIdx (fun i f => ed_cv g (ed_fv I L k i f)))[i]? = some (ed_cv g (ed_fv I L k i f)) := by simp [List.getElem?_mapIdx, hf]
  rcases hw with hw | ⟨host, hw⟩
  · exact va_get C.1 C.2.1 (ed_uws hr hT _) (fun _ h => h) C.2.2.2.1 C.2.2.2.2.2.2.1.2.1 hH.2.2 k (ed_ws_at hk) hr i hi (hT.use hw rfl _) (fun _ h => by rw [hd] at h; exact h) hv9 d kk
  · exact va_getN C.1 C.2.1 (ed_uws hr hT _) (fun _ h => h) C.2.2.2.1 C.2.2.2.2.2.2.1.2.1 hH.2.2 k (ed_ws_at hk) hr i hi (hT.use hw rfl _) (fun _ h => by rw [hd] at h; exact h) hv9 d kk
theorem r_getR (C : Cx g x y rm) {ci i k r : Nat} (d : Df y pc .getfield ci i n) {fs : List ed_f} (hk : Y.2[k]? = some (.inl (ci, fs))) (hf : fs[i]? = some (.inl (some r))) (kk : Gd g x post mc ms nL cells slots Y I L n ls (.ref r :: st)) : Gd g x post mc ms nL cells slots Y I L pc ls (.ref k :: st) := r_get C d hk hf kk
theorem r_getI (C : Cx g x y rm) {ci i k : Nat} {z : Int} (d : Df y pc .getfield ci i n) {fs : List ed_f} (hk : Y.2[k]? = some (.inl (ci, fs))) (hf : fs[i]? = some (.inr false)) (hz : (i : Int) = z) (kk : Gd g x post mc ms nL cells slots Y I L n ls (.int (iZ (I k z)) :: st)) : Gd g x post mc ms nL cells slots Y I L pc ls (.ref k :: st) := by
  subst hz
  exact r_get C d hk hf kk
theorem r_getL (C : Cx g x y rm) {ci i k : Nat} {z : Int} (d : Df y pc .getfield ci i n) {fs : List ed_f} (hk : Y.2[k]? = some (.inl (ci, fs))) (hf : fs[i]? = some (.inr true)) (hz : (i : Int) = z) (kk : Gd g x post mc ms nL cells slots Y I L n ls (.long (lZ (L k z)) :: st)) : Gd g x post mc ms nL cells slots Y I L pc ls (.ref k :: st) := by
  subst hz
  exact r_get C d hk hf kk
theorem ed_set_fs {fs : List ed_f} {I I' : ed_I} {L L' : ed_L} {k i : Nat} {f : ed_f} (hf : fs[i]? = some f) (ho : ∀ j, j ≠ i → ∀ f, ed_fv I' L' k j f = ed_fv I L k j f) :
    (fs.mapIdx (fun i f => ed_cv g (ed_fv I L k i f))).set i (ed_cv g (ed_fv I' L' k i f)) = fs.mapIdx (fun i f => ed_cv g (ed_fv I' L' k i f)) := by
  apply List.ext_getElem?
  intro j
  have hi : i < fs.length := (List.getElem?_eq_some_iff.mp hf).1
  by_cases hj : i = j
  · subst hj
    rw [List.getElem?_set_self (by simpa using hi)]
    simp [List.getElem?_mapIdx, hf]
  · rw [List.getElem?_set_ne hj]
    simp only [List.getElem?_mapIdx, ho j (fun h => hj h.symm)]
theorem r_putI (C : Cx g x y rm) {ci i k : Nat} {z : Int} (d : Df y pc .putfield ci i n) (hY : Y.1 = false) {fs : List ed_f} {v : Int} (hk : Y.2[k]? = some (.inl (ci, fs))) (hf : fs[i]? = some (.inr false)) (hz : (i : Int) = z) (hb : ed_put ci i v) (kk : Gd g x post mc ms nL cells slots Y (upI I k z v) L n ls st) : Gd g x post mc ms nL cells slots Y I L pc ls (.int (iZ v) :: .ref k :: st) := by
  subst hz
  obtain ⟨idx, r, d, rfl, hr, hi, hd, hw⟩ := d
  intro H locs la hH hl hv
  have hT := C.2.2.2.2.2.2.1.1
  obtain ⟨ty0, hty, hnm⟩ := ed_cl_ty ci r hr
  obtain ⟨ty, hfin, hdd, hnar, hfit⟩ := hb r hr
  have hlen : i < (fs.mapIdx (fun i f => ed_cv g (ed_fv I L k i f))).length := by simpa using (List.getElem?_eq_some_iff.mp hf).1
  have e9 : ∀ j, j ≠ i → ∀ f, ed_fv (upI I k i v) L k j f = ed_fv I L k j f := by
    intro j hj f
    have h9 : ¬ (j : Int) = (i : Int) := by omega
    rcases f with (_ | r) | (_ | _) <;> simp [ed_fv, upI, h9]
  have e8 : (Value.int (iZ v)) = ed_cv g (ed_fv (upI I k i v) L k i (.inr false)) := by simp [ed_fv, upI, ed_cv]
  have kk : ∀ (H1 : Heap) (locs1 : List Loc), va_P g.2.2.2.2 ed_cl ((ed_ws g Y I L).set k (g.1 + k, .inr (ci, (fs.mapIdx (fun i f => ed_cv g (ed_fv I L k i f))).set i (.int (iZ v))))) H1 → va_D (fun q => g.1 ≤ q) ((ed_ws g Y I L).set k (g.1 + k, .inr (ci, (fs.mapIdx (fun i f => ed_cv g (ed_fv I L k i f))).set i (.int (iZ v))))) → va_S (fun q => g.1 ≤ q) H H1 locs1 → _ := fun H1 locs1 hP hD hS => by
    rw [e8, ed_set_fs hf e9, ed_ws_I (g := g) (I := I) (L := L) (x := v) (i := i) (e := .inr (ci, fs.mapIdx (fun j f => ed_cv g (ed_fv (upI I k i v) L k j f)))) hk rfl] at hP
    exact kk H1 locs1 la (hH.go hY hS hP) hS.2.2 hv
  rcases hw with hw | ⟨host, hw⟩
  · exact va_put C.1 C.2.1 (ed_uws hr hT _) (fun _ h => h) ty0 hty hnm C.2.2.2.1 C.2.2.2.2.2.2.1.2.1 hH.2.2 (ed_ws_D g Y I L) ⟨Nat.le_refl _, fun _ _ _ => rfl, hl⟩ k (ed_ws_at hk) hr i hi (hT.use hw rfl _) (fun _ h => by rw [hd] at h; exact h) hfin hdd hnar hfit hlen d kk
  · exact va_putN C.1 C.2.1 (ed_uws hr hT _) (fun _ h => h) ty0 hty hnm C.2.2.2.1 C.2.2.2.2.2.2.1.2.1 hH.2.2 (ed_ws_D g Y I L) ⟨Nat.le_refl _, fun _ _ _ => rfl, hl⟩ k (ed_ws_at hk) hr i hi (hT.use hw rfl _) (fun _ h => by rw [hd] at h; exact h) hfin hdd hnar hfit hlen d kk
theorem r_putL (C : Cx g x y rm) {ci i k : Nat} {z : Int} (d : Df y pc .putfield ci i n) (hY : Y.1 = false) {fs : List ed_f} {v : Int} (hk : Y.2[k]? = some (.inl (ci, fs))) (hf : fs[i]? = some (.inr true)) (hz : (i : Int) = z) (hb : ed_putl ci i) (kk : Gd g x post mc ms nL cells slots Y I (upI L k z v) n ls st) : Gd g x post mc ms nL cells slots Y I L pc ls (.long (lZ v) :: .ref k :: st) := by
  subst hz
  obtain ⟨idx, r, d, rfl, hr, hi, hd, hw⟩ := d
  intro H locs la hH hl hv
  have hT := C.2.2.2.2.2.2.1.1
  obtain ⟨ty0, hty, hnm⟩ := ed_cl_ty ci r hr
  obtain ⟨hfin, hdd⟩ := hb r hr
  have hlen : i < (fs.mapIdx (fun i f => ed_cv g (ed_fv I L k i f))).length := by simpa using (List.getElem?_eq_some_iff.mp hf).1
  have e9 : ∀ j, j ≠ i → ∀ f, ed_fv I (upI L k i v) k j f = ed_fv I L k j f := by
    intro j hj f
    have h9 : ¬ (j : Int) = (i : Int) := by omega
    rcases f with (_ | r) | (_ | _) <;> simp [ed_fv, upI, h9]
  have e8 : (Value.long (lZ v)) = ed_cv g (ed_fv I (upI L k i v) k i (.inr true)) := by simp [ed_fv, upI, ed_cv]
  have kk : ∀ (H1 : Heap) (locs1 : List Loc), va_P g.2.2.2.2 ed_cl ((ed_ws g Y I L).set k (g.1 + k, .inr (ci, (fs.mapIdx (fun i f => ed_cv g (ed_fv I L k i f))).set i (.long (lZ v))))) H1 → va_D (fun q => g.1 ≤ q) ((ed_ws g Y I L).set k (g.1 + k, .inr (ci, (fs.mapIdx (fun i f => ed_cv g (ed_fv I L k i f))).set i (.long (lZ v))))) → va_S (fun q => g.1 ≤ q) H H1 locs1 → _ := fun H1 locs1 hP hD hS => by
    rw [e8, ed_set_fs hf e9, ed_ws_L (g := g) (I := I) (L := L) (x := v) (i := i) (e := .inr (ci, fs.mapIdx (fun j f => ed_cv g (ed_fv I (upI L k i v) k j f)))) hk rfl] at hP
    exact kk H1 locs1 la (hH.go hY hS hP) hS.2.2 hv
  rcases hw with hw | ⟨host, hw⟩
  · exact va_put C.1 C.2.1 (ed_uws hr hT _) (fun _ h => h) ty0 hty hnm C.2.2.2.1 C.2.2.2.2.2.2.1.2.1 hH.2.2 (ed_ws_D g Y I L) ⟨Nat.le_refl _, fun _ _ _ => rfl, hl⟩ k (ed_ws_at hk) hr i hi (hT.use hw rfl _) (fun _ h => by rw [hd] at h; exact h) hfin hdd rfl rfl hlen d kk
  · exact va_putN C.1 C.2.1 (ed_uws hr hT _) (fun _ h => h) ty0 hty hnm C.2.2.2.1 C.2.2.2.2.2.2.1.2.1 hH.2.2 (ed_ws_D g Y I L) ⟨Nat.le_refl _, fun _ _ _ => rfl, hl⟩ k (ed_ws_at hk) hr i hi (hT.use hw rfl _) (fun _ h => by rw [hd] at h; exact h) hfin hdd rfl rfl hlen d kk
theorem ed_end {o : Outcome} {t : State} {v : Option Value} {locs : List Loc} (hv : o = .returned (v.map (ed_cv g))) (hH : ed_H g Y I L t.heap) (hp : post (.inl v) Y I L) (hl : ∀ q ∈ locs, g.1 ≤ q.base) (hF : FrameEnd x.2.2.2.2.1 o t locs cells slots) (hc : cells ≤ mc) (hs : slots ≤ ms) : ed_Qf g post mc ms x.2.2.2.2.1 o t :=
  ⟨locs, Y, I, L, hl, hF.2.1, hF.2.2.mono hc hs, hH, Or.inl ⟨v, hv, hp⟩⟩
theorem ed_mono {p : Program} {l : Launch} {e : Env} {R : Room} {s : State} {m : MethodId} {args : Array Value} {below : List Frame} {meth : Method} {c : Code} {H : Heap} {locs : List Loc} {Q Q' : State → Prop} {f : JFrame} (h : ∀ t, Q t → Q' t) (k : W p l e R s m args below meth c H locs cells slots Q f) : W p l e R s m args below meth c H locs cells slots Q' f := by
  intro T hT X
  obtain ⟨t, a, b⟩ := k T hT X
  exact ⟨t, a, h t b⟩
theorem r_iret (C : Cx g x y rm) (d : Dn y pc .ireturn 1 n) {v : Int32} (hr : y.2.2.2.1 = some .int) (hc : cells ≤ mc) (hs : slots ≤ ms) (hp : post (.inl (some (.int v))) Y I L) : Gd g x post mc ms nL cells slots Y I L pc ls [.int v] := by
  obtain ⟨d, rfl⟩ := d
  intro H locs la hH hl hv
  refine ed_mono ?_ (W.iret (Qc := fun _ st o t => o = .returned ((some (.int v) : Option Value).map (ed_cv g)) ∧ t.heap = H) (free := fun q => g.1 ≤ q) C.1 C.2.1 (C.2.2.2.2.2.2.2.2.1.trans hr) (fun t ht hW => ⟨rfl, ht⟩) hl d C.2.2.2.2.1)
  rintro t ⟨o, h1, h2, ⟨h3, h4⟩, Lc, h5, h6⟩
  exact ⟨o, h1, h2, ed_end h3 (by rw [h4]; exact hH) hp h6 h5 hc hs⟩
theorem r_zret (C : Cx g x y rm) (d : Dn y pc .ireturn 1 n) {v : Int} (hr : y.2.2.2.1 = some .boolean) (h01 : v = 0 ∨ v = 1) (hc : cells ≤ mc) (hs : slots ≤ ms) (hp : post (.inl (some (.int (iZ v)))) Y I L) : Gd g x post mc ms nL cells slots Y I L pc ls [.int (iZ v)] := by
  obtain ⟨d, rfl⟩ := d
  intro H locs la hH hl hv
  refine ed_mono ?_ (W.zret (Qc := fun _ st o t => o = .returned ((some (.int (iZ v)) : Option Value).map (ed_cv g)) ∧ t.heap = H) (free := fun q => g.1 ≤ q) C.1 C.2.1 (C.2.2.2.2.2.2.2.2.1.trans hr) (by rcases h01 with rfl | rfl <;> rfl) (fun t ht hW => ⟨rfl, ht⟩) hl d C.2.2.2.2.1)
  rintro t ⟨o, h1, h2, ⟨h3, h4⟩, Lc, h5, h6⟩
  exact ⟨o, h1, h2, ed_end h3 (by rw [h4]; exact hH) hp h6 h5 hc hs⟩
theorem r_lret (C : Cx g x y rm) (d : Dn y pc .lreturn 1 n) {v : Int64} (hr : y.2.2.2.1 = some .long) (hc : cells ≤ mc) (hs : slots ≤ ms) (hp : post (.inl (some (.long v))) Y I L) : Gd g x post mc ms nL cells slots Y I L pc ls [.long v] := by
  obtain ⟨d, rfl⟩ := d
  intro H locs la hH hl hv
  refine ed_mono ?_ (W.lret (Qc := fun _ st o t => o = .returned ((some (.long v) : Option Value).map (ed_cv g)) ∧ t.heap = H) (free := fun q => g.1 ≤ q) C.1 C.2.1 (C.2.2.2.2.2.2.2.2.1.trans hr) (fun t ht hW => ⟨rfl, ht⟩) hl d C.2.2.2.2.1)
  rintro t ⟨o, h1, h2, ⟨h3, h4⟩, Lc, h5, h6⟩
  exact ⟨o, h1, h2, ed_end h3 (by rw [h4]; exact hH) hp h6 h5 hc hs⟩
theorem r_vret (C : Cx g x y rm) (d : Dn y pc .return_ 1 n) (hr : y.2.2.2.1 = none) (hc : cells ≤ mc) (hs : slots ≤ ms) (hp : post (.inl (none)) Y I L) : Gd g x post mc ms nL cells slots Y I L pc ls [] := by
  obtain ⟨d, rfl⟩ := d
  intro H locs la hH hl hv
  refine ed_mono ?_ (W.vret (Qc := fun _ st o t => o = .returned ((none : Option Value).map (ed_cv g)) ∧ t.heap = H) (free := fun q => g.1 ≤ q) C.1 C.2.1 (C.2.2.2.2.2.2.2.2.1.trans hr) (fun t ht hW => ⟨rfl, ht⟩) hl d C.2.2.2.2.1)
  rintro t ⟨o, h1, h2, ⟨h3, h4⟩, Lc, h5, h6⟩
  exact ⟨o, h1, h2, ed_end h3 (by rw [h4]; exact hH) hp h6 h5 hc hs⟩
end ROWS
end
