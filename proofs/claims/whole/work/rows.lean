section
-- ===== PART A: goes FIRST, ahead of the names: the tables' words, and 'selects' of the private methods out of them =====
/-- a private method of a class that the tables say can be made, by its rows of tables_1 -/
def lw_okq (q : MethodName × Nat) : Prop := (q.1.cls ≠ "java/lang/invoke/MethodHandle" ∧ q.1.cls ≠ "java/lang/invoke/VarHandle") ∧ Cond.instantiable q.1.cls q.2 ∈ tables_1 ∧ Cond.privateMethod q.1 ∈ tables_1 ∧ Cond.instanceMethod q.1 ∈ tables_1
theorem lw_p0 : lw_okq (⟨"java/lang/Throwable", "fillInStackTrace", "(I)Ljava/lang/Throwable;"⟩, 6) := ⟨⟨by decide +kernel, by decide +kernel⟩, List.mem_of_getElem? (i := 313) (by decide +kernel), List.mem_of_getElem? (i := 311) (by decide +kernel), List.mem_of_getElem? (i := 312) (by decide +kernel)⟩
theorem lw_p1 : lw_okq (⟨"EstateDesk", "requireOpen", "()V"⟩, 8) := ⟨⟨by decide +kernel, by decide +kernel⟩, List.mem_of_getElem? (i := 17) (by decide +kernel), List.mem_of_getElem? (i := 338) (by decide +kernel), List.mem_of_getElem? (i := 339) (by decide +kernel)⟩
theorem lw_p2 : lw_okq (⟨"EstateDesk", "noteFact", "()V"⟩, 8) := ⟨⟨by decide +kernel, by decide +kernel⟩, List.mem_of_getElem? (i := 17) (by decide +kernel), List.mem_of_getElem? (i := 360) (by decide +kernel), List.mem_of_getElem? (i := 361) (by decide +kernel)⟩
theorem lw_p3 : lw_okq (⟨"EstateDesk", "requireAsset", "(I)V"⟩, 8) := ⟨⟨by decide +kernel, by decide +kernel⟩, List.mem_of_getElem? (i := 17) (by decide +kernel), List.mem_of_getElem? (i := 387) (by decide +kernel), List.mem_of_getElem? (i := 388) (by decide +kernel)⟩
theorem lw_p4 : lw_okq (⟨"EstateDesk", "requireAssetOrNone", "(I)V"⟩, 8) := ⟨⟨by decide +kernel, by decide +kernel⟩, List.mem_of_getElem? (i := 17) (by decide +kernel), List.mem_of_getElem? (i := 420) (by decide +kernel), List.mem_of_getElem? (i := 421) (by decide +kernel)⟩
theorem lw_p5 : lw_okq (⟨"EstateDesk$Settling", "judgeClauses", "()V"⟩, 7) := ⟨⟨by decide +kernel, by decide +kernel⟩, List.mem_of_getElem? (i := 191) (by decide +kernel), List.mem_of_getElem? (i := 515) (by decide +kernel), List.mem_of_getElem? (i := 516) (by decide +kernel)⟩
theorem lw_p6 : lw_okq (⟨"EstateDesk$Settling", "firstWhoOutlived", "([I)I"⟩, 7) := ⟨⟨by decide +kernel, by decide +kernel⟩, List.mem_of_getElem? (i := 191) (by decide +kernel), List.mem_of_getElem? (i := 519) (by decide +kernel), List.mem_of_getElem? (i := 520) (by decide +kernel)⟩
theorem lw_p7 : lw_okq (⟨"EstateDesk$Settling", "judge", "(II)V"⟩, 7) := ⟨⟨by decide +kernel, by decide +kernel⟩, List.mem_of_getElem? (i := 191) (by decide +kernel), List.mem_of_getElem? (i := 527) (by decide +kernel), List.mem_of_getElem? (i := 528) (by decide +kernel)⟩
theorem lw_p8 : lw_okq (⟨"EstateDesk$Settling", "divideDebts", "()V"⟩, 7) := ⟨⟨by decide +kernel, by decide +kernel⟩, List.mem_of_getElem? (i := 191) (by decide +kernel), List.mem_of_getElem? (i := 531) (by decide +kernel), List.mem_of_getElem? (i := 532) (by decide +kernel)⟩
theorem lw_p9 : lw_okq (⟨"EstateDesk$Settling", "valueClauses", "()V"⟩, 7) := ⟨⟨by decide +kernel, by decide +kernel⟩, List.mem_of_getElem? (i := 191) (by decide +kernel), List.mem_of_getElem? (i := 542) (by decide +kernel), List.mem_of_getElem? (i := 543) (by decide +kernel)⟩
theorem lw_p10 : lw_okq (⟨"EstateDesk$Settling", "valueGood", "(I)V"⟩, 7) := ⟨⟨by decide +kernel, by decide +kernel⟩, List.mem_of_getElem? (i := 191) (by decide +kernel), List.mem_of_getElem? (i := 546) (by decide +kernel), List.mem_of_getElem? (i := 547) (by decide +kernel)⟩
theorem lw_p11 : lw_okq (⟨"EstateDesk$Settling", "addUp", "()V"⟩, 7) := ⟨⟨by decide +kernel, by decide +kernel⟩, List.mem_of_getElem? (i := 191) (by decide +kernel), List.mem_of_getElem? (i := 550) (by decide +kernel), List.mem_of_getElem? (i := 551) (by decide +kernel)⟩
theorem lw_p12 : lw_okq (⟨"EstateDesk$Settling", "payInProportion", "(J)V"⟩, 7) := ⟨⟨by decide +kernel, by decide +kernel⟩, List.mem_of_getElem? (i := 191) (by decide +kernel), List.mem_of_getElem? (i := 561) (by decide +kernel), List.mem_of_getElem? (i := 562) (by decide +kernel)⟩
theorem lw_p13 : lw_okq (⟨"EstateDesk$Split", "cut", "(IJJJ)V"⟩, 2) := ⟨⟨by decide +kernel, by decide +kernel⟩, List.mem_of_getElem? (i := 197) (by decide +kernel), List.mem_of_getElem? (i := 571) (by decide +kernel), List.mem_of_getElem? (i := 572) (by decide +kernel)⟩
theorem lw_p14 : lw_okq (⟨"EstateDesk$Split", "greatestRest", "()I"⟩, 2) := ⟨⟨by decide +kernel, by decide +kernel⟩, List.mem_of_getElem? (i := 197) (by decide +kernel), List.mem_of_getElem? (i := 577) (by decide +kernel), List.mem_of_getElem? (i := 578) (by decide +kernel)⟩
theorem lw_p15 : lw_okq (⟨"EstateDesk$Settling", "abateByClass", "()V"⟩, 7) := ⟨⟨by decide +kernel, by decide +kernel⟩, List.mem_of_getElem? (i := 191) (by decide +kernel), List.mem_of_getElem? (i := 586) (by decide +kernel), List.mem_of_getElem? (i := 587) (by decide +kernel)⟩
def lw_privs_1 : List (MethodName × Nat) := [(⟨"java/lang/Throwable", "fillInStackTrace", "(I)Ljava/lang/Throwable;"⟩, 6), (⟨"EstateDesk", "requireOpen", "()V"⟩, 8), (⟨"EstateDesk", "noteFact", "()V"⟩, 8), (⟨"EstateDesk", "requireAsset", "(I)V"⟩, 8), (⟨"EstateDesk", "requireAssetOrNone", "(I)V"⟩, 8), (⟨"EstateDesk$Settling", "judgeClauses", "()V"⟩, 7), (⟨"EstateDesk$Settling", "firstWhoOutlived", "([I)I"⟩, 7), (⟨"EstateDesk$Settling", "judge", "(II)V"⟩, 7), (⟨"EstateDesk$Settling", "divideDebts", "()V"⟩, 7), (⟨"EstateDesk$Settling", "valueClauses", "()V"⟩, 7), (⟨"EstateDesk$Settling", "valueGood", "(I)V"⟩, 7), (⟨"EstateDesk$Settling", "addUp", "()V"⟩, 7), (⟨"EstateDesk$Settling", "payInProportion", "(J)V"⟩, 7), (⟨"EstateDesk$Split", "cut", "(IJJJ)V"⟩, 2), (⟨"EstateDesk$Split", "greatestRest", "()I"⟩, 2), (⟨"EstateDesk$Settling", "abateByClass", "()V"⟩, 7)]
theorem lw_r1 : ∀ q ∈ lw_privs_1, lw_okq q := List.forall_mem_cons.mpr ⟨lw_p0, List.forall_mem_cons.mpr ⟨lw_p1, List.forall_mem_cons.mpr ⟨lw_p2, List.forall_mem_cons.mpr ⟨lw_p3, List.forall_mem_cons.mpr ⟨lw_p4, List.forall_mem_cons.mpr ⟨lw_p5, List.forall_mem_cons.mpr ⟨lw_p6, List.forall_mem_cons.mpr ⟨lw_p7, List.forall_mem_cons.mpr ⟨lw_p8, List.forall_mem_cons.mpr ⟨lw_p9, List.forall_mem_cons.mpr ⟨lw_p10, List.forall_mem_cons.mpr ⟨lw_p11, List.forall_mem_cons.mpr ⟨lw_p12, List.forall_mem_cons.mpr ⟨lw_p13, List.forall_mem_cons.mpr ⟨lw_p14, List.forall_mem_cons.mpr ⟨lw_p15, fun _ h => absurd h List.not_mem_nil⟩⟩⟩⟩⟩⟩⟩⟩⟩⟩⟩⟩⟩⟩⟩⟩
theorem lw_p16 : lw_okq (⟨"EstateDesk$Settling", "bear", "([JJ)V"⟩, 7) := ⟨⟨by decide +kernel, by decide +kernel⟩, List.mem_of_getElem? (i := 191) (by decide +kernel), List.mem_of_getElem? (i := 591) (by decide +kernel), List.mem_of_getElem? (i := 592) (by decide +kernel)⟩
theorem lw_p17 : lw_okq (⟨"EstateDesk$Settling", "shareResidue", "()V"⟩, 7) := ⟨⟨by decide +kernel, by decide +kernel⟩, List.mem_of_getElem? (i := 191) (by decide +kernel), List.mem_of_getElem? (i := 595) (by decide +kernel), List.mem_of_getElem? (i := 596) (by decide +kernel)⟩
theorem lw_p18 : lw_okq (⟨"EstateDesk$Settling", "handOut", "()V"⟩, 7) := ⟨⟨by decide +kernel, by decide +kernel⟩, List.mem_of_getElem? (i := 191) (by decide +kernel), List.mem_of_getElem? (i := 599) (by decide +kernel), List.mem_of_getElem? (i := 600) (by decide +kernel)⟩
theorem lw_p19 : lw_okq (⟨"EstateDeskModel", "isBarred", "(ZZ)Z"⟩, 37) := ⟨⟨by decide +kernel, by decide +kernel⟩, List.mem_of_getElem? (i := 662) (by decide +kernel), List.mem_of_getElem? (i := 792) (by decide +kernel), List.mem_of_getElem? (i := 793) (by decide +kernel)⟩
theorem lw_p20 : lw_okq (⟨"EstateDeskModel", "refused", "(I)Z"⟩, 37) := ⟨⟨by decide +kernel, by decide +kernel⟩, List.mem_of_getElem? (i := 662) (by decide +kernel), List.mem_of_getElem? (i := 796) (by decide +kernel), List.mem_of_getElem? (i := 797) (by decide +kernel)⟩
theorem lw_p21 : lw_okq (⟨"EstateDeskModel", "hasAsset", "(I)Z"⟩, 37) := ⟨⟨by decide +kernel, by decide +kernel⟩, List.mem_of_getElem? (i := 662) (by decide +kernel), List.mem_of_getElem? (i := 820) (by decide +kernel), List.mem_of_getElem? (i := 821) (by decide +kernel)⟩
theorem lw_p22 : lw_okq (⟨"EstateDeskModel", "isHad", "(IIZ)Z"⟩, 37) := ⟨⟨by decide +kernel, by decide +kernel⟩, List.mem_of_getElem? (i := 662) (by decide +kernel), List.mem_of_getElem? (i := 832) (by decide +kernel), List.mem_of_getElem? (i := 833) (by decide +kernel)⟩
theorem lw_p23 : lw_okq (⟨"EstateDeskModel", "tell", "(IIIJI)V"⟩, 37) := ⟨⟨by decide +kernel, by decide +kernel⟩, List.mem_of_getElem? (i := 662) (by decide +kernel), List.mem_of_getElem? (i := 836) (by decide +kernel), List.mem_of_getElem? (i := 837) (by decide +kernel)⟩
theorem lw_p24 : lw_okq (⟨"EstateDeskModel", "findStates", "()V"⟩, 37) := ⟨⟨by decide +kernel, by decide +kernel⟩, List.mem_of_getElem? (i := 662) (by decide +kernel), List.mem_of_getElem? (i := 876) (by decide +kernel), List.mem_of_getElem? (i := 877) (by decide +kernel)⟩
theorem lw_p25 : lw_okq (⟨"EstateDeskModel", "takerOf", "(I)I"⟩, 37) := ⟨⟨by decide +kernel, by decide +kernel⟩, List.mem_of_getElem? (i := 662) (by decide +kernel), List.mem_of_getElem? (i := 880) (by decide +kernel), List.mem_of_getElem? (i := 881) (by decide +kernel)⟩
theorem lw_p26 : lw_okq (⟨"EstateDeskModel", "outlived", "(I)Z"⟩, 37) := ⟨⟨by decide +kernel, by decide +kernel⟩, List.mem_of_getElem? (i := 662) (by decide +kernel), List.mem_of_getElem? (i := 884) (by decide +kernel), List.mem_of_getElem? (i := 885) (by decide +kernel)⟩
theorem lw_p27 : lw_okq (⟨"EstateDeskModel", "findOwn", "()V"⟩, 37) := ⟨⟨by decide +kernel, by decide +kernel⟩, List.mem_of_getElem? (i := 662) (by decide +kernel), List.mem_of_getElem? (i := 888) (by decide +kernel), List.mem_of_getElem? (i := 889) (by decide +kernel)⟩
theorem lw_p28 : lw_okq (⟨"EstateDeskModel", "giftOf", "(I)I"⟩, 37) := ⟨⟨by decide +kernel, by decide +kernel⟩, List.mem_of_getElem? (i := 662) (by decide +kernel), List.mem_of_getElem? (i := 892) (by decide +kernel), List.mem_of_getElem? (i := 893) (by decide +kernel)⟩
theorem lw_p29 : lw_okq (⟨"EstateDeskModel", "isGood", "(II)Z"⟩, 37) := ⟨⟨by decide +kernel, by decide +kernel⟩, List.mem_of_getElem? (i := 662) (by decide +kernel), List.mem_of_getElem? (i := 896) (by decide +kernel), List.mem_of_getElem? (i := 897) (by decide +kernel)⟩
theorem lw_p30 : lw_okq (⟨"EstateDeskModel", "findValues", "()V"⟩, 37) := ⟨⟨by decide +kernel, by decide +kernel⟩, List.mem_of_getElem? (i := 662) (by decide +kernel), List.mem_of_getElem? (i := 900) (by decide +kernel), List.mem_of_getElem? (i := 901) (by decide +kernel)⟩
theorem lw_p31 : lw_okq (⟨"EstateDeskModel", "ownOf", "(I)J"⟩, 37) := ⟨⟨by decide +kernel, by decide +kernel⟩, List.mem_of_getElem? (i := 662) (by decide +kernel), List.mem_of_getElem? (i := 904) (by decide +kernel), List.mem_of_getElem? (i := 905) (by decide +kernel)⟩
def lw_privs_2 : List (MethodName × Nat) := [(⟨"EstateDesk$Settling", "bear", "([JJ)V"⟩, 7), (⟨"EstateDesk$Settling", "shareResidue", "()V"⟩, 7), (⟨"EstateDesk$Settling", "handOut", "()V"⟩, 7), (⟨"EstateDeskModel", "isBarred", "(ZZ)Z"⟩, 37), (⟨"EstateDeskModel", "refused", "(I)Z"⟩, 37), (⟨"EstateDeskModel", "hasAsset", "(I)Z"⟩, 37), (⟨"EstateDeskModel", "isHad", "(IIZ)Z"⟩, 37), (⟨"EstateDeskModel", "tell", "(IIIJI)V"⟩, 37), (⟨"EstateDeskModel", "findStates", "()V"⟩, 37), (⟨"EstateDeskModel", "takerOf", "(I)I"⟩, 37), (⟨"EstateDeskModel", "outlived", "(I)Z"⟩, 37), (⟨"EstateDeskModel", "findOwn", "()V"⟩, 37), (⟨"EstateDeskModel", "giftOf", "(I)I"⟩, 37), (⟨"EstateDeskModel", "isGood", "(II)Z"⟩, 37), (⟨"EstateDeskModel", "findValues", "()V"⟩, 37), (⟨"EstateDeskModel", "ownOf", "(I)J"⟩, 37)]
theorem lw_r2 : ∀ q ∈ lw_privs_2, lw_okq q := List.forall_mem_cons.mpr ⟨lw_p16, List.forall_mem_cons.mpr ⟨lw_p17, List.forall_mem_cons.mpr ⟨lw_p18, List.forall_mem_cons.mpr ⟨lw_p19, List.forall_mem_cons.mpr ⟨lw_p20, List.forall_mem_cons.mpr ⟨lw_p21, List.forall_mem_cons.mpr ⟨lw_p22, List.forall_mem_cons.mpr ⟨lw_p23, List.forall_mem_cons.mpr ⟨lw_p24, List.forall_mem_cons.mpr ⟨lw_p25, List.forall_mem_cons.mpr ⟨lw_p26, List.forall_mem_cons.mpr ⟨lw_p27, List.forall_mem_cons.mpr ⟨lw_p28, List.forall_mem_cons.mpr ⟨lw_p29, List.forall_mem_cons.mpr ⟨lw_p30, List.forall_mem_cons.mpr ⟨lw_p31, fun _ h => absurd h List.not_mem_nil⟩⟩⟩⟩⟩⟩⟩⟩⟩⟩⟩⟩⟩⟩⟩⟩
theorem lw_p32 : lw_okq (⟨"EstateDeskModel", "addUp", "()V"⟩, 37) := ⟨⟨by decide +kernel, by decide +kernel⟩, List.mem_of_getElem? (i := 662) (by decide +kernel), List.mem_of_getElem? (i := 914) (by decide +kernel), List.mem_of_getElem? (i := 915) (by decide +kernel)⟩
theorem lw_p33 : lw_okq (⟨"EstateDeskModel", "spread", "(J)V"⟩, 37) := ⟨⟨by decide +kernel, by decide +kernel⟩, List.mem_of_getElem? (i := 662) (by decide +kernel), List.mem_of_getElem? (i := 921) (by decide +kernel), List.mem_of_getElem? (i := 922) (by decide +kernel)⟩
theorem lw_p34 : lw_okq (⟨"EstateDeskModel", "split", "(J)V"⟩, 37) := ⟨⟨by decide +kernel, by decide +kernel⟩, List.mem_of_getElem? (i := 662) (by decide +kernel), List.mem_of_getElem? (i := 925) (by decide +kernel), List.mem_of_getElem? (i := 926) (by decide +kernel)⟩
theorem lw_p35 : lw_okq (⟨"EstateDeskModel", "share", "(IJJ)V"⟩, 37) := ⟨⟨by decide +kernel, by decide +kernel⟩, List.mem_of_getElem? (i := 662) (by decide +kernel), List.mem_of_getElem? (i := 930) (by decide +kernel), List.mem_of_getElem? (i := 931) (by decide +kernel)⟩
theorem lw_p36 : lw_okq (⟨"EstateDeskModel", "bear", "(IJ)V"⟩, 37) := ⟨⟨by decide +kernel, by decide +kernel⟩, List.mem_of_getElem? (i := 662) (by decide +kernel), List.mem_of_getElem? (i := 938) (by decide +kernel), List.mem_of_getElem? (i := 939) (by decide +kernel)⟩
theorem lw_p37 : lw_okq (⟨"EstateDeskModel", "shareResidue", "(J)V"⟩, 37) := ⟨⟨by decide +kernel, by decide +kernel⟩, List.mem_of_getElem? (i := 662) (by decide +kernel), List.mem_of_getElem? (i := 942) (by decide +kernel), List.mem_of_getElem? (i := 943) (by decide +kernel)⟩
theorem lw_p38 : lw_okq (⟨"EstateDeskModel", "hand", "()V"⟩, 37) := ⟨⟨by decide +kernel, by decide +kernel⟩, List.mem_of_getElem? (i := 662) (by decide +kernel), List.mem_of_getElem? (i := 946) (by decide +kernel), List.mem_of_getElem? (i := 947) (by decide +kernel)⟩
theorem lw_p39 : lw_okq (⟨"EstateDeskModel", "isWrong", "(Z)Z"⟩, 37) := ⟨⟨by decide +kernel, by decide +kernel⟩, List.mem_of_getElem? (i := 662) (by decide +kernel), List.mem_of_getElem? (i := 954) (by decide +kernel), List.mem_of_getElem? (i := 955) (by decide +kernel)⟩
def lw_privs_3 : List (MethodName × Nat) := [(⟨"EstateDeskModel", "addUp", "()V"⟩, 37), (⟨"EstateDeskModel", "spread", "(J)V"⟩, 37), (⟨"EstateDeskModel", "split", "(J)V"⟩, 37), (⟨"EstateDeskModel", "share", "(IJJ)V"⟩, 37), (⟨"EstateDeskModel", "bear", "(IJ)V"⟩, 37), (⟨"EstateDeskModel", "shareResidue", "(J)V"⟩, 37), (⟨"EstateDeskModel", "hand", "()V"⟩, 37), (⟨"EstateDeskModel", "isWrong", "(Z)Z"⟩, 37)]
theorem lw_r3 : ∀ q ∈ lw_privs_3, lw_okq q := List.forall_mem_cons.mpr ⟨lw_p32, List.forall_mem_cons.mpr ⟨lw_p33, List.forall_mem_cons.mpr ⟨lw_p34, List.forall_mem_cons.mpr ⟨lw_p35, List.forall_mem_cons.mpr ⟨lw_p36, List.forall_mem_cons.mpr ⟨lw_p37, List.forall_mem_cons.mpr ⟨lw_p38, List.forall_mem_cons.mpr ⟨lw_p39, fun _ h => absurd h List.not_mem_nil⟩⟩⟩⟩⟩⟩⟩⟩
def lw_privs : List (MethodName × Nat) := lw_privs_1 ++ (lw_privs_2 ++ (lw_privs_3))
def lw_tbl : List Cond := k2_sels lw_privs ++ tables_1
theorem lw_privs_ok : ∀ q ∈ lw_privs, lw_okq q := by
  show ∀ q ∈ lw_privs_1 ++ (lw_privs_2 ++ (lw_privs_3)), lw_okq q
  exact List.forall_mem_append.mpr ⟨lw_r1, List.forall_mem_append.mpr ⟨lw_r2, lw_r3⟩⟩
end
section
/-! names: classes and their fields; the places of words (printed by wip/whole/prog/gen.py) -/
theorem tb {w : Cond} (i : Nat) (h : tables_1[i]? = some w) : w ∈ lw_tbl := List.mem_append_right _ (List.mem_of_getElem? h)
theorem tb1 {w : Cond} (i : Nat) (h : tables_1_1[i]? = some w) : w ∈ lw_tbl := List.mem_append_right _ (show w ∈ tables_1 from List.mem_append_left _ (List.mem_of_getElem? h))
theorem tb2 {w : Cond} (i : Nat) (h : tables_1_2[i]? = some w) : w ∈ lw_tbl := List.mem_append_right _ (show w ∈ tables_1 from List.mem_append_right _ (List.mem_append_left _ (List.mem_of_getElem? h)))
theorem tb3 {w : Cond} (i : Nat) (h : tables_1_3[i]? = some w) : w ∈ lw_tbl := List.mem_append_right _ (show w ∈ tables_1 from List.mem_append_right _ (List.mem_append_right _ (List.mem_append_left _ (List.mem_of_getElem? h))))
theorem tb4 {w : Cond} (i : Nat) (h : tables_1_4[i]? = some w) : w ∈ lw_tbl := List.mem_append_right _ (show w ∈ tables_1 from List.mem_append_right _ (List.mem_append_right _ (List.mem_append_right _ (List.mem_append_left _ (List.mem_of_getElem? h)))))
theorem tb5 {w : Cond} (i : Nat) (h : tables_1_5[i]? = some w) : w ∈ lw_tbl := List.mem_append_right _ (show w ∈ tables_1 from List.mem_append_right _ (List.mem_append_right _ (List.mem_append_right _ (List.mem_append_right _ (List.mem_of_getElem? h)))))
theorem ts {w : Cond} (i : Nat) (h : (k2_sels lw_privs)[i]? = some w) : w ∈ lw_tbl := List.mem_append_left _ (List.mem_of_getElem? h)
def eT0 : u_T := fun k => match k with
  | 0 => ("EstateDesk", "persons", "LEstateDesk$Persons;", true)
  | 1 => ("EstateDesk", "assets", "LEstateDesk$Assets;", true)
  | 2 => ("EstateDesk", "clauses", "LEstateDesk$Clauses;", true)
  | 3 => ("EstateDesk", "debts", "LEstateDesk$Debts;", true)
  | 4 => ("EstateDesk", "settling", "LEstateDesk$Settling;", true)
  | 5 => ("EstateDesk", "settled", "Z", false)
  | 6 => ("EstateDesk", "settledSinceLastFact", "Z", false)
  | _ => ("EstateDesk", "closed", "Z", false)
def eT1 : u_T := fun k => match k with
  | 0 => ("EstateDesk$Persons", "testatorDay", "I", false)
  | 1 => ("EstateDesk$Persons", "diedOn", "[I", true)
  | 2 => ("EstateDesk$Persons", "getsAssets", "[J", true)
  | 3 => ("EstateDesk$Persons", "getsCents", "[J", true)
  | _ => ("EstateDesk$Persons", "owes", "[J", true)
def eT2 : u_T := fun k => match k with
  | 0 => ("EstateDesk$Assets", "known", "[Z", true)
  | 1 => ("EstateDesk$Assets", "value", "[J", true)
  | 2 => ("EstateDesk$Assets", "fund", "[Z", true)
  | 3 => ("EstateDesk$Assets", "gone", "[Z", true)
  | 4 => ("EstateDesk$Assets", "left", "[J", true)
  | 5 => ("EstateDesk$Assets", "givenBy", "[I", true)
  | _ => ("EstateDesk$Assets", "holder", "[I", true)
def eT3 : u_T := fun k => match k with
  | 0 => ("EstateDesk$Clauses", "kind", "[I", true)
  | 1 => ("EstateDesk$Clauses", "amount", "[J", true)
  | 2 => ("EstateDesk$Clauses", "asset", "[I", true)
  | 3 => ("EstateDesk$Clauses", "debtsStay", "[Z", true)
  | 4 => ("EstateDesk$Clauses", "named", "[[I", true)
  | 5 => ("EstateDesk$Clauses", "state", "[I", true)
  | 6 => ("EstateDesk$Clauses", "goesTo", "[I", true)
  | 7 => ("EstateDesk$Clauses", "given", "[J", true)
  | 8 => ("EstateDesk$Clauses", "drawn", "[J", true)
  | 9 => ("EstateDesk$Clauses", "general", "[J", true)
  | 10 => ("EstateDesk$Clauses", "residueParts", "[J", true)
  | 11 => ("EstateDesk$Clauses", "bears", "[J", true)
  | _ => ("EstateDesk$Clauses", "getsCents", "[J", true)
def eT4 : u_T := fun k => match k with
  | 0 => ("EstateDesk$Debts", "cents", "[J", true)
  | 1 => ("EstateDesk$Debts", "asset", "[I", true)
  | 2 => ("EstateDesk$Debts", "ordinary", "[J", true)
  | _ => ("EstateDesk$Debts", "paidOff", "[J", true)
def eT5 : u_T := fun k => match k with
  | 0 => ("EstateDesk$Settling", "persons", "LEstateDesk$Persons;", true)
  | 1 => ("EstateDesk$Settling", "assets", "LEstateDesk$Assets;", true)
  | 2 => ("EstateDesk$Settling", "clauses", "LEstateDesk$Clauses;", true)
  | 3 => ("EstateDesk$Settling", "debts", "LEstateDesk$Debts;", true)
  | 4 => ("EstateDesk$Settling", "split", "LEstateDesk$Split;", true)
  | 5 => ("EstateDesk$Settling", "sums", "[J", true)
  | _ => ("EstateDesk$Settling", "shortage", "J", false)
def eT6 : u_T := fun k => match k with
  | 0 => ("EstateDesk$Split", "share", "[J", true)
  | _ => ("EstateDesk$Split", "rest", "[J", true)
def eT7 : u_T := fun k => match k with
  | 0 => ("EstateDeskModel", "fault", "I", false)
  | 1 => ("EstateDeskModel", "day", "I", false)
  | 2 => ("EstateDeskModel", "isClosed", "Z", false)
  | 3 => ("EstateDeskModel", "isSettled", "Z", false)
  | 4 => ("EstateDeskModel", "isFresh", "Z", false)
  | 5 => ("EstateDeskModel", "died", "[I", true)
  | 6 => ("EstateDeskModel", "isAsset", "[Z", true)
  | 7 => ("EstateDeskModel", "worths", "[J", true)
  | 8 => ("EstateDeskModel", "isFund", "[Z", true)
  | 9 => ("EstateDeskModel", "isGone", "[Z", true)
  | 10 => ("EstateDeskModel", "kinds", "[I", true)
  | 11 => ("EstateDeskModel", "assetOf", "[I", true)
  | 12 => ("EstateDeskModel", "cents", "[J", true)
  | 13 => ("EstateDeskModel", "number", "[I", true)
  | 14 => ("EstateDeskModel", "stays", "[Z", true)
  | 15 => ("EstateDeskModel", "ranks", "[I", true)
  | 16 => ("EstateDeskModel", "isDebt", "[Z", true)
  | 17 => ("EstateDeskModel", "owed", "[J", true)
  | 18 => ("EstateDeskModel", "chargedOn", "[I", true)
  | 19 => ("EstateDeskModel", "states", "[I", true)
  | 20 => ("EstateDeskModel", "takers", "[I", true)
  | 21 => ("EstateDeskModel", "general", "[J", true)
  | 22 => ("EstateDeskModel", "drawn", "[J", true)
  | 23 => ("EstateDeskModel", "values", "[J", true)
  | 24 => ("EstateDeskModel", "bears", "[J", true)
  | 25 => ("EstateDeskModel", "shares", "[J", true)
  | 26 => ("EstateDeskModel", "ownDebt", "[J", true)
  | 27 => ("EstateDeskModel", "ordinary", "[J", true)
  | 28 => ("EstateDeskModel", "paid", "[J", true)
  | 29 => ("EstateDeskModel", "assetGot", "[J", true)
  | 30 => ("EstateDeskModel", "centsGot", "[J", true)
  | 31 => ("EstateDeskModel", "owes", "[J", true)
  | 32 => ("EstateDeskModel", "gotBy", "[I", true)
  | 33 => ("EstateDeskModel", "sums", "[J", true)
  | 34 => ("EstateDeskModel", "weights", "[J", true)
  | 35 => ("EstateDeskModel", "parts", "[J", true)
  | _ => ("EstateDeskModel", "rests", "[J", true)
abbrev ed_cl : List vw_C := [("EstateDesk", eT0, 8), ("EstateDesk$Persons", eT1, 5), ("EstateDesk$Assets", eT2, 7), ("EstateDesk$Clauses", eT3, 13), ("EstateDesk$Debts", eT4, 4), ("EstateDesk$Settling", eT5, 7), ("EstateDesk$Split", eT6, 2), ("EstateDeskModel", eT7, 37)]
theorem ew0_0 : u_lay "EstateDesk" eT0 0 ∈ lw_tbl := tb2 2 rfl
theorem ew0_1 : u_lay "EstateDesk" eT0 1 ∈ lw_tbl := tb2 4 rfl
theorem ew0_2 : u_lay "EstateDesk" eT0 2 ∈ lw_tbl := tb2 6 rfl
theorem ew0_3 : u_lay "EstateDesk" eT0 3 ∈ lw_tbl := tb2 8 rfl
theorem ew0_4 : u_lay "EstateDesk" eT0 4 ∈ lw_tbl := tb2 10 rfl
theorem ew0_5 : u_lay "EstateDesk" eT0 5 ∈ lw_tbl := tb2 12 rfl
theorem ew0_6 : u_lay "EstateDesk" eT0 6 ∈ lw_tbl := tb2 14 rfl
theorem ew0_7 : u_lay "EstateDesk" eT0 7 ∈ lw_tbl := tb2 16 rfl
theorem ec0 : ∀ k, k < 8 → u_lay "EstateDesk" eT0 k ∈ lw_tbl ∧ goodWord (u_lay "EstateDesk" eT0 k) = true
  | 0, _ => ⟨ew0_0, rfl⟩
  | 1, _ => ⟨ew0_1, rfl⟩
  | 2, _ => ⟨ew0_2, rfl⟩
  | 3, _ => ⟨ew0_3, rfl⟩
  | 4, _ => ⟨ew0_4, rfl⟩
  | 5, _ => ⟨ew0_5, rfl⟩
  | 6, _ => ⟨ew0_6, rfl⟩
  | 7, _ => ⟨ew0_7, rfl⟩
  | k + 8, h => absurd h (by omega)
def ety0 : Nat → FieldType := fun k => match k with
  | 0 => .object "EstateDesk$Persons"
  | 1 => .object "EstateDesk$Assets"
  | 2 => .object "EstateDesk$Clauses"
  | 3 => .object "EstateDesk$Debts"
  | 4 => .object "EstateDesk$Settling"
  | 5 => .boolean
  | 6 => .boolean
  | _ => .boolean
theorem et0 : (∀ k, k < 8 → parseFieldDescriptor (eT0 k).2.2.1 = some (ety0 k)) ∧ (∀ a, a < 8 → ∀ b, b < 8 → a ≠ b → (eT0 a).2.1 ≠ (eT0 b).2.1) := ⟨by decide +kernel, by decide +kernel⟩
theorem ew1_0 : u_lay "EstateDesk$Persons" eT1 0 ∈ lw_tbl := tb1 43 rfl
theorem ew1_1 : u_lay "EstateDesk$Persons" eT1 1 ∈ lw_tbl := tb1 45 rfl
theorem ew1_2 : u_lay "EstateDesk$Persons" eT1 2 ∈ lw_tbl := tb1 47 rfl
theorem ew1_3 : u_lay "EstateDesk$Persons" eT1 3 ∈ lw_tbl := tb1 49 rfl
theorem ew1_4 : u_lay "EstateDesk$Persons" eT1 4 ∈ lw_tbl := tb1 51 rfl
theorem ec1 : ∀ k, k < 5 → u_lay "EstateDesk$Persons" eT1 k ∈ lw_tbl ∧ goodWord (u_lay "EstateDesk$Persons" eT1 k) = true
  | 0, _ => ⟨ew1_0, rfl⟩
  | 1, _ => ⟨ew1_1, rfl⟩
  | 2, _ => ⟨ew1_2, rfl⟩
  | 3, _ => ⟨ew1_3, rfl⟩
  | 4, _ => ⟨ew1_4, rfl⟩
  | k + 5, h => absurd h (by omega)
def ety1 : Nat → FieldType := fun k => match k with
  | 0 => .int
  | 1 => .array (.int)
  | 2 => .array (.long)
  | 3 => .array (.long)
  | _ => .array (.long)
theorem et1 : (∀ k, k < 5 → parseFieldDescriptor (eT1 k).2.2.1 = some (ety1 k)) ∧ (∀ a, a < 5 → ∀ b, b < 5 → a ≠ b → (eT1 a).2.1 ≠ (eT1 b).2.1) := ⟨by decide +kernel, by decide +kernel⟩
theorem ew2_0 : u_lay "EstateDesk$Assets" eT2 0 ∈ lw_tbl := tb1 79 rfl
theorem ew2_1 : u_lay "EstateDesk$Assets" eT2 1 ∈ lw_tbl := tb1 81 rfl
theorem ew2_2 : u_lay "EstateDesk$Assets" eT2 2 ∈ lw_tbl := tb1 83 rfl
theorem ew2_3 : u_lay "EstateDesk$Assets" eT2 3 ∈ lw_tbl := tb1 85 rfl
theorem ew2_4 : u_lay "EstateDesk$Assets" eT2 4 ∈ lw_tbl := tb1 87 rfl
theorem ew2_5 : u_lay "EstateDesk$Assets" eT2 5 ∈ lw_tbl := tb1 89 rfl
theorem ew2_6 : u_lay "EstateDesk$Assets" eT2 6 ∈ lw_tbl := tb1 91 rfl
theorem ec2 : ∀ k, k < 7 → u_lay "EstateDesk$Assets" eT2 k ∈ lw_tbl ∧ goodWord (u_lay "EstateDesk$Assets" eT2 k) = true
  | 0, _ => ⟨ew2_0, rfl⟩
  | 1, _ => ⟨ew2_1, rfl⟩
  | 2, _ => ⟨ew2_2, rfl⟩
  | 3, _ => ⟨ew2_3, rfl⟩
  | 4, _ => ⟨ew2_4, rfl⟩
  | 5, _ => ⟨ew2_5, rfl⟩
  | 6, _ => ⟨ew2_6, rfl⟩
  | k + 7, h => absurd h (by omega)
def ety2 : Nat → FieldType := fun k => match k with
  | 0 => .array (.boolean)
  | 1 => .array (.long)
  | 2 => .array (.boolean)
  | 3 => .array (.boolean)
  | 4 => .array (.long)
  | 5 => .array (.int)
  | _ => .array (.int)
theorem et2 : (∀ k, k < 7 → parseFieldDescriptor (eT2 k).2.2.1 = some (ety2 k)) ∧ (∀ a, a < 7 → ∀ b, b < 7 → a ≠ b → (eT2 a).2.1 ≠ (eT2 b).2.1) := ⟨by decide +kernel, by decide +kernel⟩
theorem ew3_0 : u_lay "EstateDesk$Clauses" eT3 0 ∈ lw_tbl := tb1 137 rfl
theorem ew3_1 : u_lay "EstateDesk$Clauses" eT3 1 ∈ lw_tbl := tb1 139 rfl
theorem ew3_2 : u_lay "EstateDesk$Clauses" eT3 2 ∈ lw_tbl := tb1 141 rfl
theorem ew3_3 : u_lay "EstateDesk$Clauses" eT3 3 ∈ lw_tbl := tb1 143 rfl
theorem ew3_4 : u_lay "EstateDesk$Clauses" eT3 4 ∈ lw_tbl := tb1 145 rfl
theorem ew3_5 : u_lay "EstateDesk$Clauses" eT3 5 ∈ lw_tbl := tb1 147 rfl
theorem ew3_6 : u_lay "EstateDesk$Clauses" eT3 6 ∈ lw_tbl := tb1 149 rfl
theorem ew3_7 : u_lay "EstateDesk$Clauses" eT3 7 ∈ lw_tbl := tb1 151 rfl
theorem ew3_8 : u_lay "EstateDesk$Clauses" eT3 8 ∈ lw_tbl := tb1 153 rfl
theorem ew3_9 : u_lay "EstateDesk$Clauses" eT3 9 ∈ lw_tbl := tb1 155 rfl
theorem ew3_10 : u_lay "EstateDesk$Clauses" eT3 10 ∈ lw_tbl := tb1 157 rfl
theorem ew3_11 : u_lay "EstateDesk$Clauses" eT3 11 ∈ lw_tbl := tb1 159 rfl
theorem ew3_12 : u_lay "EstateDesk$Clauses" eT3 12 ∈ lw_tbl := tb1 161 rfl
theorem ec3 : ∀ k, k < 13 → u_lay "EstateDesk$Clauses" eT3 k ∈ lw_tbl ∧ goodWord (u_lay "EstateDesk$Clauses" eT3 k) = true
  | 0, _ => ⟨ew3_0, rfl⟩
  | 1, _ => ⟨ew3_1, rfl⟩
  | 2, _ => ⟨ew3_2, rfl⟩
  | 3, _ => ⟨ew3_3, rfl⟩
  | 4, _ => ⟨ew3_4, rfl⟩
  | 5, _ => ⟨ew3_5, rfl⟩
  | 6, _ => ⟨ew3_6, rfl⟩
  | 7, _ => ⟨ew3_7, rfl⟩
  | 8, _ => ⟨ew3_8, rfl⟩
  | 9, _ => ⟨ew3_9, rfl⟩
  | 10, _ => ⟨ew3_10, rfl⟩
  | 11, _ => ⟨ew3_11, rfl⟩
  | 12, _ => ⟨ew3_12, rfl⟩
  | k + 13, h => absurd h (by omega)
def ety3 : Nat → FieldType := fun k => match k with
  | 0 => .array (.int)
  | 1 => .array (.long)
  | 2 => .array (.int)
  | 3 => .array (.boolean)
  | 4 => .array (.array (.int))
  | 5 => .array (.int)
  | 6 => .array (.int)
  | 7 => .array (.long)
  | 8 => .array (.long)
  | 9 => .array (.long)
  | 10 => .array (.long)
  | 11 => .array (.long)
  | _ => .array (.long)
theorem et3 : (∀ k, k < 13 → parseFieldDescriptor (eT3 k).2.2.1 = some (ety3 k)) ∧ (∀ a, a < 13 → ∀ b, b < 13 → a ≠ b → (eT3 a).2.1 ≠ (eT3 b).2.1) := ⟨by decide +kernel, by decide +kernel⟩
theorem ew4_0 : u_lay "EstateDesk$Debts" eT4 0 ∈ lw_tbl := tb1 181 rfl
theorem ew4_1 : u_lay "EstateDesk$Debts" eT4 1 ∈ lw_tbl := tb1 183 rfl
theorem ew4_2 : u_lay "EstateDesk$Debts" eT4 2 ∈ lw_tbl := tb1 185 rfl
theorem ew4_3 : u_lay "EstateDesk$Debts" eT4 3 ∈ lw_tbl := tb1 187 rfl
theorem ec4 : ∀ k, k < 4 → u_lay "EstateDesk$Debts" eT4 k ∈ lw_tbl ∧ goodWord (u_lay "EstateDesk$Debts" eT4 k) = true
  | 0, _ => ⟨ew4_0, rfl⟩
  | 1, _ => ⟨ew4_1, rfl⟩
  | 2, _ => ⟨ew4_2, rfl⟩
  | 3, _ => ⟨ew4_3, rfl⟩
  | k + 4, h => absurd h (by omega)
def ety4 : Nat → FieldType := fun k => match k with
  | 0 => .array (.long)
  | 1 => .array (.int)
  | 2 => .array (.long)
  | _ => .array (.long)
theorem et4 : (∀ k, k < 4 → parseFieldDescriptor (eT4 k).2.2.1 = some (ety4 k)) ∧ (∀ a, a < 4 → ∀ b, b < 4 → a ≠ b → (eT4 a).2.1 ≠ (eT4 b).2.1) := ⟨by decide +kernel, by decide +kernel⟩
theorem ew5_0 : u_lay "EstateDesk$Settling" eT5 0 ∈ lw_tbl := tb1 219 rfl
theorem ew5_1 : u_lay "EstateDesk$Settling" eT5 1 ∈ lw_tbl := tb1 221 rfl
theorem ew5_2 : u_lay "EstateDesk$Settling" eT5 2 ∈ lw_tbl := tb1 223 rfl
theorem ew5_3 : u_lay "EstateDesk$Settling" eT5 3 ∈ lw_tbl := tb1 225 rfl
theorem ew5_4 : u_lay "EstateDesk$Settling" eT5 4 ∈ lw_tbl := tb1 227 rfl
theorem ew5_5 : u_lay "EstateDesk$Settling" eT5 5 ∈ lw_tbl := tb1 229 rfl
theorem ew5_6 : u_lay "EstateDesk$Settling" eT5 6 ∈ lw_tbl := tb1 231 rfl
theorem ec5 : ∀ k, k < 7 → u_lay "EstateDesk$Settling" eT5 k ∈ lw_tbl ∧ goodWord (u_lay "EstateDesk$Settling" eT5 k) = true
  | 0, _ => ⟨ew5_0, rfl⟩
  | 1, _ => ⟨ew5_1, rfl⟩
  | 2, _ => ⟨ew5_2, rfl⟩
  | 3, _ => ⟨ew5_3, rfl⟩
  | 4, _ => ⟨ew5_4, rfl⟩
  | 5, _ => ⟨ew5_5, rfl⟩
  | 6, _ => ⟨ew5_6, rfl⟩
  | k + 7, h => absurd h (by omega)
def ety5 : Nat → FieldType := fun k => match k with
  | 0 => .object "EstateDesk$Persons"
  | 1 => .object "EstateDesk$Assets"
  | 2 => .object "EstateDesk$Clauses"
  | 3 => .object "EstateDesk$Debts"
  | 4 => .object "EstateDesk$Split"
  | 5 => .array (.long)
  | _ => .long
theorem et5 : (∀ k, k < 7 → parseFieldDescriptor (eT5 k).2.2.1 = some (ety5 k)) ∧ (∀ a, a < 7 → ∀ b, b < 7 → a ≠ b → (eT5 a).2.1 ≠ (eT5 b).2.1) := ⟨by decide +kernel, by decide +kernel⟩
theorem ew6_0 : u_lay "EstateDesk$Split" eT6 0 ∈ lw_tbl := tb1 205 rfl
theorem ew6_1 : u_lay "EstateDesk$Split" eT6 1 ∈ lw_tbl := tb1 207 rfl
theorem ec6 : ∀ k, k < 2 → u_lay "EstateDesk$Split" eT6 k ∈ lw_tbl ∧ goodWord (u_lay "EstateDesk$Split" eT6 k) = true
  | 0, _ => ⟨ew6_0, rfl⟩
  | 1, _ => ⟨ew6_1, rfl⟩
  | k + 2, h => absurd h (by omega)
def ety6 : Nat → FieldType := fun k => match k with
  | 0 => .array (.long)
  | _ => .array (.long)
theorem et6 : (∀ k, k < 2 → parseFieldDescriptor (eT6 k).2.2.1 = some (ety6 k)) ∧ (∀ a, a < 2 → ∀ b, b < 2 → a ≠ b → (eT6 a).2.1 ≠ (eT6 b).2.1) := ⟨by decide +kernel, by decide +kernel⟩
theorem ew7_0 : u_lay "EstateDeskModel" eT7 0 ∈ lw_tbl := tb3 224 rfl
theorem ew7_1 : u_lay "EstateDeskModel" eT7 1 ∈ lw_tbl := tb3 226 rfl
theorem ew7_2 : u_lay "EstateDeskModel" eT7 2 ∈ lw_tbl := tb3 228 rfl
theorem ew7_3 : u_lay "EstateDeskModel" eT7 3 ∈ lw_tbl := tb3 230 rfl
theorem ew7_4 : u_lay "EstateDeskModel" eT7 4 ∈ lw_tbl := tb3 232 rfl
theorem ew7_5 : u_lay "EstateDeskModel" eT7 5 ∈ lw_tbl := tb3 234 rfl
theorem ew7_6 : u_lay "EstateDeskModel" eT7 6 ∈ lw_tbl := tb3 236 rfl
theorem ew7_7 : u_lay "EstateDeskModel" eT7 7 ∈ lw_tbl := tb3 238 rfl
theorem ew7_8 : u_lay "EstateDeskModel" eT7 8 ∈ lw_tbl := tb4 0 rfl
theorem ew7_9 : u_lay "EstateDeskModel" eT7 9 ∈ lw_tbl := tb4 2 rfl
theorem ew7_10 : u_lay "EstateDeskModel" eT7 10 ∈ lw_tbl := tb4 4 rfl
theorem ew7_11 : u_lay "EstateDeskModel" eT7 11 ∈ lw_tbl := tb4 6 rfl
theorem ew7_12 : u_lay "EstateDeskModel" eT7 12 ∈ lw_tbl := tb4 8 rfl
theorem ew7_13 : u_lay "EstateDeskModel" eT7 13 ∈ lw_tbl := tb4 10 rfl
theorem ew7_14 : u_lay "EstateDeskModel" eT7 14 ∈ lw_tbl := tb4 12 rfl
theorem ew7_15 : u_lay "EstateDeskModel" eT7 15 ∈ lw_tbl := tb4 14 rfl
theorem ew7_16 : u_lay "EstateDeskModel" eT7 16 ∈ lw_tbl := tb4 16 rfl
theorem ew7_17 : u_lay "EstateDeskModel" eT7 17 ∈ lw_tbl := tb4 18 rfl
theorem ew7_18 : u_lay "EstateDeskModel" eT7 18 ∈ lw_tbl := tb4 20 rfl
theorem ew7_19 : u_lay "EstateDeskModel" eT7 19 ∈ lw_tbl := tb4 22 rfl
theorem ew7_20 : u_lay "EstateDeskModel" eT7 20 ∈ lw_tbl := tb4 24 rfl
theorem ew7_21 : u_lay "EstateDeskModel" eT7 21 ∈ lw_tbl := tb4 26 rfl
theorem ew7_22 : u_lay "EstateDeskModel" eT7 22 ∈ lw_tbl := tb4 28 rfl
theorem ew7_23 : u_lay "EstateDeskModel" eT7 23 ∈ lw_tbl := tb4 30 rfl
theorem ew7_24 : u_lay "EstateDeskModel" eT7 24 ∈ lw_tbl := tb4 32 rfl
theorem ew7_25 : u_lay "EstateDeskModel" eT7 25 ∈ lw_tbl := tb4 34 rfl
theorem ew7_26 : u_lay "EstateDeskModel" eT7 26 ∈ lw_tbl := tb4 36 rfl
theorem ew7_27 : u_lay "EstateDeskModel" eT7 27 ∈ lw_tbl := tb4 38 rfl
theorem ew7_28 : u_lay "EstateDeskModel" eT7 28 ∈ lw_tbl := tb4 40 rfl
theorem ew7_29 : u_lay "EstateDeskModel" eT7 29 ∈ lw_tbl := tb4 42 rfl
theorem ew7_30 : u_lay "EstateDeskModel" eT7 30 ∈ lw_tbl := tb4 44 rfl
theorem ew7_31 : u_lay "EstateDeskModel" eT7 31 ∈ lw_tbl := tb4 46 rfl
theorem ew7_32 : u_lay "EstateDeskModel" eT7 32 ∈ lw_tbl := tb4 48 rfl
theorem ew7_33 : u_lay "EstateDeskModel" eT7 33 ∈ lw_tbl := tb4 50 rfl
theorem ew7_34 : u_lay "EstateDeskModel" eT7 34 ∈ lw_tbl := tb4 52 rfl
theorem ew7_35 : u_lay "EstateDeskModel" eT7 35 ∈ lw_tbl := tb4 54 rfl
theorem ew7_36 : u_lay "EstateDeskModel" eT7 36 ∈ lw_tbl := tb4 56 rfl
theorem ec7 : ∀ k, k < 37 → u_lay "EstateDeskModel" eT7 k ∈ lw_tbl ∧ goodWord (u_lay "EstateDeskModel" eT7 k) = true
  | 0, _ => ⟨ew7_0, rfl⟩
  | 1, _ => ⟨ew7_1, rfl⟩
  | 2, _ => ⟨ew7_2, rfl⟩
  | 3, _ => ⟨ew7_3, rfl⟩
  | 4, _ => ⟨ew7_4, rfl⟩
  | 5, _ => ⟨ew7_5, rfl⟩
  | 6, _ => ⟨ew7_6, rfl⟩
  | 7, _ => ⟨ew7_7, rfl⟩
  | 8, _ => ⟨ew7_8, rfl⟩
  | 9, _ => ⟨ew7_9, rfl⟩
  | 10, _ => ⟨ew7_10, rfl⟩
  | 11, _ => ⟨ew7_11, rfl⟩
  | 12, _ => ⟨ew7_12, rfl⟩
  | 13, _ => ⟨ew7_13, rfl⟩
  | 14, _ => ⟨ew7_14, rfl⟩
  | 15, _ => ⟨ew7_15, rfl⟩
  | 16, _ => ⟨ew7_16, rfl⟩
  | 17, _ => ⟨ew7_17, rfl⟩
  | 18, _ => ⟨ew7_18, rfl⟩
  | 19, _ => ⟨ew7_19, rfl⟩
  | 20, _ => ⟨ew7_20, rfl⟩
  | 21, _ => ⟨ew7_21, rfl⟩
  | 22, _ => ⟨ew7_22, rfl⟩
  | 23, _ => ⟨ew7_23, rfl⟩
  | 24, _ => ⟨ew7_24, rfl⟩
  | 25, _ => ⟨ew7_25, rfl⟩
  | 26, _ => ⟨ew7_26, rfl⟩
  | 27, _ => ⟨ew7_27, rfl⟩
  | 28, _ => ⟨ew7_28, rfl⟩
  | 29, _ => ⟨ew7_29, rfl⟩
  | 30, _ => ⟨ew7_30, rfl⟩
  | 31, _ => ⟨ew7_31, rfl⟩
  | 32, _ => ⟨ew7_32, rfl⟩
  | 33, _ => ⟨ew7_33, rfl⟩
  | 34, _ => ⟨ew7_34, rfl⟩
  | 35, _ => ⟨ew7_35, rfl⟩
  | 36, _ => ⟨ew7_36, rfl⟩
  | k + 37, h => absurd h (by omega)
def ety7 : Nat → FieldType := fun k => match k with
  | 0 => .int
  | 1 => .int
  | 2 => .boolean
  | 3 => .boolean
  | 4 => .boolean
  | 5 => .array (.int)
  | 6 => .array (.boolean)
  | 7 => .array (.long)
  | 8 => .array (.boolean)
  | 9 => .array (.boolean)
  | 10 => .array (.int)
  | 11 => .array (.int)
  | 12 => .array (.long)
  | 13 => .array (.int)
  | 14 => .array (.boolean)
  | 15 => .array (.int)
  | 16 => .array (.boolean)
  | 17 => .array (.long)
  | 18 => .array (.int)
  | 19 => .array (.int)
  | 20 => .array (.int)
  | 21 => .array (.long)
  | 22 => .array (.long)
  | 23 => .array (.long)
  | 24 => .array (.long)
  | 25 => .array (.long)
  | 26 => .array (.long)
  | 27 => .array (.long)
  | 28 => .array (.long)
  | 29 => .array (.long)
  | 30 => .array (.long)
  | 31 => .array (.long)
  | 32 => .array (.int)
  | 33 => .array (.long)
  | 34 => .array (.long)
  | 35 => .array (.long)
  | _ => .array (.long)
theorem et7 : (∀ k, k < 37 → parseFieldDescriptor (eT7 k).2.2.1 = some (ety7 k)) ∧ (∀ a, a < 37 → ∀ b, b < 37 → a ≠ b → (eT7 a).2.1 ≠ (eT7 b).2.1) := ⟨by decide +kernel, by decide +kernel⟩
theorem ed_cl_good : ∀ (ci : Nat) (r : vw_C), ed_cl[ci]? = some r → ∀ w ∈ u_ws r.1 r.2.1 r.2.2, w ∈ lw_tbl ∧ goodWord w = true := by
  intro ci r hr w hw
  obtain ⟨k, hk, rfl⟩ := List.mem_map.mp hw
  have hk := List.mem_range.mp hk
  match ci, hr with
  | 0, hr => cases hr; exact ec0 k hk
  | 1, hr => cases hr; exact ec1 k hk
  | 2, hr => cases hr; exact ec2 k hk
  | 3, hr => cases hr; exact ec3 k hk
  | 4, hr => cases hr; exact ec4 k hk
  | 5, hr => cases hr; exact ec5 k hk
  | 6, hr => cases hr; exact ec6 k hk
  | 7, hr => cases hr; exact ec7 k hk
theorem ed_cl_ty : ∀ (ci : Nat) (r : vw_C), ed_cl[ci]? = some r → ∃ ty0 : Nat → FieldType, (∀ k, k < r.2.2 → parseFieldDescriptor (r.2.1 k).2.2.1 = some (ty0 k)) ∧ (∀ a, a < r.2.2 → ∀ b, b < r.2.2 → a ≠ b → (r.2.1 a).2.1 ≠ (r.2.1 b).2.1) := by
  intro ci r hr
  match ci, hr with
  | 0, hr => cases hr; exact ⟨ety0, et0⟩
  | 1, hr => cases hr; exact ⟨ety1, et1⟩
  | 2, hr => cases hr; exact ⟨ety2, et2⟩
  | 3, hr => cases hr; exact ⟨ety3, et3⟩
  | 4, hr => cases hr; exact ⟨ety4, et4⟩
  | 5, hr => cases hr; exact ⟨ety5, et5⟩
  | 6, hr => cases hr; exact ⟨ety6, et6⟩
  | 7, hr => cases hr; exact ⟨ety7, et7⟩
/-- words on static fields below the world, which a throw reads -/
def ed_stw : List Cond := [.isRef (.static "java/lang/Throwable" "UNASSIGNED_STACK" "[Ljava/lang/StackTraceElement;"), .isRef (.static "java/lang/Throwable" "SUPPRESSED_SENTINEL" "Ljava/util/List;"), .laysStatic "java/lang/Throwable" "UNASSIGNED_STACK" "[Ljava/lang/StackTraceElement;", .laysStatic "java/lang/Throwable" "SUPPRESSED_SENTINEL" "Ljava/util/List;"]
end
section
/-! calls that may throw, and catching, over the library's Steps and Stand -/
section JXA
variable {p : Program} {l : Launch} {e : Env} {R : Room} {s : State} {m : MethodId} {sargs : Array Value} {below : List Frame} {meth : Method} {c : Code}
/-- the caller's state behind a callee's end t: the callee's heap and tables -/
def jx_at (U t : State) : State := ({ U with heap := t.heap, slotsUsed := t.slotsUsed } : State).setVm t.vm
theorem jx_call {y : MethodName} {S : Spec} {Pq : Array Value → State → Prop} {Qq : Array Value → State → Outcome → State → Prop}
    (hM : MetFree l y S Pq (fun _ _ _ _ _ => True) Qq) {U : State} {Ls : List Loc} {c0 s0 : Nat}
    (X : Stand p l e R s m sargs below meth c U Ls c0 s0) {f : JFrame} (hg : f.method = m) (hsize : f.locals.size = c.maxLocals)
    {ig : Instr} {len : Nat} (hdg : decode c.code f.pc = .ok (ig, len)) (hW : 2 * f.monitorRoom + (f.stack.map fun v => v.category).sum ≤ 8)
    {mk : MethodId} (hn : U.methodNamed? y = some mk) {methY : Method} {cY : Code} (hmY : U.vm.method? mk = some methY) (hcY : methY.code = some cY)
    {kY : Class} (hkY : U.vm.classes[mk.cls]? = some kY) (hiY : kY.init = .initialized)
    (hfr : S.room.frames + 1 ≤ R.frames) (hlo : 8 + (cY.maxLocals + 11) + S.room.locals ≤ R.locals) (hce : c0 + S.room.cells ≤ R.cells) (hsl : s0 + S.room.slots ≤ R.slots)
    {a : Array Value} (hpre : S.pre.before a U = true) (hP : Pq a (U.calling f mk a)) :
    ∃ (o : Outcome) (t : State), Qq a (U.calling f mk a) o t ∧ ∀ (L : List Loc) (mc ms : Nat), (U.calling f mk a).WarmedH t.vm → (U.calling f mk a).sameButNew ({ t with vm := (U.calling f mk a).vm } : State) L mc ms →
      Stand p l e R s m sargs below meth c (jx_at U t) (Ls ++ L) (c0 + mc) (s0 + ms) ∧
      (∀ v, o = .returned v → Steps p.tables e below (doInvoke e (U.setTop f) [] mk a).1 ((jx_at U t).setTop { f with pc := f.pc + len, stack := v.toList ++ f.stack })) ∧
      (∀ q, o = .threw q → Steps p.tables e below (doInvoke e (U.setTop f) [] mk a).1 (((jx_at U t).setTop f).pushFrame (.throwing q))) := by
  have h : At U f.method c below := by rw [hg]; exact X.here
  have happ : S.appliesLoose y e.platform (U.calling f mk a) = true :=
    Spec.appliesLoose_calling (g := f) h hdg hn hkY hiY (X.room_calling (g := f) (R' := S.room) hsize hmY hcY hfr (by omega) hce hsl) hpre
  obtain ⟨mid, hmid⟩ := h.above
  have hfr9 : (U.setTop f).frames = (.java f :: mid) ++ below := by rw [State.frames_setTop' f h.top, hmid]; rfl
  obtain ⟨o, t, hsteps, -, hend, hq⟩ := Steps.callFree hM p X.admits X.cas X.clock (acts := []) hfr9 happ hP trivial
  refine ⟨o, t, hq, fun L mc ms hW₂ hsm => ?_⟩
  rw [State.frames_setTop' f h.top] at hend
  obtain ⟨g₀, hg0⟩ := Option.isSome_iff_exists.mp h.top
  obtain ⟨r, hr⟩ := State.topJava?_eq_some.mp hg0
  obtain ⟨e2, q2, q3, q4, q5, q6⟩ := id hsm
  have e3 : t = ({ (U.calling f mk a).setFrames t.frames with heap := t.heap, slotsUsed := t.slotsUsed } : State).setVm t.vm := by
    have h9 : t = ({ t with vm := (U.calling f mk a).vm } : State).setVm t.vm := rfl
    rw [e2] at h9
    exact h9
  have hr' : (({ U with heap := t.heap, slotsUsed := t.slotsUsed } : State).setVm t.vm).frames = .java g₀ :: r := hr
  have hW' : U.WarmedH t.vm := hW₂
  have hsame : U.sameButNew ({ U with heap := t.heap, slotsUsed := t.slotsUsed } : State) L mc ms := by
    refine ⟨?_, q2, q3, q4, q5, q6⟩
    obtain ⟨t9, ht9, -⟩ := State.frames_cons hr
    show ({ U with heap := t.heap, slotsUsed := t.slotsUsed } : State) = { U.setFrames U.frames with heap := t.heap, slotsUsed := t.slotsUsed }
    rw [State.setFrames_self ht9]
  subst hg
  refine ⟨⟨X.admits, X.cas, X.clock, X.frames, X.room, X.hears, X.method, X.code, (X.here.setHeapUsed t.heap t.slotsUsed).setVm hW'.alike, X.tail, State.WarmedH.trans X.warmed hW', X.limits, X.bytes, X.same.trans (hsame.setVm s.vm)⟩, ?_, ?_⟩
  · intro v hv
    subst hv
    obtain ⟨c₂, i₂, len₂, hc₂, hd₂, hf₂⟩ := hend
    have hcc : c₂ = c := by
      have h1 : t.code? f.method = U.code? f.method := by
        rw [State.code?_eq, State.code?_eq, hW'.alike.method?]
      exact Option.some.inj (hc₂.symm.trans (h1.trans h.code))
    subst hcc
    have hlen : len₂ = len := by rw [hdg] at hd₂; cases hd₂; rfl
    subst hlen
    have hs₂ : t = (({ U with heap := t.heap, slotsUsed := t.slotsUsed } : State).setVm t.vm).setTop { f with pc := f.pc + len₂, stack := v.toList ++ f.stack } := by
      refine e3.trans ?_
      rw [hf₂, State.calling_eq h.top, State.setFrames_setFrames, State.setTop_of_frames _ hr', hr]
      rfl
    show Steps p.tables e below _ ((({ U with heap := t.heap, slotsUsed := t.slotsUsed } : State).setVm t.vm).setTop { f with pc := f.pc + len₂, stack := v.toList ++ f.stack })
    rw [← hs₂]
    exact hsteps
  · intro q hv
    subst hv
    have hf₂ : t.frames = .throwing q :: .java f :: U.frames.tail := hend
    have hs₂ : t = ((({ U with heap := t.heap, slotsUsed := t.slotsUsed } : State).setVm t.vm).setTop f).pushFrame (.throwing q) := by
      refine e3.trans ?_
      rw [hf₂, State.calling_eq h.top, State.setFrames_setFrames, State.pushFrame, State.frames_setTop _ hr', State.setTop_of_frames _ hr', State.setFrames_setFrames, hr]
      rfl
    show Steps p.tables e below _ (((({ U with heap := t.heap, slotsUsed := t.slotsUsed } : State).setVm t.vm).setTop f).pushFrame (.throwing q))
    rw [← hs₂]
    exact hsteps
/-- which row of a handler table takes an object of the class 'thrown' at pc -/
def jx_takes (pl : Platform) (s₀ : State) (d : ClassId) (pc : Nat) (thrown : ClassId) : List ExceptionTableEntry → Nat → Prop
  | [], _ => False
  | x :: t, h => (covers x pc = false ∧ jx_takes pl s₀ d pc thrown t h) ∨
      (covers x pc = true ∧ x.catchType ≠ 0 ∧ ∃ c, s₀.vm.ClassLinks pl d x.catchType c ∧ ((s₀.vm.assignable thrown c = true ∧ h = x.handlerPc) ∨ (s₀.vm.assignable thrown c = false ∧ jx_takes pl s₀ d pc thrown t h)))
theorem jx_go {e : Env} {s₀ : State} {f : JFrame} {a : Addr} {cell : Cell} (hobj : ∀ k, cell.vm ≠ .statics k) (hk0 : ∃ k, s₀.vm.classes[cell.cls]? = some k) {h : Nat} :
    ∀ (tb : List ExceptionTableEntry) (S : State), s₀.WarmedH S.vm → S.heap[a]? = some cell → jx_takes e.platform s₀ f.method.cls f.pc cell.cls tb h →
      ∃ vm', s₀.WarmedH vm' ∧ ∀ (Q : Handler → Pre) (E : CtlPost) (d : Bool) (acts : List Action), wp (findHandler.go f a tb) Q E e d acts S ↔ Q (.found h) d acts (S.setVm vm') := by
  obtain ⟨k0, hk0⟩ := hk0
  intro tb
  induction tb with
  | nil => intro S _ _ ht; exact ht.elim
  | cons x t ih =>
    intro S hW hcell ht
    rcases ht with ⟨hcov, ht⟩ | ⟨hx, h0, c9, hl, ht⟩
    · obtain ⟨vm', hW', hq⟩ := ih S hW hcell ht
      exact ⟨vm', hW', fun Q E d acts => by rw [W.findHandler_go_skip hcov]; exact hq Q E d acts⟩
    · obtain ⟨dk, _, _, kt, hd, _, _, _, _, hkt, _, hopen⟩ := hl.here
      have hl' := hW.classLinks hl
      have hWn : s₀.WarmedH (S.vm.noted f.method.cls x.catchType (.cls c9)) := hW.noted hd hopen (State.rightAt_cls hl)
      obtain ⟨k1, hk1, -⟩ := hWn.alike.2.2 _ _ hk0
      obtain ⟨k2, hk2, -⟩ := hWn.alike.2.2 _ _ hkt
      obtain ⟨ha, hr⟩ := (resolveClass_links e.toSetting hl').op (op := VmOp.resolveClass f.method.cls x.catchType) rfl
      simp only [covers] at hx
      rcases ht with ⟨hfit, rfl⟩ | ⟨hno, ht⟩
      · have hfit' : (S.vm.noted f.method.cls x.catchType (.cls c9)).assignable cell.cls c9 = true := by rw [hWn.alike.assignable]; exact hfit
        exact ⟨_, hWn, fun Q E d acts => by simp [findHandler.go, hx, h0, ha, hr, hcell, hobj, hk1, hk2, hfit', VmOp.dirties, VmOp.acts]⟩
      · have hno' : (S.vm.noted f.method.cls x.catchType (.cls c9)).assignable cell.cls c9 = false := by rw [hWn.alike.assignable]; exact hno
        obtain ⟨vm', hW', hq⟩ := ih (S.setVm (S.vm.noted f.method.cls x.catchType (.cls c9))) hWn hcell ht
        refine ⟨vm', hW', fun Q E d acts => ?_⟩
        have h9 : wp (findHandler.go f a (x :: t)) Q E e d acts S ↔ wp (findHandler.go f a t) Q E e d acts (S.setVm (S.vm.noted f.method.cls x.catchType (.cls c9))) := by
          simp [findHandler.go, hx, h0, ha, hr, hcell, hobj, hk1, hk2, hno', VmOp.dirties, VmOp.acts]
        rw [h9]
        exact hq Q E d acts
theorem jx_note {e : Env} {s : State} {a : Addr} {f : JFrame} {r : List Frame} {pc : Nat} {vm' : Vm} (hfind : ∀ (Q : Handler → Pre) (E : CtlPost) (d : Bool) (acts : List Action), wp (findHandler f a) Q E e d acts s ↔ Q (.found pc) d acts (s.setVm vm')) :
    (stepThrowing e s a (.java f :: r)).Is ((s.setVm vm').setFrames (.java { f with pc := pc, stack := [.ref a] } :: r)) [] := by
  simp only [stepThrowing, searchFrame, vmDo]
  generalize hr : Sem.go _ e false [] s = res
  obtain ⟨as, rfl, ha⟩ := Sem.eq_ok_of hr (a := Handler.found pc) (s' := s.setVm vm') (acts' := []) (by simp [hfind _ _ _ _])
  exact ⟨rfl, ha⟩
theorem jx_sets (u : State) (vm' : Vm) (F G : List Frame) : ((u.setFrames F).setVm vm').setFrames G = (u.setVm vm').setFrames G := by
  have h1 : (u.setFrames F).setVm vm' = (u.setVm vm').setFrames F := rfl
  rw [h1, State.setFrames_setFrames]
/-- from the thrown object over the frame f to the handler that takes it -/
theorem jx_caught {T : State} {locs : List Loc} {cells slots : Nat} (X : Stand p l e R s m sargs below meth c T locs cells slots) {f : JFrame} (hg : f.method = m) {a : Addr} {cell : Cell} (hcell : T.heap[a]? = some cell) (hv : cell.vm = .none)
    (hk0 : ∃ k, s.vm.classes[cell.cls]? = some k) {h : Nat} (ht : jx_takes e.platform s m.cls f.pc cell.cls c.exceptionTable.toList h) :
    ∃ vm', Stand p l e R s m sargs below meth c (T.setVm vm') locs cells slots ∧
      ∀ target, Steps p.tables e below ((T.setVm vm').setTop { f with pc := h, stack := [.ref a] }) target → Steps p.tables e below ((T.setTop f).pushFrame (.throwing a)) target := by
  subst hg
  obtain ⟨vm', hW', hf⟩ := jx_go (e := e) (s₀ := s) (f := f) (a := a) (cell := cell) (fun k => by rw [hv]; simp) hk0 c.exceptionTable.toList ((T.setTop f).pushFrame (.throwing a)) X.warmed hcell ht
  refine ⟨vm', X.noted hW', fun target hrest => ?_⟩
  have hA := X.here
  obtain ⟨hgo, hw⟩ := hA.throwing a
  refine Steps.head hgo hw ?_
  have hm9 : ((T.setTop f).pushFrame (.throwing a)).vm.method? f.method = some meth := X.method'
  have hfind : ∀ (Q : Handler → Pre) (E : CtlPost) (d : Bool) (acts : List Action), wp (findHandler f a) Q E e d acts ((T.setTop f).pushFrame (.throwing a)) ↔ Q (.found h) d acts (((T.setTop f).pushFrame (.throwing a)).setVm vm') := fun Q E d acts => by
    rw [W.findHandler_eq hm9 X.code]
    exact hf Q E d acts
  rw [stepThread_throwing (frames_entered hA.top _), (jx_note hfind).1]
  obtain ⟨g₀, hg⟩ := Option.isSome_iff_exists.mp hA.top
  obtain ⟨r, hr⟩ := State.topJava?_eq_some.mp hg
  have hr' : (T.setVm vm').frames = .java g₀ :: r := hr
  rw [State.setTop_of_frames _ hr'] at hrest
  rw [hr, List.tail_cons, State.pushFrame, jx_sets, State.setTop_of_frames _ hr, jx_sets]
  exact hrest
end JXA
end
section
/-! a world by numbers: cell k of the world lies at B + k; what it is says the layout Y (true: no cell lies behind the world); what it holds say two functions, I (ints and booleans) and L (longs).
A cell: an object (its class's number in ed_cl, its fields: a reference or null, an int or boolean, a long), or an array (0 int, 1 boolean, 2 long, 3 int[], its length, for 3 the first row's cell) -/
abbrev ed_f : Type := Option Nat ⊕ Bool
abbrev ed_c : Type := (Nat × List ed_f) ⊕ (Nat × Nat × Nat)
abbrev ed_Y : Type := Bool × List ed_c
def ed_tys (ca : Nat → ClassId) : List (ClassId × FieldType) := [(ca 0, .int), (ca 1, .boolean), (ca 2, .long), (ca 3, .array .int)]
abbrev ed_g : Type := Nat × Nat × Heap × (Nat → ClassId) × va_G
/-- a number for a cell; 'retAddr' stands for the script, which lies below the world -/
def ed_cv (g : ed_g) : Value → Value
  | .ref k => .ref (g.1 + k)
  | .retAddr _ => .ref g.2.1
  | v => v
theorem ed_cv_cat (g : ed_g) (v : Value) : (ed_cv g v).category = v.category := by cases v <;> rfl
/-! numbers: every int is iZ of an Int, every long lZ of one -/
def iZ (z : Int) : Int32 := Int32.ofInt z
def lZ (z : Int) : Int64 := Int64.ofInt z
theorem iZ_of (x : Int32) : x = iZ x.toInt := (Int32.ofInt_toInt x).symm
theorem lZ_of (x : Int64) : x = lZ x.toInt := (Int64.ofInt_toInt x).symm
theorem iZ_toInt {z : Int} (h : -2147483648 ≤ z ∧ z ≤ 2147483647) : (iZ z).toInt = z := by
  unfold iZ
  rw [Int32.toInt_ofInt]
  have e : ((Int32.size : Nat) : Int) = 4294967296 := rfl
  apply Int.bmod_eq_of_le <;> omega
theorem lZ_toInt {z : Int} (h : -9223372036854775808 ≤ z ∧ z ≤ 9223372036854775807) : (lZ z).toInt = z := by
  unfold lZ
  rw [Int64.toInt_ofInt]
  have e : ((Int64.size : Nat) : Int) = 18446744073709551616 := rfl
  apply Int.bmod_eq_of_le <;> omega
theorem iZ_add (a b : Int) : iZ a + iZ b = iZ (a + b) := (Int32.ofInt_add a b).symm
theorem iZ_sub (a b : Int) : iZ a - iZ b = iZ (a - b) := (Int32.ofInt_sub a b).symm
theorem iZ_mul (a b : Int) : iZ a * iZ b = iZ (a * b) := (Int32.ofInt_mul a b).symm
theorem lZ_add (a b : Int) : lZ a + lZ b = lZ (a + b) := (Int64.ofInt_add a b).symm
theorem lZ_sub (a b : Int) : lZ a - lZ b = lZ (a - b) := (Int64.ofInt_sub a b).symm
theorem lZ_mul (a b : Int) : lZ a * lZ b = lZ (a * b) := (Int64.ofInt_mul a b).symm
theorem iZ_eq {a b : Int} (ha : -2147483648 ≤ a ∧ a ≤ 2147483647) (hb : -2147483648 ≤ b ∧ b ≤ 2147483647) : iZ a = iZ b ↔ a = b := by
  rw [← Int32.toInt_inj, iZ_toInt ha, iZ_toInt hb]
theorem iZ_lt {a b : Int} (ha : -2147483648 ≤ a ∧ a ≤ 2147483647) (hb : -2147483648 ≤ b ∧ b ≤ 2147483647) : iZ a < iZ b ↔ a < b := by
  rw [Int32.lt_iff_toInt_lt, iZ_toInt ha, iZ_toInt hb]
theorem iZ_le {a b : Int} (ha : -2147483648 ≤ a ∧ a ≤ 2147483647) (hb : -2147483648 ≤ b ∧ b ≤ 2147483647) : iZ a ≤ iZ b ↔ a ≤ b := by
  rw [Int32.le_iff_toInt_le, iZ_toInt ha, iZ_toInt hb]
theorem lZ_eq {a b : Int} (ha : -9223372036854775808 ≤ a ∧ a ≤ 9223372036854775807) (hb : -9223372036854775808 ≤ b ∧ b ≤ 9223372036854775807) : lZ a = lZ b ↔ a = b := by
  rw [← Int64.toInt_inj, lZ_toInt ha, lZ_toInt hb]
theorem lZ_lt {a b : Int} (ha : -9223372036854775808 ≤ a ∧ a ≤ 9223372036854775807) (hb : -9223372036854775808 ≤ b ∧ b ≤ 9223372036854775807) : lZ a < lZ b ↔ a < b := by
  rw [Int64.lt_iff_toInt_lt, lZ_toInt ha, lZ_toInt hb]
theorem lZ_le {a b : Int} (ha : -9223372036854775808 ≤ a ∧ a ≤ 9223372036854775807) (hb : -9223372036854775808 ≤ b ∧ b ≤ 9223372036854775807) : lZ a ≤ lZ b ↔ a ≤ b := by
  rw [Int64.le_iff_toInt_le, lZ_toInt ha, lZ_toInt hb]
theorem lZ_div {a b : Int} (ha : 0 ≤ a ∧ a ≤ 9223372036854775807) (hb : 0 < b ∧ b ≤ 9223372036854775807) : lZ a / lZ b = lZ (a / b) := by
  apply Int64.toInt_inj.mp
  have h1 : 0 ≤ a / b := Int.ediv_nonneg ha.1 (by omega)
  have h2 : a / b ≤ a := Int.ediv_le_self b ha.1
  rw [Int64.toInt_div, lZ_toInt (by omega), lZ_toInt (by omega), lZ_toInt (by omega), Int.tdiv_eq_ediv_of_nonneg ha.1]
  apply Int.bmod_eq_of_le <;> omega
theorem lZ_rem {a b : Int} (ha : 0 ≤ a ∧ a ≤ 9223372036854775807) (hb : 0 < b ∧ b ≤ 9223372036854775807) : lZ a - lZ a / lZ b * lZ b = lZ (a % b) := by
  rw [lZ_div ha hb, lZ_mul, lZ_sub]
  have h := Int.emod_def a b
  rw [Int.mul_comm] at h
  rw [h]
theorem iZ_l {a : Int} (ha : -2147483648 ≤ a ∧ a ≤ 2147483647) : (iZ a).toInt64 = lZ a := by
  apply Int64.toInt_inj.mp
  rw [Int32.toInt_toInt64, iZ_toInt ha, lZ_toInt (by omega)]
theorem iZ_clamp {z : Int} (h : 0 ≤ z ∧ z ≤ 2147483647) : (iZ z).toNatClampNeg = z.toNat := by
  unfold Int32.toNatClampNeg
  rw [iZ_toInt (by omega)]
theorem iZ_in {z : Int} {N : Nat} (h0 : 0 ≤ z) (h1 : z < N) (hN : N < 2147483648) : vp_in (iZ z) N := by
  rw [vp_in_iff, iZ_toInt (by omega)]
  omega
abbrev ed_I : Type := Nat → Int → Int
abbrev ed_L : Type := Nat → Int → Int
def upI (I : ed_I) (k : Nat) (i x : Int) : ed_I := fun a b => if a = k ∧ b = i then x else I a b
abbrev upL (L : ed_L) (k : Nat) (i x : Int) : ed_L := upI L k i x
theorem upI_ne {I : ed_I} {k a : Nat} {i x : Int} (h : a ≠ k) : upI I k i x a = I a := by funext b; simp [upI, h]
theorem upI_row (I : ed_I) (k : Nat) {i : Int} (hi : 0 ≤ i) (x : Int) : (fun m : Nat => iZ (upI I k i x k m)) = upd (fun m : Nat => iZ (I k m)) i.toNat (iZ x) := by
  funext m
  have : (m : Int) = i ↔ m = i.toNat := by omega
  simp only [upI, upd, this, true_and]
  split <;> rfl
theorem upL_row (L : ed_L) (k : Nat) {i : Int} (hi : 0 ≤ i) (x : Int) : (fun m : Nat => lZ (upI L k i x k m)) = vp_updL (fun m : Nat => lZ (L k m)) i.toNat (lZ x) := by
  funext m
  have : (m : Int) = i ↔ m = i.toNat := by omega
  simp only [upI, vp_updL, this, true_and]
  split <;> rfl
def ed_fv (I : ed_I) (L : ed_L) (k : Nat) (i : Nat) : ed_f → Value
  | .inl none => .null
  | .inl (some r) => .ref r
  | .inr false => .int (iZ (I k i))
  | .inr true => .long (lZ (L k i))
def ed_rc (g : ed_g) (I : ed_I) (L : ed_L) (k : Nat) : ed_c → va_E
  | .inl (ci, fs) => .inr (ci, fs.mapIdx (fun i f => ed_cv g (ed_fv I L k i f)))
  | .inr (0, n, _) => .inl (g.2.2.2.1 0, n, .inl (fun m => iZ (I k m)))
  | .inr (1, n, _) => .inl (g.2.2.2.1 1, n, .inl (fun m => iZ (I k m)))
  | .inr (2, n, _) => .inl (g.2.2.2.1 2, n, .inr (.inl (fun m => lZ (L k m))))
  | .inr (_ + 3, n, r) => .inl (g.2.2.2.1 3, n, .inr (.inr (.inr (.inr (fun j => some (g.1 + (r + j)))))))
theorem ed_rc_I {g : ed_g} {I : ed_I} {L : ed_L} {k a : Nat} {i x : Int} (h : a ≠ k) (c : ed_c) : ed_rc g (upI I k i x) L a c = ed_rc g I L a c := by
  rcases c with ⟨ci, fs⟩ | ⟨t, n, r⟩
  · have : ∀ (j : Nat) (f : ed_f), ed_fv (upI I k i x) L a j f = ed_fv I L a j f := by
      intro j f
      rcases f with (_ | r) | (_ | _) <;> simp [ed_fv, upI_ne h]
    simp [ed_rc, this]
  · rcases t with _ | _ | _ | t <;> simp [ed_rc, upI_ne h]
theorem ed_rc_L {g : ed_g} {I : ed_I} {L : ed_L} {k a : Nat} {i x : Int} (h : a ≠ k) (c : ed_c) : ed_rc g I (upL L k i x) a c = ed_rc g I L a c := by
  rcases c with ⟨ci, fs⟩ | ⟨t, n, r⟩
  · have : ∀ (j : Nat) (f : ed_f), ed_fv I (upL L k i x) a j f = ed_fv I L a j f := by
      intro j f
      rcases f with (_ | r) | (_ | _) <;> simp [ed_fv, upI_ne h]
    simp [ed_rc, this]
  · rcases t with _ | _ | _ | t <;> simp [ed_rc, upI_ne h]
def ed_ws (g : ed_g) (Y : ed_Y) (I : ed_I) (L : ed_L) : va_W := Y.2.mapIdx (fun k c => (g.1 + k, ed_rc g I L k c))
theorem ed_ws_at {g : ed_g} {Y : ed_Y} {I : ed_I} {L : ed_L} {k : Nat} {c : ed_c} (hk : Y.2[k]? = some c) : (ed_ws g Y I L)[k]? = some (g.1 + k, ed_rc g I L k c) := by simp [ed_ws, List.getElem?_mapIdx, hk]
theorem ed_ws_of {g : ed_g} {Y : ed_Y} {I : ed_I} {L : ed_L} {k : Nat} {q : Nat × va_E} (h : (ed_ws g Y I L)[k]? = some q) : ∃ c, Y.2[k]? = some c ∧ q = (g.1 + k, ed_rc g I L k c) := by
  simp only [ed_ws, List.getElem?_mapIdx, Option.map_eq_some_iff] at h
  obtain ⟨c, h1, h2⟩ := h
  exact ⟨c, h1, h2.symm⟩
theorem ed_ws_D (g : ed_g) (Y : ed_Y) (I : ed_I) (L : ed_L) : va_D (fun q => g.1 ≤ q) (ed_ws g Y I L) := by
  refine ⟨fun i j p q hi hj h => ?_, fun k q hk => ?_⟩
  · obtain ⟨c1, -, rfl⟩ := ed_ws_of hi
    obtain ⟨c2, -, rfl⟩ := ed_ws_of hj
    have h9 : g.1 + i = g.1 + j := h
    omega
  · obtain ⟨c1, -, rfl⟩ := ed_ws_of hk
    exact Nat.le_add_right _ _
theorem ed_ws_I {g : ed_g} {Y : ed_Y} {I : ed_I} {L : ed_L} {k : Nat} {i x : Int} {c : ed_c} (hk : Y.2[k]? = some c) {e : va_E} (he : e = ed_rc g (upI I k i x) L k c) : (ed_ws g Y I L).set k (g.1 + k, e) = ed_ws g Y (upI I k i x) L := by
  subst he
  apply List.ext_getElem?
  intro j
  have hlen : k < (ed_ws g Y I L).length := (List.getElem?_eq_some_iff.mp (ed_ws_at (g := g) (I := I) (L := L) hk)).1
  by_cases hj : k = j
  · subst hj
    rw [List.getElem?_set_self hlen, ed_ws_at hk]
  · rw [List.getElem?_set_ne hj]
    simp only [ed_ws, List.getElem?_mapIdx, ed_rc_I (fun h => hj h.symm)]
theorem ed_ws_L {g : ed_g} {Y : ed_Y} {I : ed_I} {L : ed_L} {k : Nat} {i x : Int} {c : ed_c} (hk : Y.2[k]? = some c) {e : va_E} (he : e = ed_rc g I (upL L k i x) k c) : (ed_ws g Y I L).set k (g.1 + k, e) = ed_ws g Y I (upL L k i x) := by
  subst he
  apply List.ext_getElem?
  intro j
  have hlen : k < (ed_ws g Y I L).length := (List.getElem?_eq_some_iff.mp (ed_ws_at (g := g) (I := I) (L := L) hk)).1
  by_cases hj : k = j
  · subst hj
    rw [List.getElem?_set_self hlen, ed_ws_at hk]
  · rw [List.getElem?_set_ne hj]
    simp only [ed_ws, List.getElem?_mapIdx, ed_rc_L (fun h => hj h.symm)]
/-- the heap holds the world; below it all is as at the law's start -/
def ed_H (g : ed_g) (Y : ed_Y) (I : ed_I) (L : ed_L) (H : Heap) : Prop := (g.1 ≤ H.size ∧ (Y.1 = true → H.size = g.1 + Y.2.length)) ∧ (∀ q : Nat, q < g.1 → H[q]? = g.2.2.1[q]?) ∧ va_P g.2.2.2.2 ed_cl (ed_ws g Y I L) H
theorem ed_H.go {g : ed_g} {Y : ed_Y} {I I' : ed_I} {L L' : ed_L} {H H1 : Heap} {locs : List Loc} (h : ed_H g Y I L H) (hY : Y.1 = false) (hs : va_S (fun q => g.1 ≤ q) H H1 locs) (hP : va_P g.2.2.2.2 ed_cl (ed_ws g Y I' L') H1) : ed_H g Y I' L' H1 :=
  ⟨⟨Nat.le_trans h.1.1 hs.1, fun h9 => by rw [hY] at h9; cases h9⟩, fun q hq => (hs.2.1 q (Nat.lt_of_lt_of_le hq h.1.1) (Nat.not_le.mpr hq)).trans (h.2.1 q hq), hP⟩
/-! the locals: a list of those that are known, in the order of their first store -/
def lk : List (Nat × Value) → Nat → Option Value
  | [], _ => none
  | (j, v) :: t, i => if j = i then some v else lk t i
theorem lk_mem : ∀ {ls : List (Nat × Value)} {i : Nat} {v : Value}, lk ls i = some v → (i, v) ∈ ls
  | [], _, _, h => by cases h
  | (j, w) :: t, i, v, h => by
    by_cases e : j = i
    · subst e
      simp [lk] at h
      subst h
      exact List.mem_cons_self
    · simp [lk, e] at h
      exact List.mem_cons_of_mem _ (lk_mem h)
def lst (f : Nat × Value → Bool) (i : Nat) (v : Value) : List (Nat × Value) → List (Nat × Value)
  | [] => [(i, v)]
  | q :: t => if q.1 = i then (i, v) :: t.filter f else if f q = true then q :: lst f i v t else lst f i v t
theorem lst_mem {f : Nat × Value → Bool} {i : Nat} {v : Value} : ∀ {ls : List (Nat × Value)} {q : Nat × Value}, q ∈ lst f i v ls → q = (i, v) ∨ q ∈ ls.filter f
  | [], q, h => by simp [lst] at h; exact Or.inl h
  | a :: t, q, h => by
    unfold lst at h
    split at h
    · rcases List.mem_cons.mp h with h | h
      · exact Or.inl h
      · right
        obtain ⟨h1, h2⟩ := List.mem_filter.mp h
        exact List.mem_filter.mpr ⟨List.mem_cons_of_mem _ h1, h2⟩
    · split at h
      · rename_i hf
        rcases List.mem_cons.mp h with h | h
        · right; subst h; exact List.mem_filter.mpr ⟨List.mem_cons_self, hf⟩
        · rcases lst_mem h with h | h
          · exact Or.inl h
          · right
            obtain ⟨h1, h2⟩ := List.mem_filter.mp h
            exact List.mem_filter.mpr ⟨List.mem_cons_of_mem _ h1, h2⟩
      · rcases lst_mem h with h | h
        · exact Or.inl h
        · right
          obtain ⟨h1, h2⟩ := List.mem_filter.mp h
          exact List.mem_filter.mpr ⟨List.mem_cons_of_mem _ h1, h2⟩
abbrev lf1 (i : Nat) : Nat × Value → Bool := fun q => !(q.1 == i) && !(q.1 + 1 == i && q.2.category == 2)
abbrev lf2 (i : Nat) : Nat × Value → Bool := fun q => !(q.1 == i) && (!(q.1 == i + 1) && !(q.1 + 1 == i && q.2.category == 2))
abbrev ls1 (i : Nat) (v : Value) (ls : List (Nat × Value)) : List (Nat × Value) := lst (lf1 i) i v ls
abbrev ls2 (i : Nat) (v : Value) (ls : List (Nat × Value)) : List (Nat × Value) := lst (lf2 i) i v ls
def ed_lv (g : ed_g) (ls : List (Nat × Value)) : List (Nat × Value) := ls.map fun q => (q.1, ed_cv g q.2)
theorem ed_lv_at {g : ed_g} {nL : Nat} {la : Array Slot} {ls : List (Nat × Value)} (h : lv_has la nL (ed_lv g ls)) {i : Nat} {v : Value} (hl : lk ls i = some v) : la[i]? = some (.val (ed_cv g v)) :=
  h.2.2 (i, ed_cv g v) (List.mem_map.mpr ⟨(i, v), lk_mem hl, rfl⟩)
theorem ed_lv_set {g : ed_g} {nL : Nat} {la : Array Slot} {ls : List (Nat × Value)} {f : Nat × Value → Bool} (hf : ∀ q, f (q.1, ed_cv g q.2) = f q) {i : Nat} {v : Value} (h : lv_has la nL ((i, ed_cv g v) :: (ed_lv g ls).filter f)) : lv_has la nL (ed_lv g (lst f i v ls)) := by
  refine ⟨h.1, h.2.1, fun q hq => h.2.2 q ?_⟩
  obtain ⟨q0, hq0, rfl⟩ := List.mem_map.mp hq
  rcases lst_mem hq0 with rfl | hq0
  · exact List.mem_cons_self
  · obtain ⟨h1, h2⟩ := List.mem_filter.mp hq0
    exact List.mem_cons_of_mem _ (List.mem_filter.mpr ⟨List.mem_map.mpr ⟨q0, h1, rfl⟩, by rw [hf]; exact h2⟩)
theorem lf1_cv (g : ed_g) (i : Nat) (q : Nat × Value) : lf1 i (q.1, ed_cv g q.2) = lf1 i q := by simp only [lf1, ed_cv_cat]
theorem lf2_cv (g : ed_g) (i : Nat) (q : Nat × Value) : lf2 i (q.1, ed_cv g q.2) = lf2 i q := by simp only [lf2, ed_cv_cat]
theorem ed_lv_args (g : ed_g) : ∀ (vs : List Value) (n : Nat), lv_args n (vs.map (ed_cv g)) = ed_lv g (lv_args n vs)
  | [], n => rfl
  | v :: t, n => by
    simp only [List.map_cons, lv_args, ed_cv_cat]
    rw [ed_lv_args g t]
    rfl
/-! the tables' words that stay as the tables warm -/
def ed_stab : Cond → Bool
  | .fieldLinkNest _ _ _ _ _ _ => true
  | .methodLinkNest _ _ _ _ => true
  | w => goodWord w || (w.onTables && w.keepsFace)
theorem ed_stab_good {w : Cond} (h : goodWord w = true) : ed_stab w = true := by
  unfold ed_stab
  split <;> first | rfl | (rw [h]; rfl)
theorem ed_cl_ok (ci : Nat) (r : vw_C) (hr : ed_cl[ci]? = some r) (w : Cond) (hw : w ∈ u_ws r.1 r.2.1 r.2.2) : w ∈ lw_tbl ∧ ed_stab w = true := ⟨(ed_cl_good ci r hr w hw).1, ed_stab_good (ed_cl_good ci r hr w hw).2⟩
def ed_T (U : State) : Prop := ∀ w ∈ lw_tbl, ed_stab w = true → w.before #[] U = true
theorem ed_word {w : Cond} (hs : ed_stab w = true) {s U : State} {a a' : Array Value} (hW : s.WarmedH U.vm) (h : w.before a s = true) : w.before a' U = true := by
  unfold ed_stab at hs
  split at hs
  · exact va_Nw.use rfl (va_Nw.warmF hW (va_Nw.of rfl h))
  · exact va_Nw.use rfl (va_Nw.warmM hW (va_Nw.of rfl h))
  · rcases (Bool.or_eq_true _ _).mp hs with hs | hs
    · exact word_at hW (good_of_word hs) h
    · obtain ⟨h1, h2⟩ := (Bool.and_eq_true _ _).mp hs
      exact va_tabs h1 (rfl : (s.setVm U.vm).vm = U.vm) (Cond.before_shiftedFace (State.Shifted.of_warmed hW) _ h2 h)
theorem ed_T.warm {s U : State} (h : ed_T s) (hW : s.WarmedH U.vm) : ed_T U := fun w hw hs => ed_word hs hW (h w hw hs)
theorem ed_T.use {s : State} (h : ed_T s) {w : Cond} (hw : w ∈ lw_tbl) (hs : ed_stab w = true) (a : Array Value) : w.before a s = true := ed_word hs (State.WarmedH.refl s) (h w hw hs)
/-- words that speak of static fields below the world -/
def ed_S (g : ed_g) (U : State) : Prop := ∀ V : State, U.vm.Alike V.vm → (∀ q : Nat, q < g.1 → V.heap[q]? = g.2.2.1[q]?) → ∀ w ∈ ed_stw, ∀ a, w.before a V = true
def ed_N (U : State) : Prop := va_Nc "java/lang/IllegalStateException" "java/lang/IllegalArgumentException" U
def ed_ok (g : ed_g) (U : State) : Prop := ed_T U ∧ va_K g.2.2.2.2 ed_cl (ed_tys g.2.2.2.1) U ∧ ed_S g U ∧ ed_N U
theorem ed_ok.warm {g : ed_g} {s U : State} (h : ed_ok g s) (hW : s.WarmedH U.vm) : ed_ok g U :=
  ⟨h.1.warm hW, va_K.moved hW.alike h.2.1, fun V hV hq w hw a => h.2.2.1 V (hW.alike.trans hV) hq w hw a, va_Nc.moved hW.alike h.2.2.2⟩
/-! contracts over worlds -/
abbrev ed_post : Type := Option Value ⊕ String → ed_Y → ed_I → ed_L → Prop
def ed_Qf (g : ed_g) (post : ed_post) (mc ms : Nat) (s : State) (o : Outcome) (t : State) : Prop :=
  ∃ (Lc : List Loc) (Y : ed_Y) (I : ed_I) (L : ed_L), (∀ q ∈ Lc, g.1 ≤ q.base) ∧ s.WarmedH t.vm ∧ s.sameButNew ({ t with vm := s.vm } : State) Lc mc ms ∧ ed_H g Y I L t.heap ∧
    ((∃ v : Option Value, o = .returned (v.map (ed_cv g)) ∧ post (.inl v) Y I L) ∨
     (∃ (q : Addr) (E : String) (ce : Cell), o = .threw q ∧ t.heap[q]? = some ce ∧ ce.vm = .none ∧ s.vm.findClass E = some ce.cls ∧ post (.inr E) Y I L))
def ed_Pc (g : ed_g) (av : List Value) (Y : ed_Y) (I : ed_I) (L : ed_L) (a : Array Value) (U : State) : Prop := a = (av.map (ed_cv g)).toArray ∧ ed_H g Y I L U.heap ∧ ed_ok g U
/-- a method: its class, name, code, locals, answer, handlers -/
abbrev ed_m : Type := MethodName × ByteArray × Nat × Option FieldType × List (Nat × Nat × Nat × Nat)
def ed_cw (y : ed_m) : Cond := match y.2.2.2.2 with
  | [] => .code y.1 y.2.1 y.2.2.1 y.2.2.2.1
  | hh => .codeWith y.1 y.2.1 y.2.2.1 y.2.2.2.1 hh
def ed_rm (d mc ms : Nat) : Room := { frames := d + 6, cells := mc, slots := ms, locals := 40 * d + 84 }
/-- y, called with av in a world of I and L, ends as post says; it is d calls deep and makes at most mc cells of ms slots -/
def ed_Ct (g : ed_g) (l : Launch) (y : ed_m) (d mc ms : Nat) (av : List Value) (Y : ed_Y) (I : ed_I) (L : ed_L) (post : ed_post) : Prop :=
  MetFree l y.1 (headSpec [ed_cw y] (ed_rm d mc ms)) (ed_Pc g av Y I L) (fun _ _ _ _ _ => True) (fun _ st o t => ed_Qf g post mc ms st o t)
abbrev ed_x : Type := Program × Launch × Env × Room × State × MethodId × Array Value × List Frame × Method × Code
def ed_Z (g : ed_g) (x : ed_x) (post : ed_post) (mc ms : Nat) : State → Prop := fun t => ∃ o, t.status = .running ∧ Ended t x.2.2.2.2.2.2.2.1 o ∧ ed_Qf g post mc ms x.2.2.2.2.1 o t
/-- the machine at pc of a method with these locals, this stack, this world comes to an end that post allows -/
def Gd (g : ed_g) (x : ed_x) (post : ed_post) (mc ms nL cells slots : Nat) (Y : ed_Y) (I : ed_I) (L : ed_L) (pc : Nat) (ls : List (Nat × Value)) (st : List Value) : Prop :=
  ∀ (H : Heap) (locs : List Loc) (la : Array Slot), ed_H g Y I L H → (∀ q ∈ locs, g.1 ≤ q.base) → lv_has la nL (ed_lv g ls) →
    W x.1 x.2.1 x.2.2.1 x.2.2.2.1 x.2.2.2.2.1 x.2.2.2.2.2.1 x.2.2.2.2.2.2.1 x.2.2.2.2.2.2.2.1 x.2.2.2.2.2.2.2.2.1 x.2.2.2.2.2.2.2.2.2 H locs cells slots (ed_Z g x post mc ms) (F0 x.2.2.2.2.2.1 pc la (st.map (ed_cv g)))
/-- what holds in the body of y -/
def Cx (g : ed_g) (x : ed_x) (y : ed_m) (rm : Room) : Prop :=
  x.1.tables.exec = Jvm.exec ∧ x.2.2.2.2.2.2.2.2.2.code = y.2.1 ∧ x.2.2.2.2.2.2.2.2.2.maxLocals = y.2.2.1 ∧ x.2.2.2.2.1.vm.findClass y.1.cls = some x.2.2.2.2.2.1.cls ∧ x.2.2.2.2.2.2.2.2.1.locks = false ∧ x.2.1.stackTraces = false ∧ ed_ok g x.2.2.2.2.1 ∧
  x.2.2.2.1 = rm ∧ x.2.2.2.2.2.2.2.2.1.sig.returnType = y.2.2.2.1 ∧ x.2.2.2.2.2.2.2.2.2.exceptionTable.toList.map (fun h => (h.startPc, h.endPc, h.handlerPc, h.catchType)) = y.2.2.2.2 ∧ x.2.2.2.2.2.2.2.2.1.name = y.1.name
theorem Gd.sub {g : ed_g} {x : ed_x} {post : ed_post} {mc ms nL cells slots : Nat} {Y : ed_Y} {I : ed_I} {L : ed_L} {pc : Nat} {ls ls' : List (Nat × Value)} {st : List Value} (h : ∀ q ∈ ls', q ∈ ls) (k : Gd g x post mc ms nL cells slots Y I L pc ls' st) : Gd g x post mc ms nL cells slots Y I L pc ls st :=
  fun H locs la hH hl hv => k H locs la hH hl ⟨hv.1, hv.2.1, fun q hq => by
    obtain ⟨q0, h0, rfl⟩ := List.mem_map.mp hq
    exact hv.2.2 _ (List.mem_map.mpr ⟨q0, h q0 h0, rfl⟩)⟩
theorem Gd.wide {g : ed_g} {x : ed_x} {post : ed_post} {mc ms nL cells slots c2 s2 : Nat} {Y : ed_Y} {I : ed_I} {L : ed_L} {pc : Nat} {ls : List (Nat × Value)} {st : List Value} (h1 : cells ≤ c2) (h2 : slots ≤ s2) (k : Gd g x post mc ms nL c2 s2 Y I L pc ls st) : Gd g x post mc ms nL cells slots Y I L pc ls st :=
  fun H locs la hH hl hv => W.widen h1 h2 (k H locs la hH hl hv)
/-- a body gives the contract: from the entry, over the heap as it is there -/
theorem ed_Ct.ofW {g : ed_g} {l : Launch} {y : ed_m} {d mc ms : Nat} {av : List Value} {Y : ed_Y} {I : ed_I} {L : ed_L} {post : ed_post} (hl : l.stackTraces = false) (hy : plainName y.1.cls = true) (hn : (lg_sl av).length ≤ y.2.2.1)
    (body : ∀ (x : ed_x) (la : Array Slot), x.2.1 = l → Cx g x y (ed_rm d mc ms) → ed_H g Y I L x.2.2.2.2.1.heap → lv_has la y.2.2.1 (ed_lv g (lv_args 0 av)) →
      W x.1 x.2.1 x.2.2.1 x.2.2.2.1 x.2.2.2.2.1 x.2.2.2.2.2.1 x.2.2.2.2.2.2.1 x.2.2.2.2.2.2.2.1 x.2.2.2.2.2.2.2.2.1 x.2.2.2.2.2.2.2.2.2 x.2.2.2.2.1.heap [] 0 0 (ed_Z g x post mc ms) (F0 x.2.2.2.2.2.1 0 la [])) : ed_Ct g l y d mc ms av Y I L post := by
  obtain ⟨nm, cc, nL, ret, hh⟩ := y
  have key : ∀ {args : Array Value} {s : State}, (ed_cw (nm, cc, nL, ret, hh)).before args s = true → ∃ (mk : MethodId) (meth : Method) (c : Code), s.methodNamed? nm = some mk ∧ s.vm.method? mk = some meth ∧ meth.code = some c ∧ c.code = cc ∧ c.maxLocals = nL ∧ c.exceptionTable.toList.map (fun h => (h.startPc, h.endPc, h.handlerPc, h.catchType)) = hh ∧ meth.sig.returnType = ret ∧ meth.locks = false := by
    intro args s h
    cases hh with
    | nil =>
      obtain ⟨mk, hn⟩ := Cond.code_named h
      obtain ⟨meth, c, h1, h2, h3, h4, h5, h6, h7, -⟩ := Cond.code_spec hn h
      exact ⟨mk, meth, c, hn, h1, h2, h3, h4, by rw [Array.isEmpty_iff.mp h7]; rfl, h5, h6⟩
    | cons a t =>
      obtain ⟨mk, meth, c, hn, h1, h2, h3, h4, h5, h6, h7, -⟩ := Cond.codeWith_spec h
      exact ⟨mk, meth, c, hn, h1, h2, h3, h4, h5, h6, h7⟩
  refine MetFree.of_bodyS (code := cc) (maxLocals := nL) (ret := ret) hy ?_ ?_
  · intro args s m h hnm
    obtain ⟨mk, meth, c, hn, h1, h2, h3, h4, -, h5, h6⟩ := key (atoms_spec (ws := [ed_cw (nm, cc, nL, ret, hh)]) h _ List.mem_cons_self)
    cases hnm.symm.trans hn
    exact ⟨meth, c, h1, h2, h3, h4, h5, h6⟩
  · intro p e s m args below meth c s₁ B hml hP _
    obtain ⟨rfl, hH, hok⟩ := hP
    obtain ⟨mk, meth9, c9, hn9, h1, h2, -, -, ht, -, -⟩ := key (atoms_spec (ws := [ed_cw (nm, cc, nL, ret, hh)]) B.pre _ List.mem_cons_self)
    cases B.named.symm.trans hn9
    cases Option.some.inj (h1.symm.trans B.method)
    cases Option.some.inj (h2.symm.trans (Stand.of_body B).code)
    have hh0 : s₁.heap = s.heap := by rw [B.state]; rfl
    have hsl : (lg_sl (av.map (ed_cv g))).length = (lg_sl av).length := by
      clear hH hok B h1 h2 hn9 hn body
      induction av with
      | nil => rfl
      | cons v t ih =>
        simp only [lg_sl, List.map_cons, List.flatMap_cons, List.length_append, ed_cv_cat] at ih ⊢
        rw [ih]
        split <;> rfl
    have hent := lv_entry (av.map (ed_cv g)) (n := nL) (by rw [hsl]; exact hn)
    rw [ed_lv_args] at hent
    have k := body (p, l, e, ed_rm d mc ms, s, m, (av.map (ed_cv g)).toArray, below, meth, c) _ rfl
      ⟨B.exec, B.bytes, hml, findClass_of_methodNamed B.named, B.notSynchronized, hl, hok, rfl, B.returns, ht, (name_of_methodNamed B.named B.method).1⟩ hH hent
    have k3 : W p l e (ed_rm d mc ms) s m (av.map (ed_cv g)).toArray below meth c s.heap [] 0 0 (ed_Z g (p, l, e, ed_rm d mc ms, s, m, (av.map (ed_cv g)).toArray, below, meth, c) post mc ms) (entryFrame m (av.map (ed_cv g)).toArray nL) := by
      rw [lg_entry_eq]
      exact k
    obtain ⟨t, a1, o, b1, b2, b3⟩ := k3 s₁ hh0 (Stand.of_body B)
    exact ⟨t, o, a1, b1, b2, b3⟩
/-- .. over any heap that holds the world -/
theorem ed_Ct.of {g : ed_g} {l : Launch} {y : ed_m} {d mc ms : Nat} {av : List Value} {Y : ed_Y} {I : ed_I} {L : ed_L} {post : ed_post} (hl : l.stackTraces = false) (hy : plainName y.1.cls = true) (hn : (lg_sl av).length ≤ y.2.2.1)
    (body : ∀ x : ed_x, x.2.1 = l → Cx g x y (ed_rm d mc ms) → Gd g x post mc ms y.2.2.1 0 0 Y I L 0 (lv_args 0 av) []) : ed_Ct g l y d mc ms av Y I L post :=
  ed_Ct.ofW hl hy hn (fun x la hx C hH hla => body x hx C _ [] la hH (fun _ h => by cases h) hla)
end
section
/-! putting a number into a field -/
def ed_put (ci i : Nat) (v : Int) : Prop := ∀ r : vw_C, ed_cl[ci]? = some r → ∃ ty, (r.2.1 i).2.2.2 = false ∧ parseFieldDescriptor (r.2.1 i).2.2.1 = some ty ∧ narrow ty (.int (iZ v)) = .int (iZ v) ∧ fits ty (.int (iZ v)) = true
def ed_putl (ci i : Nat) : Prop := ∀ r : vw_C, ed_cl[ci]? = some r → (r.2.1 i).2.2.2 = false ∧ parseFieldDescriptor (r.2.1 i).2.2.1 = some .long
end
section
/-! rows: an instruction each, over worlds by numbers (printed by wip/whole/prog/rows.py) -/
def Dn (y : ed_m) (pc : Nat) (i : Instr) (k n : Nat) : Prop := decode y.2.1 pc = .ok (i, k) ∧ pc + k = n
def Dj (y : ed_m) (pc : Nat) (mk : Int → Instr) (n t : Nat) : Prop := ∃ off, decode y.2.1 pc = .ok (mk off, 3) ∧ pc + 3 = n ∧ (pc : Int) + off = (t : Int)
/-- a load or store of local i: by its short or its long form -/
def Dv (y : ed_m) (pc : Nat) (sh : Fin 4 → Instr) (lo : Nat → Instr) (i n : Nat) : Prop := (∃ k : Fin 4, decode y.2.1 pc = .ok (sh k, 1) ∧ (k : Nat) = i ∧ pc + 1 = n) ∨ (decode y.2.1 pc = .ok (lo i, 2) ∧ pc + 2 = n)
/-- a constant on the stack -/
def Dk (y : ed_m) (pc : Nat) (w : Int) (n : Nat) : Prop :=
  (∃ v, decode y.2.1 pc = .ok (.iconst v, 1) ∧ Int32.ofInt v = iZ w ∧ pc + 1 = n) ∨ (∃ v, decode y.2.1 pc = .ok (.bipush v, 2) ∧ (Int8.ofInt v).toInt32 = iZ w ∧ pc + 2 = n) ∨
  (∃ v, decode y.2.1 pc = .ok (.sipush v, 3) ∧ (Int16.ofInt v).toInt32 = iZ w ∧ pc + 3 = n) ∨ (∃ i, decode y.2.1 pc = .ok (.ldc i, 2) ∧ Cond.constant y.1.cls i (iZ w) ∈ lw_tbl ∧ pc + 2 = n)
def Dl (y : ed_m) (pc : Nat) (w : Int) (n : Nat) : Prop :=
  (∃ v : Fin 2, decode y.2.1 pc = .ok (.lconst v, 1) ∧ Int64.ofNat (v : Nat) = lZ w ∧ pc + 1 = n) ∨ (∃ i, decode y.2.1 pc = .ok (.ldc2_w i, 3) ∧ Cond.constantLong y.1.cls i (lZ w) ∈ lw_tbl ∧ pc + 3 = n)
section ROWS
variable {g : ed_g} {x : ed_x} {post : ed_post} {mc ms nL cells slots : Nat} {Y : ed_Y} {I : ed_I} {L : ed_L} {pc n : Nat} {ls : List (Nat × Value)} {st : List Value} {y : ed_m} {rm : Room}
theorem r_ik (C : Cx g x y rm) {w : Int} (d : Dk y pc w n) (k : Gd g x post mc ms nL cells slots Y I L n ls (.int (iZ w) :: st)) : Gd g x post mc ms nL cells slots Y I L pc ls st := by
  intro H locs la hH hl hv
  have k := k H locs la hH hl hv
  rcases d with ⟨v, d, hw, rfl⟩ | ⟨v, d, hw, rfl⟩ | ⟨v, d, hw, rfl⟩ | ⟨i, d, hw, rfl⟩
  · exact lv_iconst C.1 C.2.1 d hw k
  · exact lv_bipush C.1 C.2.1 d hw k
  · exact lv_sipush C.1 C.2.1 d hw k
  · exact lv_ldc C.1 C.2.1 C.2.2.2.1 (C.2.2.2.2.2.2.1.1.use hw rfl _) d k
theorem r_lk (C : Cx g x y rm) {w : Int} (d : Dl y pc w n) (k : Gd g x post mc ms nL cells slots Y I L n ls (.long (lZ w) :: st)) : Gd g x post mc ms nL cells slots Y I L pc ls st := by
  intro H locs la hH hl hv
  have k := k H locs la hH hl hv
  rcases d with ⟨v, d, hw, rfl⟩ | ⟨i, d, hw, rfl⟩
  · exact lv_lconst C.1 C.2.1 d hw k
  · exact lv_ldc2 C.1 C.2.1 C.2.2.2.1 (C.2.2.2.2.2.2.1.1.use hw rfl _) d k
theorem r_ild (C : Cx g x y rm) {i : Nat} (d : Dv y pc .iload_n .iload i n) {v : Int32} (h : lk ls i = some (.int v)) (k : Gd g x post mc ms nL cells slots Y I L n ls (.int v :: st)) : Gd g x post mc ms nL cells slots Y I L pc ls st := by
  intro H locs la hH hl hv
  have k := k H locs la hH hl hv
  have h9 := ed_lv_at hv h
  rcases d with ⟨j, d, rfl, rfl⟩ | ⟨d, rfl⟩
  · exact lv_iload_n C.1 C.2.1 d rfl h9 k
  · exact lv_iload C.1 C.2.1 d h9 k
theorem r_lld (C : Cx g x y rm) {i : Nat} (d : Dv y pc .lload_n .lload i n) {v : Int64} (h : lk ls i = some (.long v)) (k : Gd g x post mc ms nL cells slots Y I L n ls (.long v :: st)) : Gd g x post mc ms nL cells slots Y I L pc ls st := by
  intro H locs la hH hl hv
  have k := k H locs la hH hl hv
  have h9 := ed_lv_at hv h
  rcases d with ⟨j, d, rfl, rfl⟩ | ⟨d, rfl⟩
  · exact lv_lload_n C.1 C.2.1 d rfl h9 k
  · exact lv_lload C.1 C.2.1 d h9 k
theorem r_ald (C : Cx g x y rm) {i : Nat} (d : Dv y pc .aload_n .aload i n) {v : Nat} (h : lk ls i = some (.ref v)) (k : Gd g x post mc ms nL cells slots Y I L n ls (.ref v :: st)) : Gd g x post mc ms nL cells slots Y I L pc ls st := by
  intro H locs la hH hl hv
  have k := k H locs la hH hl hv
  have h9 := ed_lv_at hv h
  rcases d with ⟨j, d, rfl, rfl⟩ | ⟨d, rfl⟩
  · exact lv_aload_n C.1 C.2.1 d rfl h9 k
  · exact lv_aload C.1 C.2.1 d h9 k
/-- the script's reference -/
theorem r_aldX (C : Cx g x y rm) {i : Nat} (d : Dv y pc .aload_n .aload i n) {v : Nat} (h : lk ls i = some (.retAddr v)) (k : Gd g x post mc ms nL cells slots Y I L n ls (.retAddr v :: st)) : Gd g x post mc ms nL cells slots Y I L pc ls st := by
  intro H locs la hH hl hv
  have k := k H locs la hH hl hv
  have h9 := ed_lv_at hv h
  rcases d with ⟨j, d, rfl, rfl⟩ | ⟨d, rfl⟩
  · exact lv_aload_n C.1 C.2.1 d rfl h9 k
  · exact lv_aload C.1 C.2.1 d h9 k
theorem r_ist (C : Cx g x y rm) {i : Nat} (d : Dv y pc .istore_n .istore i n) {v : Int32} (hn : i < nL) {ls' : List (Nat × Value)} (h : ls1 i (.int v) ls = ls') (k : Gd g x post mc ms nL cells slots Y I L n ls' st) : Gd g x post mc ms nL cells slots Y I L pc ls (.int v :: st) := by
  intro H locs la hH hl hv
  subst h
  rcases d with ⟨j, d, rfl, rfl⟩ | ⟨d, rfl⟩
  · exact lv_istore_n C.1 C.2.1 d rfl hv hn rfl (fun la' h' => k H locs la' hH hl (ed_lv_set (lf1_cv g _) h'))
  · exact lv_istore C.1 C.2.1 d hv hn rfl (fun la' h' => k H locs la' hH hl (ed_lv_set (lf1_cv g _) h'))
theorem r_lst (C : Cx g x y rm) {i : Nat} (d : Dv y pc .lstore_n .lstore i n) {v : Int64} (hn : i + 1 < nL) {ls' : List (Nat × Value)} (h : ls2 i (.long v) ls = ls') (k : Gd g x post mc ms nL cells slots Y I L n ls' st) : Gd g x post mc ms nL cells slots Y I L pc ls (.long v :: st) := by
  intro H locs la hH hl hv
  subst h
  rcases d with ⟨j, d, rfl, rfl⟩ | ⟨d, rfl⟩
  · exact lv_lstore_n C.1 C.2.1 d rfl hv hn rfl (fun la' h' => k H locs la' hH hl (ed_lv_set (lf2_cv g _) h'))
  · exact lv_lstore C.1 C.2.1 d hv hn rfl (fun la' h' => k H locs la' hH hl (ed_lv_set (lf2_cv g _) h'))
theorem r_ast (C : Cx g x y rm) {i : Nat} (d : Dv y pc .astore_n .astore i n) {v : Nat} (hn : i < nL) {ls' : List (Nat × Value)} (h : ls1 i (.ref v) ls = ls') (k : Gd g x post mc ms nL cells slots Y I L n ls' st) : Gd g x post mc ms nL cells slots Y I L pc ls (.ref v :: st) := by
  intro H locs la hH hl hv
  subst h
  rcases d with ⟨j, d, rfl, rfl⟩ | ⟨d, rfl⟩
  · exact lv_astore_n C.1 C.2.1 d rfl hv hn rfl (fun la' h' => k H locs la' hH hl (ed_lv_set (lf1_cv g _) h'))
  · exact lv_astore C.1 C.2.1 d hv hn rfl (fun la' h' => k H locs la' hH hl (ed_lv_set (lf1_cv g _) h'))
theorem r_iinc (C : Cx g x y rm) {i : Nat} {v : Int} (d : Dn y pc (.iinc i v) 3 n) {a : Int} (hn : i < nL) (h : lk ls i = some (.int (iZ a))) {ls' : List (Nat × Value)} (hs : ls1 i (.int (iZ (a + v))) ls = ls') (k : Gd g x post mc ms nL cells slots Y I L n ls' st) : Gd g x post mc ms nL cells slots Y I L pc ls st := by
  intro H locs la hH hl hv
  subst hs
  obtain ⟨d, rfl⟩ := d
  obtain ⟨j, hj⟩ := List.getElem?_of_mem (List.mem_map.mpr ⟨(i, .int (iZ a)), lk_mem h, rfl⟩ : (i, ed_cv g (.int (iZ a))) ∈ ed_lv g ls)
  exact lv_iinc C.1 C.2.1 d hv hj (iZ_add a v) hn rfl (fun la' h' => k H locs la' hH hl (ed_lv_set (lf1_cv g _) h'))
theorem r_iadd (C : Cx g x y rm) (d : Dn y pc .iadd 1 n) {a b : Int} (k : Gd g x post mc ms nL cells slots Y I L n ls (.int (iZ (a + b)) :: st)) : Gd g x post mc ms nL cells slots Y I L pc ls (.int (iZ b) :: .int (iZ a) :: st) := by
  obtain ⟨d, rfl⟩ := d
  exact fun H locs la hH hl hv => lv_iadd C.1 C.2.1 d (by rw [iZ_add]; exact k H locs la hH hl hv)
theorem r_isub (C : Cx g x y rm) (d : Dn y pc .isub 1 n) {a b : Int} (k : Gd g x post mc ms nL cells slots Y I L n ls (.int (iZ (a - b)) :: st)) : Gd g x post mc ms nL cells slots Y I L pc ls (.int (iZ b) :: .int (iZ a) :: st) := by
  obtain ⟨d, rfl⟩ := d
  exact fun H locs la hH hl hv => lv_isub C.1 C.2.1 d (by rw [iZ_sub]; exact k H locs la hH hl hv)
theorem r_imul (C : Cx g x y rm) (d : Dn y pc .imul 1 n) {a b : Int} (k : Gd g x post mc ms nL cells slots Y I L n ls (.int (iZ (a * b)) :: st)) : Gd g x post mc ms nL cells slots Y I L pc ls (.int (iZ b) :: .int (iZ a) :: st) := by
  obtain ⟨d, rfl⟩ := d
  exact fun H locs la hH hl hv => lv_imul C.1 C.2.1 d (by rw [iZ_mul]; exact k H locs la hH hl hv)
theorem r_iand (C : Cx g x y rm) (d : Dn y pc .iand 1 n) {a b : Int32} (k : Gd g x post mc ms nL cells slots Y I L n ls (.int (a &&& b) :: st)) : Gd g x post mc ms nL cells slots Y I L pc ls (.int b :: .int a :: st) := by
  obtain ⟨d, rfl⟩ := d
  exact fun H locs la hH hl hv => lv_iand C.1 C.2.1 d (k H locs la hH hl hv)
theorem r_ior (C : Cx g x y rm) (d : Dn y pc .ior 1 n) {a b : Int32} (k : Gd g x post mc ms nL cells slots Y I L n ls (.int (a ||| b) :: st)) : Gd g x post mc ms nL cells slots Y I L pc ls (.int b :: .int a :: st) := by
  obtain ⟨d, rfl⟩ := d
  exact fun H locs la hH hl hv => lv_ior C.1 C.2.1 d (k H locs la hH hl hv)
theorem r_ladd (C : Cx g x y rm) (d : Dn y pc .ladd 1 n) {a b : Int} (k : Gd g x post mc ms nL cells slots Y I L n ls (.long (lZ (a + b)) :: st)) : Gd g x post mc ms nL cells slots Y I L pc ls (.long (lZ b) :: .long (lZ a) :: st) := by
  obtain ⟨d, rfl⟩ := d
  exact fun H locs la hH hl hv => lv_ladd C.1 C.2.1 d (by rw [lZ_add]; exact k H locs la hH hl hv)
theorem r_lsub (C : Cx g x y rm) (d : Dn y pc .lsub 1 n) {a b : Int} (k : Gd g x post mc ms nL cells slots Y I L n ls (.long (lZ (a - b)) :: st)) : Gd g x post mc ms nL cells slots Y I L pc ls (.long (lZ b) :: .long (lZ a) :: st) := by
  obtain ⟨d, rfl⟩ := d
  exact fun H locs la hH hl hv => lv_lsub C.1 C.2.1 d (by rw [lZ_sub]; exact k H locs la hH hl hv)
theorem r_lmul (C : Cx g x y rm) (d : Dn y pc .lmul 1 n) {a b : Int} (k : Gd g x post mc ms nL cells slots Y I L n ls (.long (lZ (a * b)) :: st)) : Gd g x post mc ms nL cells slots Y I L pc ls (.long (lZ b) :: .long (lZ a) :: st) := by
  obtain ⟨d, rfl⟩ := d
  exact fun H locs la hH hl hv => lv_lmul C.1 C.2.1 d (by rw [lZ_mul]; exact k H locs la hH hl hv)
theorem r_land (C : Cx g x y rm) (d : Dn y pc .land 1 n) {a b : Int64} (k : Gd g x post mc ms nL cells slots Y I L n ls (.long (a &&& b) :: st)) : Gd g x post mc ms nL cells slots Y I L pc ls (.long b :: .long a :: st) := by
  obtain ⟨d, rfl⟩ := d
  exact fun H locs la hH hl hv => lv_land C.1 C.2.1 d (k H locs la hH hl hv)
theorem r_lor (C : Cx g x y rm) (d : Dn y pc .lor 1 n) {a b : Int64} (k : Gd g x post mc ms nL cells slots Y I L n ls (.long (a ||| b) :: st)) : Gd g x post mc ms nL cells slots Y I L pc ls (.long b :: .long a :: st) := by
  obtain ⟨d, rfl⟩ := d
  exact fun H locs la hH hl hv => lv_lor C.1 C.2.1 d (k H locs la hH hl hv)
theorem r_ldiv (C : Cx g x y rm) (d : Dn y pc .ldiv 1 n) {a b : Int} (hr : 0 ≤ a ∧ a ≤ 9223372036854775807 ∧ 0 < b ∧ b ≤ 9223372036854775807) (k : Gd g x post mc ms nL cells slots Y I L n ls (.long (lZ (a / b)) :: st)) : Gd g x post mc ms nL cells slots Y I L pc ls (.long (lZ b) :: .long (lZ a) :: st) := by
  obtain ⟨d, rfl⟩ := d
  have hb : ¬ lZ b = 0 := fun h => by
    have h2 := (lZ_eq (a := b) (b := 0) (by omega) (by omega)).mp h
    omega
  exact fun H locs la hH hl hv => lv_ldiv C.1 C.2.1 d hb (by rw [lZ_div ⟨hr.1, hr.2.1⟩ hr.2.2]; exact k H locs la hH hl hv)
theorem r_lrem (C : Cx g x y rm) (d : Dn y pc .lrem 1 n) {a b : Int} (hr : 0 ≤ a ∧ a ≤ 9223372036854775807 ∧ 0 < b ∧ b ≤ 9223372036854775807) (k : Gd g x post mc ms nL cells slots Y I L n ls (.long (lZ (a % b)) :: st)) : Gd g x post mc ms nL cells slots Y I L pc ls (.long (lZ b) :: .long (lZ a) :: st) := by
  obtain ⟨d, rfl⟩ := d
  have hb : ¬ lZ b = 0 := fun h => by
    have h2 := (lZ_eq (a := b) (b := 0) (by omega) (by omega)).mp h
    omega
  exact fun H locs la hH hl hv => lv_lrem C.1 C.2.1 d hb (by rw [lZ_rem ⟨hr.1, hr.2.1⟩ hr.2.2]; exact k H locs la hH hl hv)
theorem r_lshl (C : Cx g x y rm) (d : Dn y pc .lshl 1 n) {a : Int64} {b : Int32} (k : Gd g x post mc ms nL cells slots Y I L n ls (.long (a <<< (b.toInt64 &&& 63)) :: st)) : Gd g x post mc ms nL cells slots Y I L pc ls (.int b :: .long a :: st) := by
  obtain ⟨d, rfl⟩ := d
  exact fun H locs la hH hl hv => lv_lshl C.1 C.2.1 d rfl (k H locs la hH hl hv)
theorem r_lshr (C : Cx g x y rm) (d : Dn y pc .lshr 1 n) {a : Int64} {b : Int32} (k : Gd g x post mc ms nL cells slots Y I L n ls (.long (a >>> (b.toInt64 &&& 63)) :: st)) : Gd g x post mc ms nL cells slots Y I L pc ls (.int b :: .long a :: st) := by
  obtain ⟨d, rfl⟩ := d
  exact fun H locs la hH hl hv => lv_lshr C.1 C.2.1 d rfl (k H locs la hH hl hv)
theorem r_i2l (C : Cx g x y rm) (d : Dn y pc .i2l 1 n) {a : Int} (hr : -2147483648 ≤ a ∧ a ≤ 2147483647) (k : Gd g x post mc ms nL cells slots Y I L n ls (.long (lZ a) :: st)) : Gd g x post mc ms nL cells slots Y I L pc ls (.int (iZ a) :: st) := by
  obtain ⟨d, rfl⟩ := d
  exact fun H locs la hH hl hv => lv_i2l C.1 C.2.1 d (iZ_l hr) (k H locs la hH hl hv)
theorem r_dup (C : Cx g x y rm) (d : Dn y pc .dup 1 n) {a : Value} (ha : a.category = 1) (k : Gd g x post mc ms nL cells slots Y I L n ls (a :: a :: st)) : Gd g x post mc ms nL cells slots Y I L pc ls (a :: st) := by
  obtain ⟨d, rfl⟩ := d
  exact fun H locs la hH hl hv => lv_dup C.1 C.2.1 d ((ed_cv_cat g a).trans ha) (k H locs la hH hl hv)
theorem r_pop (C : Cx g x y rm) (d : Dn y pc .pop 1 n) {a : Value} (ha : a.category = 1) (k : Gd g x post mc ms nL cells slots Y I L n ls st) : Gd g x post mc ms nL cells slots Y I L pc ls (a :: st) := by
  obtain ⟨d, rfl⟩ := d
  exact fun H locs la hH hl hv => lv_pop C.1 C.2.1 d ((ed_cv_cat g a).trans ha) (k H locs la hH hl hv)
theorem r_pop2 (C : Cx g x y rm) (d : Dn y pc .pop2 1 n) {a : Value} (ha : a.category = 2) (k : Gd g x post mc ms nL cells slots Y I L n ls st) : Gd g x post mc ms nL cells slots Y I L pc ls (a :: st) := by
  obtain ⟨d, rfl⟩ := d
  exact fun H locs la hH hl hv => lv_pop2_2 C.1 C.2.1 d ((ed_cv_cat g a).trans ha) (k H locs la hH hl hv)
theorem r_dup2 (C : Cx g x y rm) (d : Dn y pc .dup2 1 n) {a b : Value} (ha : a.category = 1) (hb : b.category = 1) (k : Gd g x post mc ms nL cells slots Y I L n ls (a :: b :: a :: b :: st)) : Gd g x post mc ms nL cells slots Y I L pc ls (a :: b :: st) := by
  obtain ⟨d, rfl⟩ := d
  exact fun H locs la hH hl hv => lv_dup2_11 C.1 C.2.1 d ((ed_cv_cat g a).trans ha) ((ed_cv_cat g b).trans hb) (k H locs la hH hl hv)
theorem r_dup_x1 (C : Cx g x y rm) (d : Dn y pc .dup_x1 1 n) {a b : Value} (ha : a.category = 1) (hb : b.category = 1) (k : Gd g x post mc ms nL cells slots Y I L n ls (a :: b :: a :: st)) : Gd g x post mc ms nL cells slots Y I L pc ls (a :: b :: st) := by
  obtain ⟨d, rfl⟩ := d
  exact fun H locs la hH hl hv => lv_dup_x1 C.1 C.2.1 d ((ed_cv_cat g a).trans ha) ((ed_cv_cat g b).trans hb) (k H locs la hH hl hv)
theorem ed_cmp {a b : Int} (hr : -9223372036854775808 ≤ a ∧ a ≤ 9223372036854775807 ∧ -9223372036854775808 ≤ b ∧ b ≤ 9223372036854775807) : lg_cmp (lZ a) (lZ b) = iZ (if b < a then 1 else if a = b then 0 else -1) := by
  unfold lg_cmp
  have h1 : lZ b < lZ a ↔ b < a := lZ_lt (by omega) (by omega)
  have h2 : lZ a = lZ b ↔ a = b := lZ_eq (by omega) (by omega)
  by_cases c1 : b < a
  · rw [if_pos (h1.mpr c1), if_pos c1]; rfl
  · rw [if_neg (fun h => c1 (h1.mp h)), if_neg c1]
    by_cases c2 : a = b
    · rw [if_pos (h2.mpr c2), if_pos c2]; rfl
    · rw [if_neg (fun h => c2 (h2.mp h)), if_neg c2]; rfl
theorem r_lcmp (C : Cx g x y rm) (d : Dn y pc .lcmp 1 n) {a b : Int} (hr : -9223372036854775808 ≤ a ∧ a ≤ 9223372036854775807 ∧ -9223372036854775808 ≤ b ∧ b ≤ 9223372036854775807) (k : Gd g x post mc ms nL cells slots Y I L n ls (.int (iZ (if b < a then 1 else if a = b then 0 else -1)) :: st)) : Gd g x post mc ms nL cells slots Y I L pc ls (.long (lZ b) :: .long (lZ a) :: st) := by
  obtain ⟨d, rfl⟩ := d
  exact fun H locs la hH hl hv => W.lcmp C.1 C.2.1 d (by rw [ed_cmp hr]; exact k H locs la hH hl hv)
theorem r_if_eq (C : Cx g x y rm) {t : Nat} (d : Dj y pc (.ifCond .eq) n t) {a : Int} (hr : -2147483648 ≤ a ∧ a ≤ 2147483647) (kt : a = 0 → Gd g x post mc ms nL cells slots Y I L t ls st) (kf : a ≠ 0 → Gd g x post mc ms nL cells slots Y I L n ls st) : Gd g x post mc ms nL cells slots Y I L pc ls (.int (iZ a) :: st) := by
  obtain ⟨off, d, rfl, ht⟩ := d
  have e : (0 : Int32) = iZ 0 := rfl
  have h9 := iZ_eq (a := a) (b := 0) (by omega) (by omega)
  exact fun H locs la hH hl hv => lv_if_eq C.1 C.2.1 d ht (fun h => kt (by first | (rw [e, h9] at h; omega) | (simp only [ne_eq, e, h9, Decidable.not_not] at h; omega)) H locs la hH hl hv) (fun h => kf (by first | (rw [e, h9] at h; omega) | (simp only [ne_eq, e, h9, Decidable.not_not] at h; omega)) H locs la hH hl hv)
theorem r_icmp_eq (C : Cx g x y rm) {t : Nat} (d : Dj y pc (.if_icmp .eq) n t) {a b : Int} (hr : -2147483648 ≤ a ∧ a ≤ 2147483647 ∧ -2147483648 ≤ b ∧ b ≤ 2147483647) (kt : a = b → Gd g x post mc ms nL cells slots Y I L t ls st) (kf : a ≠ b → Gd g x post mc ms nL cells slots Y I L n ls st) : Gd g x post mc ms nL cells slots Y I L pc ls (.int (iZ b) :: .int (iZ a) :: st) := by
  obtain ⟨off, d, rfl, ht⟩ := d
  have h9 := iZ_eq (a := a) (b := b) (by omega) (by omega)
  exact fun H locs la hH hl hv => lv_icmp_eq C.1 C.2.1 d ht (fun h => kt (by first | (rw [h9] at h; omega) | (simp only [ne_eq, h9, Decidable.not_not] at h; omega)) H locs la hH hl hv) (fun h => kf (by first | (rw [h9] at h; omega) | (simp only [ne_eq, h9, Decidable.not_not] at h; omega)) H locs la hH hl hv)
theorem r_lc_eq (C : Cx g x y rm) {t k : Nat} (d1 : Dn y pc .lcmp 1 k) (d : Dj y k (.ifCond .eq) n t) {a b : Int} (hr : -9223372036854775808 ≤ a ∧ a ≤ 9223372036854775807 ∧ -9223372036854775808 ≤ b ∧ b ≤ 9223372036854775807) (kt : a = b → Gd g x post mc ms nL cells slots Y I L t ls st) (kf : a ≠ b → Gd g x post mc ms nL cells slots Y I L n ls st) : Gd g x post mc ms nL cells slots Y I L pc ls (.long (lZ b) :: .long (lZ a) :: st) :=
  r_lcmp C d1 hr (r_if_eq C d (by split <;> (try split) <;> omega) (fun h => kt (by split at h <;> (try split at h) <;> omega)) (fun h => kf (by split at h <;> (try split at h) <;> omega)))
theorem r_if_ne (C : Cx g x y rm) {t : Nat} (d : Dj y pc (.ifCond .ne) n t) {a : Int} (hr : -2147483648 ≤ a ∧ a ≤ 2147483647) (kt : a ≠ 0 → Gd g x post mc ms nL cells slots Y I L t ls st) (kf : a = 0 → Gd g x post mc ms nL cells slots Y I L n ls st) : Gd g x post mc ms nL cells slots Y I L pc ls (.int (iZ a) :: st) := by
  obtain ⟨off, d, rfl, ht⟩ := d
  have e : (0 : Int32) = iZ 0 := rfl
  have h9 := iZ_eq (a := a) (b := 0) (by omega) (by omega)
  exact fun H locs la hH hl hv => lv_if_ne C.1 C.2.1 d ht (fun h => kt (by first | (rw [e, h9] at h; omega) | (simp only [ne_eq, e, h9, Decidable.not_not] at h; omega)) H locs la hH hl hv) (fun h => kf (by first | (rw [e, h9] at h; omega) | (simp only [ne_eq, e, h9, Decidable.not_not] at h; omega)) H locs la hH hl hv)
theorem r_icmp_ne (C : Cx g x y rm) {t : Nat} (d : Dj y pc (.if_icmp .ne) n t) {a b : Int} (hr : -2147483648 ≤ a ∧ a ≤ 2147483647 ∧ -2147483648 ≤ b ∧ b ≤ 2147483647) (kt : a ≠ b → Gd g x post mc ms nL cells slots Y I L t ls st) (kf : a = b → Gd g x post mc ms nL cells slots Y I L n ls st) : Gd g x post mc ms nL cells slots Y I L pc ls (.int (iZ b) :: .int (iZ a) :: st) := by
  obtain ⟨off, d, rfl, ht⟩ := d
  have h9 := iZ_eq (a := a) (b := b) (by omega) (by omega)
  exact fun H locs la hH hl hv => lv_icmp_ne C.1 C.2.1 d ht (fun h => kt (by first | (rw [h9] at h; omega) | (simp only [ne_eq, h9, Decidable.not_not] at h; omega)) H locs la hH hl hv) (fun h => kf (by first | (rw [h9] at h; omega) | (simp only [ne_eq, h9, Decidable.not_not] at h; omega)) H locs la hH hl hv)
theorem r_lc_ne (C : Cx g x y rm) {t k : Nat} (d1 : Dn y pc .lcmp 1 k) (d : Dj y k (.ifCond .ne) n t) {a b : Int} (hr : -9223372036854775808 ≤ a ∧ a ≤ 9223372036854775807 ∧ -9223372036854775808 ≤ b ∧ b ≤ 9223372036854775807) (kt : a ≠ b → Gd g x post mc ms nL cells slots Y I L t ls st) (kf : a = b → Gd g x post mc ms nL cells slots Y I L n ls st) : Gd g x post mc ms nL cells slots Y I L pc ls (.long (lZ b) :: .long (lZ a) :: st) :=
  r_lcmp C d1 hr (r_if_ne C d (by split <;> (try split) <;> omega) (fun h => kt (by split at h <;> (try split at h) <;> omega)) (fun h => kf (by split at h <;> (try split at h) <;> omega)))
theorem r_if_lt (C : Cx g x y rm) {t : Nat} (d : Dj y pc (.ifCond .lt) n t) {a : Int} (hr : -2147483648 ≤ a ∧ a ≤ 2147483647) (kt : a < 0 → Gd g x post mc ms nL cells slots Y I L t ls st) (kf : 0 ≤ a → Gd g x post mc ms nL cells slots Y I L n ls st) : Gd g x post mc ms nL cells slots Y I L pc ls (.int (iZ a) :: st) := by
  obtain ⟨off, d, rfl, ht⟩ := d
  have e : (0 : Int32) = iZ 0 := rfl
  have h9 := iZ_lt (a := a) (b := 0) (by omega) (by omega)
  exact fun H locs la hH hl hv => lv_if_lt C.1 C.2.1 d ht (fun h => kt (by first | (rw [e, h9] at h; omega) | (simp only [ne_eq, e, h9, Decidable.not_not] at h; omega)) H locs la hH hl hv) (fun h => kf (by first | (rw [e, h9] at h; omega) | (simp only [ne_eq, e, h9, Decidable.not_not] at h; omega)) H locs la hH hl hv)
theorem r_icmp_lt (C : Cx g x y rm) {t : Nat} (d : Dj y pc (.if_icmp .lt) n t) {a b : Int} (hr : -2147483648 ≤ a ∧ a ≤ 2147483647 ∧ -2147483648 ≤ b ∧ b ≤ 2147483647) (kt : a < b → Gd g x post mc ms nL cells slots Y I L t ls st) (kf : b ≤ a → Gd g x post mc ms nL cells slots Y I L n ls st) : Gd g x post mc ms nL cells slots Y I L pc ls (.int (iZ b) :: .int (iZ a) :: st) := by
  obtain ⟨off, d, rfl, ht⟩ := d
  have h9 := iZ_lt (a := a) (b := b) (by omega) (by omega)
  exact fun H locs la hH hl hv => lv_icmp_lt C.1 C.2.1 d ht (fun h => kt (by first | (rw [h9] at h; omega) | (simp only [ne_eq, h9, Decidable.not_not] at h; omega)) H locs la hH hl hv) (fun h => kf (by first | (rw [h9] at h; omega) | (simp only [ne_eq, h9, Decidable.not_not] at h; omega)) H locs la hH hl hv)
theorem r_lc_lt (C : Cx g x y rm) {t k : Nat} (d1 : Dn y pc .lcmp 1 k) (d : Dj y k (.ifCond .lt) n t) {a b : Int} (hr : -9223372036854775808 ≤ a ∧ a ≤ 9223372036854775807 ∧ -9223372036854775808 ≤ b ∧ b ≤ 9223372036854775807) (kt : a < b → Gd g x post mc ms nL cells slots Y I L t ls st) (kf : b ≤ a → Gd g x post mc ms nL cells slots Y I L n ls st) : Gd g x post mc ms nL cells slots Y I L pc ls (.long (lZ b) :: .long (lZ a) :: st) :=
  r_lcmp C d1 hr (r_if_lt C d (by split <;> (try split) <;> omega) (fun h => kt (by split at h <;> (try split at h) <;> omega)) (fun h => kf (by split at h <;> (try split at h) <;> omega)))
theorem r_if_ge (C : Cx g x y rm) {t : Nat} (d : Dj y pc (.ifCond .ge) n t) {a : Int} (hr : -2147483648 ≤ a ∧ a ≤ 2147483647) (kt : 0 ≤ a → Gd g x post mc ms nL cells slots Y I L t ls st) (kf : a < 0 → Gd g x post mc ms nL cells slots Y I L n ls st) : Gd g x post mc ms nL cells slots Y I L pc ls (.int (iZ a) :: st) := by
  obtain ⟨off, d, rfl, ht⟩ := d
  have e : (0 : Int32) = iZ 0 := rfl
  have h9 := iZ_le (a := 0) (b := a) (by omega) (by omega)
  exact fun H locs la hH hl hv => lv_if_ge C.1 C.2.1 d ht (fun h => kt (by first | (rw [e, h9] at h; omega) | (simp only [ne_eq, e, h9, Decidable.not_not] at h; omega)) H locs la hH hl hv) (fun h => kf (by first | (rw [e, h9] at h; omega) | (simp only [ne_eq, e, h9, Decidable.not_not] at h; omega)) H locs la hH hl hv)
theorem r_icmp_ge (C : Cx g x y rm) {t : Nat} (d : Dj y pc (.if_icmp .ge) n t) {a b : Int} (hr : -2147483648 ≤ a ∧ a ≤ 2147483647 ∧ -2147483648 ≤ b ∧ b ≤ 2147483647) (kt : b ≤ a → Gd g x post mc ms nL cells slots Y I L t ls st) (kf : a < b → Gd g x post mc ms nL cells slots Y I L n ls st) : Gd g x post mc ms nL cells slots Y I L pc ls (.int (iZ b) :: .int (iZ a) :: st) := by
  obtain ⟨off, d, rfl, ht⟩ := d
  have h9 := iZ_le (a := b) (b := a) (by omega) (by omega)
  exact fun H locs la hH hl hv => lv_icmp_ge C.1 C.2.1 d ht (fun h => kt (by first | (rw [h9] at h; omega) | (simp only [ne_eq, h9, Decidable.not_not] at h; omega)) H locs la hH hl hv) (fun h => kf (by first | (rw [h9] at h; omega) | (simp only [ne_eq, h9, Decidable.not_not] at h; omega)) H locs la hH hl hv)
theorem r_lc_ge (C : Cx g x y rm) {t k : Nat} (d1 : Dn y pc .lcmp 1 k) (d : Dj y k (.ifCond .ge) n t) {a b : Int} (hr : -9223372036854775808 ≤ a ∧ a ≤ 9223372036854775807 ∧ -9223372036854775808 ≤ b ∧ b ≤ 9223372036854775807) (kt : b ≤ a → Gd g x post mc ms nL cells slots Y I L t ls st) (kf : a < b → Gd g x post mc ms nL cells slots Y I L n ls st) : Gd g x post mc ms nL cells slots Y I L pc ls (.long (lZ b) :: .long (lZ a) :: st) :=
  r_lcmp C d1 hr (r_if_ge C d (by split <;> (try split) <;> omega) (fun h => kt (by split at h <;> (try split at h) <;> omega)) (fun h => kf (by split at h <;> (try split at h) <;> omega)))
theorem r_if_gt (C : Cx g x y rm) {t : Nat} (d : Dj y pc (.ifCond .gt) n t) {a : Int} (hr : -2147483648 ≤ a ∧ a ≤ 2147483647) (kt : 0 < a → Gd g x post mc ms nL cells slots Y I L t ls st) (kf : a ≤ 0 → Gd g x post mc ms nL cells slots Y I L n ls st) : Gd g x post mc ms nL cells slots Y I L pc ls (.int (iZ a) :: st) := by
  obtain ⟨off, d, rfl, ht⟩ := d
  have e : (0 : Int32) = iZ 0 := rfl
  have h9 := iZ_lt (a := 0) (b := a) (by omega) (by omega)
  exact fun H locs la hH hl hv => lv_if_gt C.1 C.2.1 d ht (fun h => kt (by first | (rw [e, h9] at h; omega) | (simp only [ne_eq, e, h9, Decidable.not_not] at h; omega)) H locs la hH hl hv) (fun h => kf (by first | (rw [e, h9] at h; omega) | (simp only [ne_eq, e, h9, Decidable.not_not] at h; omega)) H locs la hH hl hv)
theorem r_icmp_gt (C : Cx g x y rm) {t : Nat} (d : Dj y pc (.if_icmp .gt) n t) {a b : Int} (hr : -2147483648 ≤ a ∧ a ≤ 2147483647 ∧ -2147483648 ≤ b ∧ b ≤ 2147483647) (kt : b < a → Gd g x post mc ms nL cells slots Y I L t ls st) (kf : a ≤ b → Gd g x post mc ms nL cells slots Y I L n ls st) : Gd g x post mc ms nL cells slots Y I L pc ls (.int (iZ b) :: .int (iZ a) :: st) := by
  obtain ⟨off, d, rfl, ht⟩ := d
  have h9 := iZ_lt (a := b) (b := a) (by omega) (by omega)
  exact fun H locs la hH hl hv => lv_icmp_gt C.1 C.2.1 d ht (fun h => kt (by first | (rw [h9] at h; omega) | (simp only [ne_eq, h9, Decidable.not_not] at h; omega)) H locs la hH hl hv) (fun h => kf (by first | (rw [h9] at h; omega) | (simp only [ne_eq, h9, Decidable.not_not] at h; omega)) H locs la hH hl hv)
theorem r_lc_gt (C : Cx g x y rm) {t k : Nat} (d1 : Dn y pc .lcmp 1 k) (d : Dj y k (.ifCond .gt) n t) {a b : Int} (hr : -9223372036854775808 ≤ a ∧ a ≤ 9223372036854775807 ∧ -9223372036854775808 ≤ b ∧ b ≤ 9223372036854775807) (kt : b < a → Gd g x post mc ms nL cells slots Y I L t ls st) (kf : a ≤ b → Gd g x post mc ms nL cells slots Y I L n ls st) : Gd g x post mc ms nL cells slots Y I L pc ls (.long (lZ b) :: .long (lZ a) :: st) :=
  r_lcmp C d1 hr (r_if_gt C d (by split <;> (try split) <;> omega) (fun h => kt (by split at h <;> (try split at h) <;> omega)) (fun h => kf (by split at h <;> (try split at h) <;> omega)))
theorem r_if_le (C : Cx g x y rm) {t : Nat} (d : Dj y pc (.ifCond .le) n t) {a : Int} (hr : -2147483648 ≤ a ∧ a ≤ 2147483647) (kt : a ≤ 0 → Gd g x post mc ms nL cells slots Y I L t ls st) (kf : 0 < a → Gd g x post mc ms nL cells slots Y I L n ls st) : Gd g x post mc ms nL cells slots Y I L pc ls (.int (iZ a) :: st) := by
  obtain ⟨off, d, rfl, ht⟩ := d
  have e : (0 : Int32) = iZ 0 := rfl
  have h9 := iZ_le (a := a) (b := 0) (by omega) (by omega)
  exact fun H locs la hH hl hv => lv_if_le C.1 C.2.1 d ht (fun h => kt (by first | (rw [e, h9] at h; omega) | (simp only [ne_eq, e, h9, Decidable.not_not] at h; omega)) H locs la hH hl hv) (fun h => kf (by first | (rw [e, h9] at h; omega) | (simp only [ne_eq, e, h9, Decidable.not_not] at h; omega)) H locs la hH hl hv)
theorem r_icmp_le (C : Cx g x y rm) {t : Nat} (d : Dj y pc (.if_icmp .le) n t) {a b : Int} (hr : -2147483648 ≤ a ∧ a ≤ 2147483647 ∧ -2147483648 ≤ b ∧ b ≤ 2147483647) (kt : a ≤ b → Gd g x post mc ms nL cells slots Y I L t ls st) (kf : b < a → Gd g x post mc ms nL cells slots Y I L n ls st) : Gd g x post mc ms nL cells slots Y I L pc ls (.int (iZ b) :: .int (iZ a) :: st) := by
  obtain ⟨off, d, rfl, ht⟩ := d
  have h9 := iZ_le (a := a) (b := b) (by omega) (by omega)
  exact fun H locs la hH hl hv => lv_icmp_le C.1 C.2.1 d ht (fun h => kt (by first | (rw [h9] at h; omega) | (simp only [ne_eq, h9, Decidable.not_not] at h; omega)) H locs la hH hl hv) (fun h => kf (by first | (rw [h9] at h; omega) | (simp only [ne_eq, h9, Decidable.not_not] at h; omega)) H locs la hH hl hv)
theorem r_lc_le (C : Cx g x y rm) {t k : Nat} (d1 : Dn y pc .lcmp 1 k) (d : Dj y k (.ifCond .le) n t) {a b : Int} (hr : -9223372036854775808 ≤ a ∧ a ≤ 9223372036854775807 ∧ -9223372036854775808 ≤ b ∧ b ≤ 9223372036854775807) (kt : a ≤ b → Gd g x post mc ms nL cells slots Y I L t ls st) (kf : b < a → Gd g x post mc ms nL cells slots Y I L n ls st) : Gd g x post mc ms nL cells slots Y I L pc ls (.long (lZ b) :: .long (lZ a) :: st) :=
  r_lcmp C d1 hr (r_if_le C d (by split <;> (try split) <;> omega) (fun h => kt (by split at h <;> (try split at h) <;> omega)) (fun h => kf (by split at h <;> (try split at h) <;> omega)))
theorem r_goto (C : Cx g x y rm) {t : Nat} (d : Dj y pc .goto n t) (k : Gd g x post mc ms nL cells slots Y I L t ls st) : Gd g x post mc ms nL cells slots Y I L pc ls st := by
  obtain ⟨off, d, rfl, ht⟩ := d
  exact fun H locs la hH hl hv => lv_goto C.1 C.2.1 d ht (k H locs la hH hl hv)
theorem r_sw (C : Cx g x y rm) {t len : Nat} {df lo hi : Int} {offs : Array Int} {a : Int} (hr : -2147483648 ≤ a ∧ a ≤ 2147483647) (d : decode y.2.1 pc = .ok (.tableswitch df lo hi offs, len)) {off : Int} (h1 : lo ≤ a) (h2 : a ≤ hi) (ho : offs[(a - lo).toNat]? = some off) (ht : (pc : Int) + off = (t : Int)) (k : Gd g x post mc ms nL cells slots Y I L t ls st) : Gd g x post mc ms nL cells slots Y I L pc ls (.int (iZ a) :: st) :=
  fun H locs la hH hl hv => lv_tableIn C.1 C.2.1 d (by rw [iZ_toInt hr]; omega) (by rw [iZ_toInt hr]; omega) (by rw [iZ_toInt hr]; exact ho) ht (k H locs la hH hl hv)
theorem r_swD (C : Cx g x y rm) {t len : Nat} {df lo hi : Int} {offs : Array Int} {a : Int} (hr : -2147483648 ≤ a ∧ a ≤ 2147483647) (d : decode y.2.1 pc = .ok (.tableswitch df lo hi offs, len)) (h : a < lo ∨ hi < a) (ht : (pc : Int) + df = (t : Int)) (k : Gd g x post mc ms nL cells slots Y I L t ls st) : Gd g x post mc ms nL cells slots Y I L pc ls (.int (iZ a) :: st) :=
  fun H locs la hH hl hv => lv_tableOut C.1 C.2.1 d (by rw [iZ_toInt hr]; exact h) ht (k H locs la hH hl hv)
theorem r_lsw (C : Cx g x y rm) {t len : Nat} {df : Int} {ps : Array (Int × Int)} {a : Int} (hr : -2147483648 ≤ a ∧ a ≤ 2147483647) {off : Int} (d : decode y.2.1 pc = .ok (.lookupswitch df ps, len)) (hp : (ps.toList.zip (ps.toList.drop 1)).all (fun (a, next) => a.1 < next.1) = true) (ho : Op.lookupswitch.offset ps.toList df a = off) (ht : (pc : Int) + off = (t : Int)) (k : Gd g x post mc ms nL cells slots Y I L t ls st) : Gd g x post mc ms nL cells slots Y I L pc ls (.int (iZ a) :: st) :=
  fun H locs la hH hl hv => lv_lookup C.1 C.2.1 d hp (by rw [iZ_toInt hr]; exact ho) ht (k H locs la hH hl hv)
theorem r_iald (C : Cx g x y rm) (d : Dn y pc .iaload 1 n) {k N r : Nat} {i : Int} (hk : Y.2[k]? = some (.inr (0, N, r))) (hi : 0 ≤ i ∧ i < (N : Int)) (hN : N < 2147483648) (kk : Gd g x post mc ms nL cells slots Y I L n ls (.int (iZ (I k i)) :: st)) : Gd g x post mc ms nL cells slots Y I L pc ls (.int (iZ i) :: .ref k :: st) := by
  obtain ⟨d, rfl⟩ := d
  intro H locs la hH hl hv
  have kk := kk H locs la hH hl hv
  refine va_iald C.1 C.2.1 C.2.2.2.2.2.2.1.2.1 hH.2.2 k 0 (ed_ws_at hk) rfl (iZ_in hi.1 hi.2 hN) d ?_
  rw [iZ_clamp (by omega), Int.toNat_of_nonneg hi.1]
  exact kk
theorem r_zald (C : Cx g x y rm) (d : Dn y pc .baload 1 n) {k N r : Nat} {i : Int} (hk : Y.2[k]? = some (.inr (1, N, r))) (hi : 0 ≤ i ∧ i < (N : Int)) (hN : N < 2147483648) (kk : Gd g x post mc ms nL cells slots Y I L n ls (.int (iZ (I k i)) :: st)) : Gd g x post mc ms nL cells slots Y I L pc ls (.int (iZ i) :: .ref k :: st) := by
  obtain ⟨d, rfl⟩ := d
  intro H locs la hH hl hv
  have kk := kk H locs la hH hl hv
  refine va_zald C.1 C.2.1 C.2.2.2.2.2.2.1.2.1 hH.2.2 k 1 (ed_ws_at hk) rfl (iZ_in hi.1 hi.2 hN) d ?_
  rw [iZ_clamp (by omega), Int.toNat_of_nonneg hi.1]
  exact kk
theorem r_lald (C : Cx g x y rm) (d : Dn y pc .laload 1 n) {k N r : Nat} {i : Int} (hk : Y.2[k]? = some (.inr (2, N, r))) (hi : 0 ≤ i ∧ i < (N : Int)) (hN : N < 2147483648) (kk : Gd g x post mc ms nL cells slots Y I L n ls (.long (lZ (L k i)) :: st)) : Gd g x post mc ms nL cells slots Y I L pc ls (.int (iZ i) :: .ref k :: st) := by
  obtain ⟨d, rfl⟩ := d
  intro H locs la hH hl hv
  have kk := kk H locs la hH hl hv
  refine va_lald C.1 C.2.1 C.2.2.2.2.2.2.1.2.1 hH.2.2 k 2 (ed_ws_at hk) rfl (iZ_in hi.1 hi.2 hN) d ?_
  rw [iZ_clamp (by omega), Int.toNat_of_nonneg hi.1]
  exact kk
theorem r_iast (C : Cx g x y rm) (d : Dn y pc .iastore 1 n) (hY : Y.1 = false) {k N r : Nat} {i v : Int} (hk : Y.2[k]? = some (.inr (0, N, r))) (hi : 0 ≤ i ∧ i < (N : Int)) (hN : N < 2147483648) (kk : Gd g x post mc ms nL cells slots Y (upI I k i v) L n ls st) : Gd g x post mc ms nL cells slots Y I L pc ls (.int (iZ v) :: .int (iZ i) :: .ref k :: st) := by
  obtain ⟨d, rfl⟩ := d
  intro H locs la hH hl hv
  refine va_iast C.1 C.2.1 C.2.2.2.2.2.2.1.2.1 hH.2.2 (ed_ws_D g Y I L) ⟨Nat.le_refl _, fun _ _ _ => rfl, hl⟩ k 0 (ed_ws_at hk) rfl (iZ_in hi.1 hi.2 hN) d (fun H1 locs1 hP hD hS => ?_)
  rw [iZ_clamp (by omega), ed_ws_I (x := v) (i := i) hk (by simp only [ed_rc, upI_row I k hi.1])] at hP
  exact kk H1 locs1 la (hH.go hY hS hP) hS.2.2 hv
theorem r_last (C : Cx g x y rm) (d : Dn y pc .lastore 1 n) (hY : Y.1 = false) {k N r : Nat} {i v : Int} (hk : Y.2[k]? = some (.inr (2, N, r))) (hi : 0 ≤ i ∧ i < (N : Int)) (hN : N < 2147483648) (kk : Gd g x post mc ms nL cells slots Y I (upI L k i v) n ls st) : Gd g x post mc ms nL cells slots Y I L pc ls (.long (lZ v) :: .int (iZ i) :: .ref k :: st) := by
  obtain ⟨d, rfl⟩ := d
  intro H locs la hH hl hv
  refine va_last C.1 C.2.1 C.2.2.2.2.2.2.1.2.1 hH.2.2 (ed_ws_D g Y I L) ⟨Nat.le_refl _, fun _ _ _ => rfl, hl⟩ k 2 (ed_ws_at hk) rfl (iZ_in hi.1 hi.2 hN) d (fun H1 locs1 hP hD hS => ?_)
  rw [iZ_clamp (by omega), ed_ws_L (x := v) (i := i) hk (by simp only [ed_rc, upL_row L k hi.1])] at hP
  exact kk H1 locs1 la (hH.go hY hS hP) hS.2.2 hv
theorem ed_nar01 {v : Int} (h : v = 0 ∨ v = 1) : vp_nar .boolean (iZ v) = iZ v := by rcases h with rfl | rfl <;> rfl
theorem r_zast (C : Cx g x y rm) (d : Dn y pc .bastore 1 n) (hY : Y.1 = false) {k N r : Nat} {i v : Int} (hk : Y.2[k]? = some (.inr (1, N, r))) (hi : 0 ≤ i ∧ i < (N : Int)) (hN : N < 2147483648) (h01 : v = 0 ∨ v = 1) (kk : Gd g x post mc ms nL cells slots Y (upI I k i v) L n ls st) : Gd g x post mc ms nL cells slots Y I L pc ls (.int (iZ v) :: .int (iZ i) :: .ref k :: st) := by
  obtain ⟨d, rfl⟩ := d
  intro H locs la hH hl hv
  refine va_zast C.1 C.2.1 C.2.2.2.2.2.2.1.2.1 hH.2.2 (ed_ws_D g Y I L) ⟨Nat.le_refl _, fun _ _ _ => rfl, hl⟩ k 1 (ed_ws_at hk) rfl (iZ_in hi.1 hi.2 hN) d (fun H1 locs1 hP hD hS => ?_)
  rw [iZ_clamp (by omega), ed_nar01 h01, ed_ws_I (x := v) (i := i) hk (by simp only [ed_rc, upI_row I k hi.1])] at hP
  exact kk H1 locs1 la (hH.go hY hS hP) hS.2.2 hv
theorem r_aald (C : Cx g x y rm) (d : Dn y pc .aaload 1 n) {k N r : Nat} {i : Int} (hk : Y.2[k]? = some (.inr (3, N, r))) (hi : 0 ≤ i ∧ i < (N : Int)) (hN : N < 2147483648) (kk : Gd g x post mc ms nL cells slots Y I L n ls (.ref (r + i.toNat) :: st)) : Gd g x post mc ms nL cells slots Y I L pc ls (.int (iZ i) :: .ref k :: st) := by
  obtain ⟨d, rfl⟩ := d
  intro H locs la hH hl hv
  have kk := kk H locs la hH hl hv
  have hin := iZ_in hi.1 hi.2 hN
  have hlt : (iZ i).toNatClampNeg < N := Nat.not_le.mp fun q => hin (Or.inr q)
  refine W.aald (v := .ref (g.1 + (r + i.toNat))) (ty := .array .int) C.1 C.2.1 (hH.2.2 k _ (ed_ws_at hk)) ((C.2.2.2.2.2.2.1.2.1.2 3 _ rfl).1 N (fun j => va_rf (some (g.1 + (r + j))))) rfl (fun q => by cases q) (by show ¬ (iZ i < 0 ∨ (arrV _ _ _).slots.size ≤ _); rw [arrV_size]; exact hin) (by show (arrV _ _ _).slots[_]? = _; rw [arrV_read _ _ hlt, iZ_clamp (by omega)]; rfl) rfl rfl d kk
theorem r_alen (C : Cx g x y rm) (d : Dn y pc .arraylength 1 n) {k t N r : Nat} (ht : t < 3) (hk : Y.2[k]? = some (.inr (t, N, r))) (kk : Gd g x post mc ms nL cells slots Y I L n ls (.int (iZ N) :: st)) : Gd g x post mc ms nL cells slots Y I L pc ls (.ref k :: st) := by
  obtain ⟨d, rfl⟩ := d
  intro H locs la hH hl hv
  have kk := kk H locs la hH hl hv
  have hK := C.2.2.2.2.2.2.1.2.1
  have e : Int32.ofNat N = iZ N := by unfold iZ; exact Int32.ofInt_eq_ofNat.symm
  rcases (show t = 0 ∨ t = 1 ∨ t = 2 by omega) with rfl | rfl | rfl
  · exact va_alen C.1 C.2.1 hK hH.2.2 k 0 (ed_ws_at hk) (ty := .int) rfl e d kk
  · exact va_alen C.1 C.2.1 hK hH.2.2 k 1 (ed_ws_at hk) (ty := .boolean) rfl e d kk
  · exact va_alen C.1 C.2.1 hK hH.2.2 k 2 (ed_ws_at hk) (ty := .long) rfl e d kk
/-- pool entry of the field instruction at pc: field i of class number ci -/
def Df (y : ed_m) (pc : Nat) (mk : Nat → Instr) (ci i n : Nat) : Prop := ∃ (idx : Nat) (r : vw_C), decode y.2.1 pc = .ok (mk idx, 3) ∧ pc + 3 = n ∧ ed_cl[ci]? = some r ∧ i < r.2.2 ∧ (r.2.1 i).1 = r.1 ∧
  (Cond.fieldLink y.1.cls idx r.1 (r.2.1 i).2.1 (r.2.1 i).2.2.1 ∈ lw_tbl ∨ ∃ host, Cond.fieldLinkNest y.1.cls idx r.1 (r.2.1 i).2.1 (r.2.1 i).2.2.1 host ∈ lw_tbl)
theorem ed_uws {ci : Nat} {r : vw_C} (hr : ed_cl[ci]? = some r) {s : State} (hT : ed_T s) (a : Array Value) : ∀ w ∈ u_ws r.1 r.2.1 r.2.2, w.before a s = true := fun w hw => hT.use (ed_cl_ok ci r hr w hw).1 (ed_cl_ok ci r hr w hw).2 a
theorem r_get (C : Cx g x y rm) {ci i k : Nat} (d : Df y pc .getfield ci i n) {fs : List ed_f} {f : ed_f} (hk : Y.2[k]? = some (.inl (ci, fs))) (hf : fs[i]? = some f) (kk : Gd g x post mc ms nL cells slots Y I L n ls (ed_fv I L k i f :: st)) : Gd g x post mc ms nL cells slots Y I L pc ls (.ref k :: st) := by
  obtain ⟨idx, r, d, rfl, hr, hi, hd, hw⟩ := d
  intro H locs la hH hl hv
  have kk := kk H locs la hH hl hv
  have hT := C.2.2.2.2.2.2.1.1
  have hv9 : (fs.mapIdx (fun i f => ed_cv g (ed_fv I L k i f)))[i]? = some (ed_cv g (ed_fv I L k i f)) := by simp [List.getElem?_mapIdx, hf]
  rcases hw with hw | ⟨host, hw⟩
  · exact va_get C.1 C.2.1 (ed_uws hr hT _) (fun _ h => h) C.2.2.2.1 C.2.2.2.2.2.2.1.2.1 hH.2.2 k (ed_ws_at hk) hr i hi (hT.use hw rfl _) (fun _ h => by rw [hd] at h; exact h) hv9 d kk
  · exact va_getN C.1 C.2.1 (ed_uws hr hT _) (fun _ h => h) C.2.2.2.1 C.2.2.2.2.2.2.1.2.1 hH.2.2 k (ed_ws_at hk) hr i hi (hT.use hw rfl _) (fun _ h => by rw [hd] at h; exact h) hv9 d kk
theorem r_getR (C : Cx g x y rm) {ci i k r : Nat} (d : Df y pc .getfield ci i n) {fs : List ed_f} (hk : Y.2[k]? = some (.inl (ci, fs))) (hf : fs[i]? = some (.inl (some r))) (kk : Gd g x post mc ms nL cells slots Y I L n ls (.ref r :: st)) : Gd g x post mc ms nL cells slots Y I L pc ls (.ref k :: st) := r_get C d hk hf kk
theorem r_getI (C : Cx g x y rm) {ci i k : Nat} {z : Int} (d : Df y pc .getfield ci i n) {fs : List ed_f} (hk : Y.2[k]? = some (.inl (ci, fs))) (hf : fs[i]? = some (.inr false)) (hz : (i : Int) = z) (kk : Gd g x post mc ms nL cells slots Y I L n ls (.int (iZ (I k z)) :: st)) : Gd g x post mc ms nL cells slots Y I L pc ls (.ref k :: st) := by
  subst hz
  exact r_get C d hk hf kk
theorem r_getL (C : Cx g x y rm) {ci i k : Nat} {z : Int} (d : Df y pc .getfield ci i n) {fs : List ed_f} (hk : Y.2[k]? = some (.inl (ci, fs))) (hf : fs[i]? = some (.inr true)) (hz : (i : Int) = z) (kk : Gd g x post mc ms nL cells slots Y I L n ls (.long (lZ (L k z)) :: st)) : Gd g x post mc ms nL cells slots Y I L pc ls (.ref k :: st) := by
  subst hz
  exact r_get C d hk hf kk
theorem ed_set_fs {fs : List ed_f} {I I' : ed_I} {L L' : ed_L} {k i : Nat} {f : ed_f} (hf : fs[i]? = some f) (ho : ∀ j, j ≠ i → ∀ f, ed_fv I' L' k j f = ed_fv I L k j f) :
    (fs.mapIdx (fun i f => ed_cv g (ed_fv I L k i f))).set i (ed_cv g (ed_fv I' L' k i f)) = fs.mapIdx (fun i f => ed_cv g (ed_fv I' L' k i f)) := by
  apply List.ext_getElem?
  intro j
  have hi : i < fs.length := (List.getElem?_eq_some_iff.mp hf).1
  by_cases hj : i = j
  · subst hj
    rw [List.getElem?_set_self (by simpa using hi)]
    simp [List.getElem?_mapIdx, hf]
  · rw [List.getElem?_set_ne hj]
    simp only [List.getElem?_mapIdx, ho j (fun h => hj h.symm)]
theorem r_putI (C : Cx g x y rm) {ci i k : Nat} {z : Int} (d : Df y pc .putfield ci i n) (hY : Y.1 = false) {fs : List ed_f} {v : Int} (hk : Y.2[k]? = some (.inl (ci, fs))) (hf : fs[i]? = some (.inr false)) (hz : (i : Int) = z) (hb : ed_put ci i v) (kk : Gd g x post mc ms nL cells slots Y (upI I k z v) L n ls st) : Gd g x post mc ms nL cells slots Y I L pc ls (.int (iZ v) :: .ref k :: st) := by
  subst hz
  obtain ⟨idx, r, d, rfl, hr, hi, hd, hw⟩ := d
  intro H locs la hH hl hv
  have hT := C.2.2.2.2.2.2.1.1
  obtain ⟨ty0, hty, hnm⟩ := ed_cl_ty ci r hr
  obtain ⟨ty, hfin, hdd, hnar, hfit⟩ := hb r hr
  have hlen : i < (fs.mapIdx (fun i f => ed_cv g (ed_fv I L k i f))).length := by simpa using (List.getElem?_eq_some_iff.mp hf).1
  have e9 : ∀ j, j ≠ i → ∀ f, ed_fv (upI I k i v) L k j f = ed_fv I L k j f := by
    intro j hj f
    have h9 : ¬ (j : Int) = (i : Int) := by omega
    rcases f with (_ | r) | (_ | _) <;> simp [ed_fv, upI, h9]
  have e8 : (Value.int (iZ v)) = ed_cv g (ed_fv (upI I k i v) L k i (.inr false)) := by simp [ed_fv, upI, ed_cv]
  have kk : ∀ (H1 : Heap) (locs1 : List Loc), va_P g.2.2.2.2 ed_cl ((ed_ws g Y I L).set k (g.1 + k, .inr (ci, (fs.mapIdx (fun i f => ed_cv g (ed_fv I L k i f))).set i (.int (iZ v))))) H1 → va_D (fun q => g.1 ≤ q) ((ed_ws g Y I L).set k (g.1 + k, .inr (ci, (fs.mapIdx (fun i f => ed_cv g (ed_fv I L k i f))).set i (.int (iZ v))))) → va_S (fun q => g.1 ≤ q) H H1 locs1 → _ := fun H1 locs1 hP hD hS => by
    rw [e8, ed_set_fs hf e9, ed_ws_I (g := g) (I := I) (L := L) (x := v) (i := i) (e := .inr (ci, fs.mapIdx (fun j f => ed_cv g (ed_fv (upI I k i v) L k j f)))) hk rfl] at hP
    exact kk H1 locs1 la (hH.go hY hS hP) hS.2.2 hv
  rcases hw with hw | ⟨host, hw⟩
  · exact va_put C.1 C.2.1 (ed_uws hr hT _) (fun _ h => h) ty0 hty hnm C.2.2.2.1 C.2.2.2.2.2.2.1.2.1 hH.2.2 (ed_ws_D g Y I L) ⟨Nat.le_refl _, fun _ _ _ => rfl, hl⟩ k (ed_ws_at hk) hr i hi (hT.use hw rfl _) (fun _ h => by rw [hd] at h; exact h) hfin hdd hnar hfit hlen d kk
  · exact va_putN C.1 C.2.1 (ed_uws hr hT _) (fun _ h => h) ty0 hty hnm C.2.2.2.1 C.2.2.2.2.2.2.1.2.1 hH.2.2 (ed_ws_D g Y I L) ⟨Nat.le_refl _, fun _ _ _ => rfl, hl⟩ k (ed_ws_at hk) hr i hi (hT.use hw rfl _) (fun _ h => by rw [hd] at h; exact h) hfin hdd hnar hfit hlen d kk
theorem r_putL (C : Cx g x y rm) {ci i k : Nat} {z : Int} (d : Df y pc .putfield ci i n) (hY : Y.1 = false) {fs : List ed_f} {v : Int} (hk : Y.2[k]? = some (.inl (ci, fs))) (hf : fs[i]? = some (.inr true)) (hz : (i : Int) = z) (hb : ed_putl ci i) (kk : Gd g x post mc ms nL cells slots Y I (upI L k z v) n ls st) : Gd g x post mc ms nL cells slots Y I L pc ls (.long (lZ v) :: .ref k :: st) := by
  subst hz
  obtain ⟨idx, r, d, rfl, hr, hi, hd, hw⟩ := d
  intro H locs la hH hl hv
  have hT := C.2.2.2.2.2.2.1.1
  obtain ⟨ty0, hty, hnm⟩ := ed_cl_ty ci r hr
  obtain ⟨hfin, hdd⟩ := hb r hr
  have hlen : i < (fs.mapIdx (fun i f => ed_cv g (ed_fv I L k i f))).length := by simpa using (List.getElem?_eq_some_iff.mp hf).1
  have e9 : ∀ j, j ≠ i → ∀ f, ed_fv I (upI L k i v) k j f = ed_fv I L k j f := by
    intro j hj f
    have h9 : ¬ (j : Int) = (i : Int) := by omega
    rcases f with (_ | r) | (_ | _) <;> simp [ed_fv, upI, h9]
  have e8 : (Value.long (lZ v)) = ed_cv g (ed_fv I (upI L k i v) k i (.inr true)) := by simp [ed_fv, upI, ed_cv]
  have kk : ∀ (H1 : Heap) (locs1 : List Loc), va_P g.2.2.2.2 ed_cl ((ed_ws g Y I L).set k (g.1 + k, .inr (ci, (fs.mapIdx (fun i f => ed_cv g (ed_fv I L k i f))).set i (.long (lZ v))))) H1 → va_D (fun q => g.1 ≤ q) ((ed_ws g Y I L).set k (g.1 + k, .inr (ci, (fs.mapIdx (fun i f => ed_cv g (ed_fv I L k i f))).set i (.long (lZ v))))) → va_S (fun q => g.1 ≤ q) H H1 locs1 → _ := fun H1 locs1 hP hD hS => by
    rw [e8, ed_set_fs hf e9, ed_ws_L (g := g) (I := I) (L := L) (x := v) (i := i) (e := .inr (ci, fs.mapIdx (fun j f => ed_cv g (ed_fv I (upI L k i v) k j f)))) hk rfl] at hP
    exact kk H1 locs1 la (hH.go hY hS hP) hS.2.2 hv
  rcases hw with hw | ⟨host, hw⟩
  · exact va_put C.1 C.2.1 (ed_uws hr hT _) (fun _ h => h) ty0 hty hnm C.2.2.2.1 C.2.2.2.2.2.2.1.2.1 hH.2.2 (ed_ws_D g Y I L) ⟨Nat.le_refl _, fun _ _ _ => rfl, hl⟩ k (ed_ws_at hk) hr i hi (hT.use hw rfl _) (fun _ h => by rw [hd] at h; exact h) hfin hdd rfl rfl hlen d kk
  · exact va_putN C.1 C.2.1 (ed_uws hr hT _) (fun _ h => h) ty0 hty hnm C.2.2.2.1 C.2.2.2.2.2.2.1.2.1 hH.2.2 (ed_ws_D g Y I L) ⟨Nat.le_refl _, fun _ _ _ => rfl, hl⟩ k (ed_ws_at hk) hr i hi (hT.use hw rfl _) (fun _ h => by rw [hd] at h; exact h) hfin hdd rfl rfl hlen d kk
theorem ed_end {o : Outcome} {t : State} {v : Option Value} {locs : List Loc} (hv : o = .returned (v.map (ed_cv g))) (hH : ed_H g Y I L t.heap) (hp : post (.inl v) Y I L) (hl : ∀ q ∈ locs, g.1 ≤ q.base) (hF : FrameEnd x.2.2.2.2.1 o t locs cells slots) (hc : cells ≤ mc) (hs : slots ≤ ms) : ed_Qf g post mc ms x.2.2.2.2.1 o t :=
  ⟨locs, Y, I, L, hl, hF.2.1, hF.2.2.mono hc hs, hH, Or.inl ⟨v, hv, hp⟩⟩
theorem ed_mono {p : Program} {l : Launch} {e : Env} {R : Room} {s : State} {m : MethodId} {args : Array Value} {below : List Frame} {meth : Method} {c : Code} {H : Heap} {locs : List Loc} {Q Q' : State → Prop} {f : JFrame} (h : ∀ t, Q t → Q' t) (k : W p l e R s m args below meth c H locs cells slots Q f) : W p l e R s m args below meth c H locs cells slots Q' f := by
  intro T hT X
  obtain ⟨t, a, b⟩ := k T hT X
  exact ⟨t, a, h t b⟩
theorem r_iret (C : Cx g x y rm) (d : Dn y pc .ireturn 1 n) {v : Int32} (hr : y.2.2.2.1 = some .int) (hc : cells ≤ mc) (hs : slots ≤ ms) (hp : post (.inl (some (.int v))) Y I L) : Gd g x post mc ms nL cells slots Y I L pc ls [.int v] := by
  obtain ⟨d, rfl⟩ := d
  intro H locs la hH hl hv
  refine ed_mono ?_ (W.iret (Qc := fun _ st o t => o = .returned ((some (.int v) : Option Value).map (ed_cv g)) ∧ t.heap = H) (free := fun q => g.1 ≤ q) C.1 C.2.1 (C.2.2.2.2.2.2.2.2.1.trans hr) (fun t ht hW => ⟨rfl, ht⟩) hl d C.2.2.2.2.1)
  rintro t ⟨o, h1, h2, ⟨h3, h4⟩, Lc, h5, h6⟩
  exact ⟨o, h1, h2, ed_end h3 (by rw [h4]; exact hH) hp h6 h5 hc hs⟩
theorem r_zret (C : Cx g x y rm) (d : Dn y pc .ireturn 1 n) {v : Int} (hr : y.2.2.2.1 = some .boolean) (h01 : v = 0 ∨ v = 1) (hc : cells ≤ mc) (hs : slots ≤ ms) (hp : post (.inl (some (.int (iZ v)))) Y I L) : Gd g x post mc ms nL cells slots Y I L pc ls [.int (iZ v)] := by
  obtain ⟨d, rfl⟩ := d
  intro H locs la hH hl hv
  refine ed_mono ?_ (W.zret (Qc := fun _ st o t => o = .returned ((some (.int (iZ v)) : Option Value).map (ed_cv g)) ∧ t.heap = H) (free := fun q => g.1 ≤ q) C.1 C.2.1 (C.2.2.2.2.2.2.2.2.1.trans hr) (by rcases h01 with rfl | rfl <;> rfl) (fun t ht hW => ⟨rfl, ht⟩) hl d C.2.2.2.2.1)
  rintro t ⟨o, h1, h2, ⟨h3, h4⟩, Lc, h5, h6⟩
  exact ⟨o, h1, h2, ed_end h3 (by rw [h4]; exact hH) hp h6 h5 hc hs⟩
theorem r_lret (C : Cx g x y rm) (d : Dn y pc .lreturn 1 n) {v : Int64} (hr : y.2.2.2.1 = some .long) (hc : cells ≤ mc) (hs : slots ≤ ms) (hp : post (.inl (some (.long v))) Y I L) : Gd g x post mc ms nL cells slots Y I L pc ls [.long v] := by
  obtain ⟨d, rfl⟩ := d
  intro H locs la hH hl hv
  refine ed_mono ?_ (W.lret (Qc := fun _ st o t => o = .returned ((some (.long v) : Option Value).map (ed_cv g)) ∧ t.heap = H) (free := fun q => g.1 ≤ q) C.1 C.2.1 (C.2.2.2.2.2.2.2.2.1.trans hr) (fun t ht hW => ⟨rfl, ht⟩) hl d C.2.2.2.2.1)
  rintro t ⟨o, h1, h2, ⟨h3, h4⟩, Lc, h5, h6⟩
  exact ⟨o, h1, h2, ed_end h3 (by rw [h4]; exact hH) hp h6 h5 hc hs⟩
theorem r_vret (C : Cx g x y rm) (d : Dn y pc .return_ 1 n) (hr : y.2.2.2.1 = none) (hc : cells ≤ mc) (hs : slots ≤ ms) (hp : post (.inl (none)) Y I L) : Gd g x post mc ms nL cells slots Y I L pc ls [] := by
  obtain ⟨d, rfl⟩ := d
  intro H locs la hH hl hv
  refine ed_mono ?_ (W.vret (Qc := fun _ st o t => o = .returned ((none : Option Value).map (ed_cv g)) ∧ t.heap = H) (free := fun q => g.1 ≤ q) C.1 C.2.1 (C.2.2.2.2.2.2.2.2.1.trans hr) (fun t ht hW => ⟨rfl, ht⟩) hl d C.2.2.2.2.1)
  rintro t ⟨o, h1, h2, ⟨h3, h4⟩, Lc, h5, h6⟩
  exact ⟨o, h1, h2, ed_end h3 (by rw [h4]; exact hH) hp h6 h5 hc hs⟩
end ROWS
end
section
/-! calls, and what comes of a throw -/
section CALLS
variable {g : ed_g} {x : ed_x} {post : ed_post} {mc ms nL cells slots : Nat} {Y : ed_Y} {I : ed_I} {L : ed_L} {pc n : Nat} {ls : List (Nat × Value)} {st : List Value} {y : ed_m} {rm : Room}
/-- an object of class E has been thrown over this frame -/
def Gx (g : ed_g) (x : ed_x) (post : ed_post) (mc ms nL cells slots : Nat) (Y : ed_Y) (I : ed_I) (L : ed_L) (pc : Nat) (ls : List (Nat × Value)) (E : String) : Prop :=
  ∀ (H : Heap) (locs : List Loc) (la : Array Slot) (q : Addr) (ce : Cell) (rst : List Value) (T : State), ed_H g Y I L H → (∀ q ∈ locs, g.1 ≤ q.base) → lv_has la nL (ed_lv g ls) → H[q]? = some ce → ce.vm = .none → x.2.2.2.2.1.vm.findClass E = some ce.cls → T.heap = H →
    Stand x.1 x.2.1 x.2.2.1 x.2.2.2.1 x.2.2.2.2.1 x.2.2.2.2.2.1 x.2.2.2.2.2.2.1 x.2.2.2.2.2.2.2.1 x.2.2.2.2.2.2.2.2.1 x.2.2.2.2.2.2.2.2.2 T locs cells slots →
    ∃ t, Steps x.1.tables x.2.2.1 x.2.2.2.2.2.2.2.1 ((T.setTop (F0 x.2.2.2.2.2.1 pc la rst)).pushFrame (.throwing q)) t ∧ ed_Z g x post mc ms t
/-- behind a call at pc -/
def ed_K (g : ed_g) (x : ed_x) (post : ed_post) (mc ms nL cells slots : Nat) (pc n : Nat) (ls : List (Nat × Value)) (rest : List Value) : ed_post := fun o Y I L => match o with
  | .inl none => Gd g x post mc ms nL cells slots Y I L n ls rest
  | .inl (some v) => Gd g x post mc ms nL cells slots Y I L n ls (v :: rest)
  | .inr E => Gx g x post mc ms nL cells slots Y I L pc ls E
/-- no row of the method's table covers pc: the throw leaves the method -/
theorem gx_out (C : Cx g x y rm) {E : String} (hh : y.2.2.2.2 = []) (hc : cells ≤ mc) (hs : slots ≤ ms) (hp : post (.inr E) Y I L) : Gx g x post mc ms nL cells slots Y I L pc ls E := by
  intro H locs la q ce rst T hH hl hv hq hce hcl hT X
  have ht : x.2.2.2.2.2.2.2.2.2.exceptionTable.toList = [] := List.map_eq_nil_iff.mp (C.2.2.2.2.2.2.2.2.2.1.trans hh)
  obtain ⟨st1, hrun, hend, hW, hsm⟩ := X.leaveThrown q (g := F0 x.2.2.2.2.2.1 pc la rst) rfl rfl rfl (fun z hz => by rw [ht] at hz; cases hz) C.2.2.2.2.1
  refine ⟨_, st1, .threw q, hrun, hend, locs, Y, I, L, hl, hW, hsm.mono hc hs, ?_, Or.inr ⟨q, E, ce, rfl, ?_, hce, hcl, hp⟩⟩
  · show ed_H g Y I L T.heap
    rw [hT]; exact hH
  · show T.heap[q]? = some ce
    rw [hT]; exact hq
/-- a row takes it: on at the handler, whose first instruction stores the object into local i -/
theorem gx_in (C : Cx g x y rm) {E : String} {h i : Nat} (ht : ∀ (ce : Cell), x.2.2.2.2.1.vm.findClass E = some ce.cls → (∃ k, x.2.2.2.2.1.vm.classes[ce.cls]? = some k) ∧ jx_takes x.2.2.1.platform x.2.2.2.2.1 x.2.2.2.2.2.1.cls pc ce.cls x.2.2.2.2.2.2.2.2.2.exceptionTable.toList h)
    (d : Dv y h .astore_n .astore i n) (hn : i < nL) {ls' : List (Nat × Value)} (hs : ls.filter (lf1 i) = ls') (k : Gd g x post mc ms nL cells slots Y I L n ls' []) : Gx g x post mc ms nL cells slots Y I L pc ls E := by
  intro H locs la q ce rst T hH hl hv hq hce hcl hT X
  obtain ⟨hk0, ht⟩ := ht ce hcl
  obtain ⟨vm', X', hst⟩ := jx_caught X (f := F0 x.2.2.2.2.2.1 pc la rst) rfl (by rw [hT]; exact hq) hce hk0 ht
  subst hs
  have key : ∀ la', lv_has la' nL ((i, Value.ref q) :: (ed_lv g ls).filter (lf1 i)) → lv_has la' nL (ed_lv g (ls.filter (lf1 i))) := by
    intro la' h'
    refine ⟨h'.1, h'.2.1, fun z hz => h'.2.2 z (List.mem_cons_of_mem _ ?_)⟩
    obtain ⟨z0, hz0, rfl⟩ := List.mem_map.mp hz
    obtain ⟨h1, h2⟩ := List.mem_filter.mp hz0
    exact List.mem_filter.mpr ⟨List.mem_map.mpr ⟨z0, h1, rfl⟩, by rw [lf1_cv]; exact h2⟩
  have kk : W x.1 x.2.1 x.2.2.1 x.2.2.2.1 x.2.2.2.2.1 x.2.2.2.2.2.1 x.2.2.2.2.2.2.1 x.2.2.2.2.2.2.2.1 x.2.2.2.2.2.2.2.2.1 x.2.2.2.2.2.2.2.2.2 H locs cells slots (ed_Z g x post mc ms) (F0 x.2.2.2.2.2.1 h la [.ref q]) := by
    rcases d with ⟨j, d, rfl, rfl⟩ | ⟨d, rfl⟩
    · exact lv_astore_n C.1 C.2.1 d rfl hv hn rfl (fun la' h' => k H locs la' hH hl (key la' h'))
    · exact lv_astore C.1 C.2.1 d hv hn rfl (fun la' h' => k H locs la' hH hl (key la' h'))
  obtain ⟨t, a1, b1⟩ := kk (T.setVm vm') hT X'
  exact ⟨t, hst t a1, b1⟩
/-- a callee's own words -/
def Lz (z : ed_m) (np : Nat) : Prop := ed_cw z ∈ lw_tbl ∧ ed_stab (ed_cw z) = true ∧ Cond.initialized z.1.cls ∈ lw_tbl ∧ (z.1.cls ≠ "java/lang/invoke/MethodHandle" ∧ z.1.cls ≠ "java/lang/invoke/VarHandle") ∧ (parseMethodDescriptor z.1.desc).map (fun d => d.parameters.length) = some np
def LkS (y : ed_m) (pc n : Nat) (z : ed_m) : Prop := ∃ idx, decode y.2.1 pc = .ok (.invokestatic idx, 3) ∧ pc + 3 = n ∧ (Cond.methodLink y.1.cls idx z.1 ∈ lw_tbl ∨ ∃ host, Cond.methodLinkNest y.1.cls idx z.1 host ∈ lw_tbl) ∧ Cond.static z.1 ∈ lw_tbl
def LkV (y : ed_m) (pc n : Nat) (z : ed_m) : Prop := ∃ idx, decode y.2.1 pc = .ok (.invokevirtual idx, 3) ∧ pc + 3 = n ∧ (Cond.methodLink y.1.cls idx z.1 ∈ lw_tbl ∨ ∃ host, Cond.methodLinkNest y.1.cls idx z.1 host ∈ lw_tbl) ∧ Cond.instanceMethod z.1 ∈ lw_tbl ∧ Cond.selects z.1.cls z.1 z.1 ∈ lw_tbl
/-- what the words of a method say of it in a state -/
theorem ed_code {z : ed_m} {a : Array Value} {U : State} (h : (ed_cw z).before a U = true) : ∃ (mk : MethodId) (meth : Method) (c : Code), U.methodNamed? z.1 = some mk ∧ U.vm.method? mk = some meth ∧ meth.code = some c ∧ c.maxLocals = z.2.2.1 ∧ parseMethodDescriptor z.1.desc = some meth.sig := by
  obtain ⟨nm, cc, nL, ret, hh⟩ := z
  cases hh with
  | nil =>
    obtain ⟨mk, hn⟩ := Cond.code_named h
    obtain ⟨meth, c, h1, h2, -, h4, -, -, -, h8⟩ := Cond.code_spec hn h
    exact ⟨mk, meth, c, hn, h1, h2, h4, h8⟩
  | cons b t =>
    obtain ⟨mk, meth, c, hn, h1, h2, -, h4, -, -, -, h8⟩ := Cond.codeWith_spec h
    exact ⟨mk, meth, c, hn, h1, h2, h4, h8⟩
/-- the part that all calls have in common: from the invocation on -/
theorem ed_call (C : Cx g x y rm) {z : ed_m} {np d zc zs : Nat} (hz : Lz z np) {av rest : List Value} {ig : Instr} (hdg : decode y.2.1 pc = .ok (ig, 3)) (hr : (rest.map fun v => v.category).sum ≤ 8)
    (hroom : d + 7 ≤ rm.frames ∧ 8 + (z.2.2.1 + 11) + (40 * d + 84) ≤ rm.locals ∧ cells + zc ≤ rm.cells ∧ slots + zs ≤ rm.slots)
    (ct : ed_Ct g x.2.1 z d zc zs av Y I L (ed_K g x post mc ms nL (cells + zc) (slots + zs) pc (pc + 3) ls rest)) {H : Heap} {locs : List Loc} {la : Array Slot} (hH : ed_H g Y I L H) (hl : ∀ q ∈ locs, g.1 ≤ q.base) (hv : lv_has la nL (ed_lv g ls)) (hnL : y.2.2.1 = nL) {T : State} (hT : T.heap = H) {vm₁ : Vm}
    (X₁ : Stand x.1 x.2.1 x.2.2.1 x.2.2.2.1 x.2.2.2.2.1 x.2.2.2.2.2.1 x.2.2.2.2.2.2.1 x.2.2.2.2.2.2.2.1 x.2.2.2.2.2.2.2.2.1 x.2.2.2.2.2.2.2.2.2 (T.setVm vm₁) locs cells slots) {mk : MethodId} (hn : x.2.2.2.2.1.methodNamed? z.1 = some mk) {f : JFrame}
    (hstep : ∀ target, (∀ acts, Steps x.1.tables x.2.2.1 x.2.2.2.2.2.2.2.1 (doInvoke x.2.2.1 ((T.setVm vm₁).setTop (F0 x.2.2.2.2.2.1 pc la (rest.map (ed_cv g)))) acts mk (av.map (ed_cv g)).toArray).1 target) → Steps x.1.tables x.2.2.1 x.2.2.2.2.2.2.2.1 (T.setTop f) target) :
    ∃ t, Steps x.1.tables x.2.2.1 x.2.2.2.2.2.2.2.1 (T.setTop f) t ∧ ed_Z g x post mc ms t := by
  obtain ⟨p, l, e, R, s, m, args, below, meth, c⟩ := x
  obtain ⟨hx, hb, hml, hown, hlocks, htr, hok, hR, hret, hex, hnm⟩ := C
  dsimp only at *
  subst hR
  have hW1 : s.WarmedH vm₁ := X₁.warmed
  have hokU : ed_ok g (T.setVm vm₁) := hok.warm (U := T.setVm vm₁) hW1
  have hcw : (ed_cw z).before (av.map (ed_cv g)).toArray (T.setVm vm₁) = true := hokU.1.use hz.1 hz.2.1 _
  obtain ⟨mk2, methY, cY, hn2, hmY, hcY, hlY, -⟩ := ed_code hcw
  have hn3 := X₁.named hn
  cases hn3.symm.trans hn2
  obtain ⟨kY, hkY, -⟩ := className_of_methodNamed hn2
  have hiY : kY.init = .initialized := Cond.initialized_spec (findClass_of_methodNamed hn2) hkY (hokU.1.use hz.2.2.1 rfl (av.map (ed_cv g)).toArray)
  have hcat : ((rest.map (ed_cv g)).map fun v => v.category).sum ≤ 8 := by
    rw [List.map_map]
    have : ((fun v : Value => v.category) ∘ ed_cv g) = fun v => v.category := by funext v; exact ed_cv_cat g v
    rw [this]; exact hr
  obtain ⟨o, t, hq, hgo⟩ := jx_call (a := (av.map (ed_cv g)).toArray) (f := F0 m pc la (rest.map (ed_cv g))) ct X₁ rfl (hv.1.trans (hnL.symm.trans hml.symm)) (by rw [hb]; exact hdg) (lv_room hcat) hn2 hmY hcY hkY hiY hroom.1 (by rw [hlY]; exact hroom.2.1) hroom.2.2.1 hroom.2.2.2
    (atoms_intro (fun w hw => by rw [List.mem_singleton.mp hw]; exact hcw)) ⟨rfl, by show ed_H g Y I L T.heap; rw [hT]; exact hH, hok.warm (U := (T.setVm vm₁).calling (F0 m pc la (rest.map (ed_cv g))) mk (av.map (ed_cv g)).toArray) hW1⟩
  obtain ⟨Lc, Y', I', L', hLc, hWt, hsm, hHt, hres⟩ := hq
  obtain ⟨X2, hret2, hthr2⟩ := hgo Lc zc zs hWt hsm
  have hl2 : ∀ q ∈ locs ++ Lc, g.1 ≤ q.base := fun q hq => by
    rcases List.mem_append.mp hq with h | h
    · exact hl q h
    · exact hLc q h
  rcases hres with ⟨v, rfl, hp⟩ | ⟨q, E, ce, rfl, hce, hcv, hcl, hp⟩
  · have hst := hret2 _ rfl
    have k : W p l e R s m args below meth c t.heap (locs ++ Lc) (cells + zc) (slots + zs) (ed_Z g (p, l, e, R, s, m, args, below, meth, c) post mc ms) (F0 m (pc + 3) la ((v.map (ed_cv g)).toList ++ rest.map (ed_cv g))) := by
      cases v with
      | none => exact hp t.heap (locs ++ Lc) la hHt hl2 hv
      | some w => exact hp t.heap (locs ++ Lc) la hHt hl2 hv
    obtain ⟨t2, a1, b1⟩ := k (jx_at (T.setVm vm₁) t) rfl X2
    exact ⟨t2, hstep _ (fun acts => by rw [doInvoke_state]; exact hst.trans a1), b1⟩
  · have hst := hthr2 q rfl
    have hcl2 : s.vm.findClass E = some ce.cls := by
      have h1 : vm₁.findClass E = some ce.cls := hcl
      rw [hW1.alike.findClass] at h1
      exact h1
    obtain ⟨t2, a1, b1⟩ := hp t.heap (locs ++ Lc) la q ce (rest.map (ed_cv g)) (jx_at (T.setVm vm₁) t) hHt hl2 hv hce hcv hcl2 rfl X2
    exact ⟨t2, hstep _ (fun acts => by rw [doInvoke_state]; exact hst.trans a1), b1⟩
theorem r_callS (C : Cx g x y rm) {z : ed_m} {np d zc zs : Nat} (hz : Lz z np) (hk : LkS y pc n z) (av rest : List Value) (hst : st = av.reverse ++ rest) (hnp : av.length = np) (hr : (rest.map fun v => v.category).sum ≤ 8)
    (hroom : d + 7 ≤ rm.frames ∧ 8 + (z.2.2.1 + 11) + (40 * d + 84) ≤ rm.locals ∧ cells + zc ≤ rm.cells ∧ slots + zs ≤ rm.slots) (hnL : y.2.2.1 = nL)
    (ct : ed_Ct g x.2.1 z d zc zs av Y I L (ed_K g x post mc ms nL (cells + zc) (slots + zs) pc n ls rest)) : Gd g x post mc ms nL cells slots Y I L pc ls st := by
  obtain ⟨idx, hdg, rfl, hlk, hstat⟩ := hk
  subst hst
  intro H locs la hH hl hv T hT X
  have hok := C.2.2.2.2.2.2.1
  obtain ⟨mk, methY, cY, hn, hmY, -, -, hsig⟩ := ed_code (hok.1.use hz.1 hz.2.1 x.2.2.2.2.2.2.1)
  obtain ⟨kY, hkY, -⟩ := className_of_methodNamed hn
  have hiY : kY.init = .initialized := Cond.initialized_spec (findClass_of_methodNamed hn) hkY (hok.1.use hz.2.2.1 rfl x.2.2.2.2.2.2.1)
  have hlen : (av.map (ed_cv g)).length = methY.sig.parameters.length := by
    have h2 := hz.2.2.2.2
    rw [hsig] at h2
    rw [List.length_map, hnp]
    exact (Option.some.inj h2).symm
  have hstk : (F0 x.2.2.2.2.2.1 pc la ((av.reverse ++ rest).map (ed_cv g))).stack = (av.map (ed_cv g)).reverse ++ rest.map (ed_cv g) := by simp [F0]
  have hss : methY.isStatic = true := Cond.static_spec hn hmY (hok.1.use hstat rfl x.2.2.2.2.2.2.1)
  rcases hlk with hlk | ⟨host, hlk⟩
  · obtain ⟨vm₁, X₁, hstep⟩ := X.invokestatic C.1 C.2.2.2.1 (hok.1.use hlk rfl _) hn hmY hss hkY hiY hz.2.2.2.1 (g := F0 x.2.2.2.2.2.1 pc la ((av.reverse ++ rest).map (ed_cv g))) rfl hlen hstk (by rw [C.2.1]; exact hdg)
    exact ed_call C hz hdg hr hroom ct hH hl hv hnL hT X₁ hn hstep
  · obtain ⟨vm₁, X₁, hstep⟩ := X.invokestaticNest C.1 C.2.2.2.1 (hok.1.use hlk rfl _) hn hmY hss hkY hiY hz.2.2.2.1 (g := F0 x.2.2.2.2.2.1 pc la ((av.reverse ++ rest).map (ed_cv g))) rfl hlen hstk (by rw [C.2.1]; exact hdg)
    exact ed_call C hz hdg hr hroom ct hH hl hv hnL hT X₁ hn hstep
theorem r_callV (C : Cx g x y rm) {z : ed_m} {np d zc zs : Nat} (hz : Lz z np) (hk : LkV y pc n z) (k : Nat) (as rest : List Value) (hst : st = as.reverse ++ .ref k :: rest) (hnp : as.length = np) {ci : Nat} {fs : List ed_f} {r : vw_C} (hck : Y.2[k]? = some (.inl (ci, fs))) (hcr : ed_cl[ci]? = some r) (hrz : r.1 = z.1.cls) (hr : (rest.map fun v => v.category).sum ≤ 8)
    (hroom : d + 7 ≤ rm.frames ∧ 8 + (z.2.2.1 + 11) + (40 * d + 84) ≤ rm.locals ∧ cells + zc ≤ rm.cells ∧ slots + zs ≤ rm.slots) (hnL : y.2.2.1 = nL)
    (ct : ed_Ct g x.2.1 z d zc zs (.ref k :: as) Y I L (ed_K g x post mc ms nL (cells + zc) (slots + zs) pc n ls rest)) : Gd g x post mc ms nL cells slots Y I L pc ls st := by
  obtain ⟨idx, hdg, rfl, hlk, hinst, hsel⟩ := hk
  subst hst
  intro H locs la hH hl hv T hT X
  have hok := C.2.2.2.2.2.2.1
  obtain ⟨mk, methM, hn, hmM, hstM, habM⟩ := Cond.instanceMethod_spec (hok.1.use hinst rfl x.2.2.2.2.2.2.1)
  obtain ⟨mk2, methY, cY, hn2, hmY, -, -, hsig⟩ := ed_code (hok.1.use hz.1 hz.2.1 x.2.2.2.2.2.2.1)
  cases hn.symm.trans hn2
  cases hmM.symm.trans hmY
  obtain ⟨r9, h1, cellB, hcB, hcC, hcV, -⟩ := hH.2.2 k _ (ed_ws_at hck)
  cases Option.some.inj (h1.symm.trans hcr)
  obtain ⟨-, hfc, -⟩ := hok.2.1.1 ci r hcr
  have hclB : x.2.2.2.2.1.vm.findClass z.1.cls = some cellB.cls := by rw [← hrz, hcC]; exact hfc
  obtain ⟨c2, r2, m2, q1, q2, q3, q4, kP, hkP, hkPi⟩ := Cond.selects_spec (hok.1.use hsel rfl x.2.2.2.2.2.2.1)
  cases hclB.symm.trans q1
  cases (State.methodFound?_of_named hn hz.2.2.2.1).symm.trans q2
  cases hn.symm.trans q3
  have hselP : selectMethod x.2.2.1.platform x.2.2.2.2.1.vm cellB.cls mk = .method mk := by rw [Launch.admits_selectMethod X.admits]; exact q4
  have hlen : (as.map (ed_cv g)).length = methM.sig.parameters.length := by
    have h2 := hz.2.2.2.2
    rw [hsig] at h2
    rw [List.length_map, hnp]
    exact (Option.some.inj h2).symm
  have hstk : (F0 x.2.2.2.2.2.1 pc la ((as.reverse ++ .ref k :: rest).map (ed_cv g))).stack = (as.map (ed_cv g)).reverse ++ .ref (g.1 + k) :: rest.map (ed_cv g) := by simp [F0, ed_cv]
  rcases hlk with hlk | ⟨host, hlk⟩
  · obtain ⟨vm₁, X₁, hstep⟩ := X.invokevirtual C.1 C.2.2.2.1 (hok.1.use hlk rfl _) hn hmM hstM hkP hkPi hz.2.2.2.1 (a := g.1 + k) (cell := cellB) (by rw [hT]; exact hcB) (fun w h => by rw [hcV] at h; cases h) hselP hmM habM hkP hkPi (g := F0 x.2.2.2.2.2.1 pc la ((as.reverse ++ .ref k :: rest).map (ed_cv g))) rfl hlen hstk (by rw [C.2.1]; exact hdg)
    exact ed_call (av := .ref k :: as) C hz hdg hr hroom ct hH hl hv hnL hT X₁ hn hstep
  · obtain ⟨vm₁, X₁, hstep⟩ := X.invokevirtualNest C.1 C.2.2.2.1 (hok.1.use hlk rfl _) hn hmM hstM hkP hkPi hz.2.2.2.1 (a := g.1 + k) (cell := cellB) (by rw [hT]; exact hcB) (fun w h => by rw [hcV] at h; cases h) hselP hmM habM hkP hkPi (g := F0 x.2.2.2.2.2.1 pc la ((as.reverse ++ .ref k :: rest).map (ed_cv g))) rfl hlen hstk (by rw [C.2.1]; exact hdg)
    exact ed_call (av := .ref k :: as) C hz hdg hr hroom ct hH hl hv hnL hT X₁ hn hstep
end CALLS
end
section
/-! a method that is 'if (!b) throw new E();' -/
theorem jx_kept {s U : State} {k n : Nat} (h : s.sameButNew ({ U with vm := s.vm } : State) [] k n) : s.heap.size ≤ U.heap.size ∧ ∀ q : Nat, q < s.heap.size → U.heap[q]? = s.heap[q]? := by
  obtain ⟨-, h2, -, -, -, h6⟩ := h
  refine ⟨h2, fun q hq => ?_⟩
  obtain ⟨c9, e1, e2, e3, e4⟩ := h6 q _ (Array.getElem?_eq_getElem hq)
  have hs : c9.slots = (s.heap[q]).slots := Array.ext_getElem? fun i => e4 i fun hm => by cases hm
  have h9 : c9 = s.heap[q] := by
    rw [hs] at e2
    exact e2
  have e5 : U.heap[q]? = some c9 := e1
  rw [e5, h9, Array.getElem?_eq_getElem hq]
theorem ed_H.grow {g : ed_g} {Y : ed_Y} (hY : Y.1 = false) {I : ed_I} {L : ed_L} {H H1 : Heap} (h : ed_H g Y I L H) (hz : H.size ≤ H1.size) (hk : ∀ q : Nat, q < H.size → H1[q]? = H[q]?) : ed_H g Y I L H1 :=
  ⟨⟨Nat.le_trans h.1.1 hz, fun h9 => by rw [hY] at h9; cases h9⟩, fun q hq => (hk q (Nat.lt_of_lt_of_le hq h.1.1)).trans (h.2.1 q hq), h.2.2.kept (fun k q hq => hk q.1 (h.2.2 k q hq).lt)⟩
theorem ed_thrower {g : ed_g} {l : Launch} {y : ed_m} {cls : String} {ik ic : Nat} (names : List String) (hl : l.stackTraces = false) (hy : plainName y.1.cls = true) (h1 : y.2.2.1 = 1) (hret : y.2.2.2.1 = none) (hhh : y.2.2.2.2 = [])
    (hcls : Bundle.fit cls = true) (hnames : ∀ n ∈ names, Bundle.fit n = true) (hlen : names.length = 2)
    (d0 : decode y.2.1 0 = .ok (.iload_n 0, 1)) (d1 : decode y.2.1 1 = .ok (.ifCond .ne 11, 3)) (d4 : decode y.2.1 4 = .ok (.new ik, 3)) (d7 : decode y.2.1 7 = .ok (.dup, 1)) (d8 : decode y.2.1 8 = .ok (.invokespecial ic, 3)) (d11 : decode y.2.1 11 = .ok (.athrow, 1)) (d12 : decode y.2.1 12 = .ok (.return_, 1))
    (hk : Cond.classLink y.1.cls ik cls ∈ lw_tbl) (hini : Cond.initialized cls ∈ lw_tbl) (hat : ∀ w ∈ Bundle.ownAtoms0 y.1.cls ic cls names, w ∈ ed_stw ∨ (w ∈ lw_tbl ∧ ed_stab w = true)) (hins : Cond.instantiable cls 6 ∈ lw_tbl)
    {v : Int} (hr : -2147483648 ≤ v ∧ v ≤ 2147483647) {Y : ed_Y} (hY : Y.1 = false) {I : ed_I} {L : ed_L} {post : ed_post} (hn : v ≠ 0 → post (.inl none) Y I L) (hx : v = 0 → post (.inr cls) Y I L) : ed_Ct g l y 0 1 6 [.int (iZ v)] Y I L post := by
  by_cases hv : v = 0
  · refine ed_Ct.ofW hl hy (by rw [h1]; exact Nat.le_refl _) ?_
    intro x la hxl C hH hla
    obtain ⟨p, l', e, R, s, m, args, below, meth, c⟩ := x
    obtain ⟨hxx, hb, hml, hown, hlocks, htr, hok, hR, hre, hex, hnm⟩ := C
    dsimp only at *
    subst hR
    refine lv_iload_n hxx hb d0 rfl (show la[0]? = some (.val (.int (iZ v))) from ed_lv_at (i := 0) (v := .int (iZ v)) hla rfl) ?_
    refine lv_if_ne hxx hb d1 (tgt := 12) (by decide) (fun h => absurd (show iZ v = 0 by rw [hv]; rfl) h) (fun _ => ?_)
    intro T hT X
    have htr' : e.platform.stackTraces = false := (show e.platform.stackTraces = l'.stackTraces by rw [X.admits.platform]).trans htr
    have hS := hok.2.2.1 s (Vm.Alike.refl s.vm) hH.2.1
    have hall : ∀ w ∈ Bundle.ownAtoms0 y.1.cls ic cls names, w.before args s = true := fun w hw => by
      rcases hat w hw with h | ⟨h, h9⟩
      · exact hS w h args
      · exact hok.1.use h h9 args
    obtain ⟨vm₁, cX, kX, hfX, hkX, -, -, X₁, st1⟩ := X.newCold hxx (own := y.1.cls) (C := cls) (index := ik) (n := 6) hown (hok.1.use hk rfl args) (hok.1.use hins rfl args) (hok.1.use hini rfl args)
      (g := F0 m 4 la []) rfl (by rw [hb]; exact d4) (Nat.le_refl _) (Nat.le_refl _)
    generalize hT1 : (T.setVm vm₁).pushCell { cls := cX, slots := kX.instanceTypes.map defaultValue, vm := .none } = T1 at X₁ st1
    have hcellA : T1.heap[T.heap.size]? = some (freshCell cX kX) := by rw [← hT1]; exact State.heap_pushCell_size _ _
    have d7' : decode c.code 7 = .ok (.dup, 1) := by rw [hb]; exact d7
    have hout : c.exceptionTable.toList = [] := List.map_eq_nil_iff.mp (hex.trans hhh)
    obtain ⟨U, hsteps, hrun, hend, hW, hsame, ce, hce, hO⟩ := X₁.ctorThrow0 hxx htr' (own := y.1.cls) (cls := cls) (names := names) (ic := ic) hown hcls hnames hall (fun x hx => nomatch hx) hfX hkX hcellA (by rw [hT]; exact Nat.le_refl _)
      (g := { method := m, pc := 8, locals := la, stack := .ref T.heap.size :: .ref T.heap.size :: [], locked := none }) rfl (hla.1.trans (hml.symm)) rfl rfl (rest := []) rfl
      (by rw [hb]; exact d8) (by rw [hb]; exact d11) (fun z hz => by rw [hout] at hz; cases hz) (by rw [hlen]; decide) (by rw [hlen]; exact (Nat.le_of_ble_eq_true rfl)) hlocks
    obtain ⟨f1, f2⟩ := jx_kept hsame
    refine ⟨U, ?_, .threw T.heap.size, hrun, hend, [], Y, I, L, (fun _ h => nomatch h), hW, hsame.mono (Nat.le_refl _) (Nat.le_refl _), hH.grow hY f1 f2, Or.inr ⟨T.heap.size, cls, ce, rfl, hce, hO.vm, hO.cls, hx hv⟩⟩
    refine st1 _ ?_
    show Steps p.tables e below (T1.setTop { method := m, pc := 7, locals := la, stack := .ref T.heap.size :: [], locked := none }) _
    jvm_step X₁.here [X₁.here.top, hxx, d7', Value.category]
    exact hsteps
  · refine ed_Ct.of hl hy (by rw [h1]; exact Nat.le_refl _) ?_
    intro x hxl C
    refine r_ild (n := 1) (i := 0) C (Or.inl ⟨0, d0, rfl, rfl⟩) rfl ?_
    refine r_if_ne (n := 4) (t := 12) C ⟨11, d1, rfl, by decide⟩ hr (fun _ => ?_) (fun h => absurd h hv)
    exact r_vret (n := 13) C ⟨d12, rfl⟩ hret (Nat.zero_le _) (Nat.zero_le _) (hn hv)
end
section
/-! making cells: while the world is all that lies from B on (Y.1), a new cell is the world's next -/
section MAKE
variable {g : ed_g} {x : ed_x} {post : ed_post} {mc ms nL cells slots : Nat} {Y : ed_Y} {I : ed_I} {L : ed_L} {pc n : Nat} {ls : List (Nat × Value)} {st : List Value} {y : ed_m} {rm : Room}
theorem ed_ws_push (g : ed_g) (b : Bool) (l : List ed_c) (c : ed_c) (I : ed_I) (L : ed_L) : ed_ws g (b, l ++ [c]) I L = ed_ws g (b, l) I L ++ [(g.1 + l.length, ed_rc g I L l.length c)] := by
  simp [ed_ws, List.mapIdx_append]
theorem ed_H.push {H H1 : Heap} (h : ed_H g Y I L H) (hY : Y.1 = true) {c : ed_c} (hz : H1.size = H.size + 1) (ho : ∀ q, q < H.size → H1[q]? = H[q]?) (hc : va_at g.2.2.2.2 ed_cl (g.1 + Y.2.length, ed_rc g I L Y.2.length c) H1) : ed_H g (true, Y.2 ++ [c]) I L H1 := by
  have hs := h.1.2 hY
  refine ⟨⟨by omega, fun _ => by simp only [List.length_append, List.length_singleton]; omega⟩, fun q hq => (ho q (by omega)).trans (h.2.1 q hq), ?_⟩
  obtain ⟨b, l⟩ := Y
  rw [ed_ws_push]
  refine va_P.app ?_ ?_
  · have h9 : va_P g.2.2.2.2 ed_cl (ed_ws g (b, l) I L) H1 := h.2.2.kept (fun k q hq => ho q.1 (h.2.2 k q hq).lt)
    exact h9
  · intro k q hq
    rcases k with _ | k
    · cases hq; exact hc
    · simp at hq
/-- a new object of class number ci -/
theorem r_new (C : Cx g x y rm) {idx ci k : Nat} {r : vw_C} (d : Dn y pc (.new idx) 3 n) (hY : Y.1 = true) (hr : ed_cl[ci]? = some r) (hlk : Cond.classLink y.1.cls idx r.1 ∈ lw_tbl) (hin : Cond.instantiable r.1 r.2.2 ∈ lw_tbl) (hini : Cond.initialized r.1 ∈ lw_tbl) (fs : List ed_f)
    (hfs : ∀ (ty0 : Nat → FieldType), (∀ j, j < r.2.2 → parseFieldDescriptor (r.2.1 j).2.2.1 = some (ty0 j)) → ∀ j, j < r.2.2 → defaultValue (ty0 j) = vp_V (fs.mapIdx (fun i f => ed_cv g (ed_fv I L Y.2.length i f))) j)
    (hroom : cells + 1 ≤ rm.cells ∧ slots + r.2.2 ≤ rm.slots) (hk : Y.2.length = k) (kk : Gd g x post mc ms nL (cells + 1) (slots + r.2.2) (true, Y.2 ++ [.inl (ci, fs)]) I L n ls (.ref k :: st)) : Gd g x post mc ms nL cells slots Y I L pc ls st := by
  obtain ⟨d, rfl⟩ := d
  subst hk
  obtain ⟨p, l, e, R, s, m, args, below, meth, c⟩ := x
  obtain ⟨hx, hb, hml, hown, hlocks, htr, hok, hR, hret, hex, hnm⟩ := C
  dsimp only at *
  subst hR
  intro H locs la hH hl hv
  obtain ⟨ty0, hty, -⟩ := ed_cl_ty ci r hr
  have hKn := hok.2.1.1 ci _ hr
  have hsz : H.size = g.1 + Y.2.length := hH.1.2 hY
  refine W.newcK hx hb hown (hok.1.use hlk rfl _) (hok.1.use hin rfl _) (hok.1.use hini rfl _) rfl d hroom.1 hroom.2 hKn.2.1 hsz fun H1 kC hkC e1 z1 o1 => ?_
  exact kk H1 locs la (hH.push hY (by omega) (fun q hq => o1 q (by omega)) ⟨_, hr, (u_born ty0 (ed_uws hr hok.1 args) (fun _ h => h) hKn hkC e1 hty).to (hfs ty0 hty)⟩) hl hv
/-- a new array of ints, booleans or longs -/
theorem r_newa (C : Cx g x y rm) {at_ : ArrayType} {t N k : Nat} (d : Dn y pc (.newarray at_) 2 n) (hY : Y.1 = true) (ht : (at_ = .int ∧ t = 0) ∨ (at_ = .boolean ∧ t = 1) ∨ (at_ = .long ∧ t = 2)) (hlk : Cond.arrayClass (newarray.typeOf at_) ∈ lw_tbl) (hN : N ≤ 1000) (hI : ∀ j, I Y.2.length j = 0) (hL : ∀ j, L Y.2.length j = 0)
    (hroom : cells + 1 ≤ rm.cells ∧ slots + N ≤ rm.slots) (hk : Y.2.length = k) (kk : Gd g x post mc ms nL (cells + 1) (slots + N) (true, Y.2 ++ [.inr (t, N, 0)]) I L n ls (.ref k :: st)) : Gd g x post mc ms nL cells slots Y I L pc ls (.int (iZ N) :: st) := by
  obtain ⟨d, rfl⟩ := d
  subst hk
  obtain ⟨p, l, e, R, s, m, args, below, meth, c⟩ := x
  obtain ⟨hx, hb, hml, hown, hlocks, htr, hok, hR, hret, hex, hnm⟩ := C
  dsimp only at *
  subst hR
  intro H locs la hH hl hv
  have hsz : H.size = g.1 + Y.2.length := hH.1.2 hY
  have hn0 : ¬ iZ N < 0 := by
    have e0 : (0 : Int32) = iZ 0 := rfl
    rw [e0, iZ_lt (by omega) (by omega)]
    omega
  have hcl : (iZ N).toNatClampNeg = N := by rw [iZ_clamp (by omega)]; exact Int.toNat_natCast N
  have hK := hok.2.1
  refine va_newaK hx hb (hok.1.use hlk rfl _) rfl d rfl hn0 hcl (by rcases ht with ⟨rfl, -⟩ | ⟨rfl, -⟩ | ⟨rfl, -⟩ <;> simp [newarray.typeOf, componentBytes] <;> omega) hroom.1 hroom.2 hsz fun H1 cA e1 z1 o1 hAr hNm => ?_
  refine kk H1 locs la (hH.push hY (by omega) (fun q hq => o1 q (by omega)) ?_) hl hv
  rcases ht with ⟨rfl, rfl⟩ | ⟨rfl, rfl⟩ | ⟨rfl, rfl⟩
  · have h9 : s.vm.findClass ("[" ++ FieldType.int.toString) = some (g.2.2.2.1 0) := (hK.2 0 _ rfl).2
    cases Option.some.inj (hNm.symm.trans h9)
    show H1[g.1 + Y.2.length]? = some (arrV _ N (fun m : Nat => Value.int (iZ (I Y.2.length m))))
    rw [e1]
    simp only [hI]
    rfl
  · have h9 : s.vm.findClass ("[" ++ FieldType.boolean.toString) = some (g.2.2.2.1 1) := (hK.2 1 _ rfl).2
    cases Option.some.inj (hNm.symm.trans h9)
    show H1[g.1 + Y.2.length]? = some (arrV _ N (fun m : Nat => Value.int (iZ (I Y.2.length m))))
    rw [e1]
    simp only [hI]
    rfl
  · have h9 : s.vm.findClass ("[" ++ FieldType.long.toString) = some (g.2.2.2.1 2) := (hK.2 2 _ rfl).2
    cases Option.some.inj (hNm.symm.trans h9)
    show H1[g.1 + Y.2.length]? = some (arrV _ N (fun m : Nat => Value.long (lZ (L Y.2.length m))))
    rw [e1]
    simp only [hL]
    rfl
/-- the constructor of Object -/
theorem r_obj (C : Cx g x y rm) {idx k : Nat} (d : Dn y pc (.invokespecial idx) 3 n) (hlk : Cond.methodLink y.1.cls idx Lib.objectInit ∈ lw_tbl) (hin : Cond.instanceMethod Lib.objectInit ∈ lw_tbl) (hcd : Cond.code Lib.objectInit ⟨#[0xb1]⟩ 1 none ∈ lw_tbl) (hnL : y.2.2.1 = nL) (hst : st = []) (hroom : 1 ≤ rm.frames ∧ 12 ≤ rm.locals)
    (kk : Gd g x post mc ms nL cells slots Y I L n ls st) : Gd g x post mc ms nL cells slots Y I L pc ls (.ref k :: st) := by
  obtain ⟨d, rfl⟩ := d
  subst hst
  obtain ⟨p, l, e, R, s, m, args, below, meth, c⟩ := x
  obtain ⟨hx, hb, hml, hown, hlocks, htr, hok, hR, hret, hex, hnm⟩ := C
  dsimp only at *
  subst hR
  intro H locs la hH hl hv
  exact W.objInit hx hb hown (hok.1.use hlk rfl _) (hok.1.use hin rfl _) (hok.1.use hcd rfl _) rfl (hv.1.trans (hnL.symm.trans hml.symm)) rfl d hroom.1 (by simpa using hroom.2) (kk H locs la hH hl hv)
theorem ed_ws_set {g : ed_g} {Y : ed_Y} {I : ed_I} {L : ed_L} {k : Nat} {c c' : ed_c} (hk : Y.2[k]? = some c) : (ed_ws g Y I L).set k (g.1 + k, ed_rc g I L k c') = ed_ws g (Y.1, Y.2.set k c') I L := by
  apply List.ext_getElem?
  intro j
  have hlen : k < (ed_ws g Y I L).length := (List.getElem?_eq_some_iff.mp (ed_ws_at (g := g) (I := I) (L := L) hk)).1
  have hlen2 : k < Y.2.length := (List.getElem?_eq_some_iff.mp hk).1
  by_cases hj : k = j
  · subst hj
    rw [List.getElem?_set_self hlen, ed_ws_at (c := c')]
    exact List.getElem?_set_self hlen2
  · rw [List.getElem?_set_ne hj]
    simp only [ed_ws, List.getElem?_mapIdx, List.getElem?_set_ne hj]
/-- a field of the method's own class, put -/
def Dfp (y : ed_m) (pc : Nat) (ci i n : Nat) : Prop := ∃ (idx : Nat) (r : vw_C), decode y.2.1 pc = .ok (.putfield idx, 3) ∧ pc + 3 = n ∧ ed_cl[ci]? = some r ∧ i < r.2.2 ∧ (r.2.1 i).1 = r.1 ∧ Cond.fieldLink y.1.cls idx r.1 (r.2.1 i).2.1 (r.2.1 i).2.2.1 ∈ lw_tbl
/-- a reference into a final field, in a constructor -/
theorem r_putR (C : Cx g x y rm) {ci i k r : Nat} (d : Dfp y pc ci i n) (hY : Y.1 = true) {fs : List ed_f} (hk : Y.2[k]? = some (.inl (ci, fs))) (hi9 : i < fs.length) (hb9 : ∀ q, ed_cl[ci]? = some q → (q.2.1 i).2.2.2 = true ∧ (q.2.1 i).1 = y.1.cls ∧ ∃ ty, parseFieldDescriptor (q.2.1 i).2.2.1 = some ty ∧ narrow ty (.ref (g.1 + r)) = .ref (g.1 + r) ∧ fits ty (.ref (g.1 + r)) = true) (hini : y.1.name = "<init>")
    (kk : Gd g x post mc ms nL cells slots (true, Y.2.set k (.inl (ci, fs.set i (.inl (some r))))) I L n ls st) : Gd g x post mc ms nL cells slots Y I L pc ls (.ref r :: .ref k :: st) := by
  obtain ⟨idx, q9, d, rfl, hr, hi, hd, hw⟩ := d
  obtain ⟨p, l, e, R, s, m, args, below, meth, c⟩ := x
  obtain ⟨hx, hb, hml, hown, hlocks, htr, hok, hR, hret, hex, hnm⟩ := C
  dsimp only at *
  subst hR
  intro H locs la hH hl hv
  obtain ⟨hfin, hdecl, ty, hdd, hnar, hfit⟩ := hb9 _ hr
  obtain ⟨ty0, hty, hnm2⟩ := ed_cl_ty ci q9 hr
  obtain ⟨Cn, Tn, Nn⟩ := q9
  have hts := ed_uws hr hok.1 args
  have hK := hok.2.1
  have hap := va_apart (own := y.1.cls) hts (fun _ h => h) ty0 hty hnm2 hK hr
  obtain ⟨r9, h1, cell, q1, q2, q3, q4⟩ := hH.2.2 k _ (ed_ws_at hk)
  cases Option.some.inj (h1.symm.trans hr)
  obtain ⟨hS, hfc, kC, hkC, hkind⟩ := hK.1 ci _ hr
  obtain ⟨cf, kf, fi, f, hif, hsl⟩ := hS i hi
  have hlay := hts _ (u_in_lay hi)
  unfold u_lay at hlay
  rw [if_pos hfin] at hlay
  have hst := (u_facts hfc hkC (u_lays hts (fun _ h => h) hi) hif).1
  have hcf : m.cls = cf := by
    obtain ⟨_, _, c', _, _, _, -, -, hf', -, -, -, hown2, -⟩ := Cond.laysFinal_spec hlay
    have e1 : c' = cf := by have := hif.symm.trans hf'; simp at this; exact this.1.symm
    rw [hdecl] at hown2
    rw [← e1]; exact Option.some.inj (hown.symm.trans hown2)
  have h6 := u_fits hfc hkC hkind (Or.inr hlay) hif hdd hnar hfit
  refine W.putFinK hx hb hown (hok.1.use hw rfl args) (by rw [hd] at hif; exact hif) hst hcf (hnm.trans hini) (by rw [q2]; exact h6) q1 q3 (by rw [hsl]; exact k2_hasslot (q4 i hi)) rfl rfl d fun H' e1 e2 e3 => ?_
  rw [hsl] at e1 ⊢
  have hlen : i < (fs.mapIdx (fun i f => ed_cv g (ed_fv I L k i f))).length := by simpa using hi9
  have hP := hH.2.2.set (ed_ws_D g Y I L) (ed_ws_at hk) (e := .inr (ci, (fs.mapIdx (fun i f => ed_cv g (ed_fv I L k i f))).set i (.ref (g.1 + r)))) ⟨_, hr, t_OB.to (V := updV (vp_V (fs.mapIdx (fun i f => ed_cv g (ed_fv I L k i f)))) i (.ref (g.1 + r))) ⟨_, e1, q2, q3, t_set q4 hap hi _⟩ (fun j _ => vp_updV_set hlen _ j)⟩ e3
  have e5 : ((fs.mapIdx (fun i f => ed_cv g (ed_fv I L k i f))).set i (.ref (g.1 + r))) = (fs.set i (.inl (some r))).mapIdx (fun i f => ed_cv g (ed_fv I L k i f)) := by
    apply List.ext_getElem?
    intro j
    by_cases hj : i = j
    · subst hj
      rw [List.getElem?_set_self hlen]
      simp [List.getElem?_mapIdx, hi9, ed_fv, ed_cv]
    · rw [List.getElem?_set_ne hj]
      simp only [List.getElem?_mapIdx, List.getElem?_set_ne hj]
  rw [e5] at hP
  have e6 := ed_ws_set (g := g) (I := I) (L := L) (c' := .inl (ci, fs.set i (.inl (some r)))) hk
  have hP2 : va_P g.2.2.2.2 ed_cl (ed_ws g (Y.1, Y.2.set k (.inl (ci, fs.set i (.inl (some r))))) I L) H' := by rw [← e6]; exact hP
  rw [hY] at hP2
  refine kk H' _ la ⟨⟨by rw [e2]; exact hH.1.1, fun _ => by rw [e2, hH.1.2 hY]; simp⟩, fun q hq => (e3 q (by show q ≠ g.1 + k; omega)).trans (hH.2.1 q hq), hP2⟩ (fun q hq => ?_) hv
  rcases List.mem_append.mp hq with h | h
  · exact hl q h
  · rw [List.mem_singleton.mp h]; exact Nat.le_add_right _ _
end MAKE
end
section
/-! methods (printed by wip/whole/prog/gen.py) -/
def mD_init : ed_m := (⟨"EstateDesk", "<init>", "()V"⟩, prog_1_method_1_code, 1, none, [])
theorem lzD_init : Lz mD_init 0 := ⟨tb1 20 rfl, rfl, tb1 1 rfl, ⟨by decide, by decide⟩, by decide +kernel⟩
def mD_testator : ed_m := (⟨"EstateDesk", "testator", "(I)V"⟩, prog_1_method_2_code, 2, none, [])
theorem lzD_testator : Lz mD_testator 1 := ⟨tb2 27 rfl, rfl, tb1 1 rfl, ⟨by decide, by decide⟩, by decide +kernel⟩
def mD_person : ed_m := (⟨"EstateDesk", "person", "(II)V"⟩, prog_1_method_3_code, 3, none, [])
theorem lzD_person : Lz mD_person 2 := ⟨tb2 129 rfl, rfl, tb1 1 rfl, ⟨by decide, by decide⟩, by decide +kernel⟩
def mD_asset : ed_m := (⟨"EstateDesk", "asset", "(IJZ)V"⟩, prog_1_method_4_code, 5, none, [])
theorem lzD_asset : Lz mD_asset 3 := ⟨tb2 137 rfl, rfl, tb1 1 rfl, ⟨by decide, by decide⟩, by decide +kernel⟩
def mD_revalue : ed_m := (⟨"EstateDesk", "revalue", "(IJ)J"⟩, prog_1_method_5_code, 6, some .long, [])
theorem lzD_revalue : Lz mD_revalue 2 := ⟨tb2 145 rfl, rfl, tb1 1 rfl, ⟨by decide, by decide⟩, by decide +kernel⟩
def mD_gone : ed_m := (⟨"EstateDesk", "gone", "(I)V"⟩, prog_1_method_6_code, 2, none, [])
theorem lzD_gone : Lz mD_gone 1 := ⟨tb2 156 rfl, rfl, tb1 1 rfl, ⟨by decide, by decide⟩, by decide +kernel⟩
def mD_gift : ed_m := (⟨"EstateDesk", "gift", "(II)V"⟩, prog_1_method_7_code, 3, none, [])
theorem lzD_gift : Lz mD_gift 2 := ⟨tb2 163 rfl, rfl, tb1 1 rfl, ⟨by decide, by decide⟩, by decide +kernel⟩
def mD_legacy : ed_m := (⟨"EstateDesk", "legacy", "(IJI)V"⟩, prog_1_method_8_code, 5, none, [])
theorem lzD_legacy : Lz mD_legacy 3 := ⟨tb2 178 rfl, rfl, tb1 1 rfl, ⟨by decide, by decide⟩, by decide +kernel⟩
def mD_annuity : ed_m := (⟨"EstateDesk", "annuity", "(IJI)V"⟩, prog_1_method_9_code, 5, none, [])
theorem lzD_annuity : Lz mD_annuity 3 := ⟨tb2 193 rfl, rfl, tb1 1 rfl, ⟨by decide, by decide⟩, by decide +kernel⟩
def mD_residue : ed_m := (⟨"EstateDesk", "residue", "(II)V"⟩, prog_1_method_10_code, 3, none, [])
theorem lzD_residue : Lz mD_residue 2 := ⟨tb2 208 rfl, rfl, tb1 1 rfl, ⟨by decide, by decide⟩, by decide +kernel⟩
def mD_strike : ed_m := (⟨"EstateDesk", "strike", "(I)V"⟩, prog_1_method_11_code, 2, none, [])
theorem lzD_strike : Lz mD_strike 1 := ⟨tb2 216 rfl, rfl, tb1 1 rfl, ⟨by decide, by decide⟩, by decide +kernel⟩
def mD_taker : ed_m := (⟨"EstateDesk", "taker", "(III)V"⟩, prog_1_method_12_code, 4, none, [])
theorem lzD_taker : Lz mD_taker 3 := ⟨tb2 223 rfl, rfl, tb1 1 rfl, ⟨by decide, by decide⟩, by decide +kernel⟩
def mD_charge : ed_m := (⟨"EstateDesk", "charge", "(IZ)V"⟩, prog_1_method_13_code, 3, none, [])
theorem lzD_charge : Lz mD_charge 2 := ⟨tb2 231 rfl, rfl, tb1 1 rfl, ⟨by decide, by decide⟩, by decide +kernel⟩
def mD_debt : ed_m := (⟨"EstateDesk", "debt", "(IJI)V"⟩, prog_1_method_14_code, 5, none, [])
theorem lzD_debt : Lz mD_debt 3 := ⟨tb2 238 rfl, rfl, tb1 1 rfl, ⟨by decide, by decide⟩, by decide +kernel⟩
def mD_settle : ed_m := (⟨"EstateDesk", "settle", "()J"⟩, prog_1_method_15_code, 1, some .long, [])
theorem lzD_settle : Lz mD_settle 0 := ⟨tb3 5 rfl, rfl, tb1 1 rfl, ⟨by decide, by decide⟩, by decide +kernel⟩
def mD_gets : ed_m := (⟨"EstateDesk", "gets", "(II)J"⟩, prog_1_method_16_code, 3, some .long, [])
theorem lzD_gets : Lz mD_gets 2 := ⟨tb3 128 rfl, rfl, tb1 1 rfl, ⟨by decide, by decide⟩, by decide +kernel⟩
def mD_assetTo : ed_m := (⟨"EstateDesk", "assetTo", "(I)I"⟩, prog_1_method_17_code, 2, some .int, [])
theorem lzD_assetTo : Lz mD_assetTo 1 := ⟨tb3 136 rfl, rfl, tb1 1 rfl, ⟨by decide, by decide⟩, by decide +kernel⟩
def mD_clauseState : ed_m := (⟨"EstateDesk", "clauseState", "(I)I"⟩, prog_1_method_18_code, 2, some .int, [])
theorem lzD_clauseState : Lz mD_clauseState 1 := ⟨tb3 143 rfl, rfl, tb1 1 rfl, ⟨by decide, by decide⟩, by decide +kernel⟩
def mD_told : ed_m := (⟨"EstateDesk", "told", "(II)J"⟩, prog_1_method_19_code, 3, some .long, [])
theorem lzD_told : Lz mD_told 2 := ⟨tb3 150 rfl, rfl, tb1 1 rfl, ⟨by decide, by decide⟩, by decide +kernel⟩
def mD_paid : ed_m := (⟨"EstateDesk", "paid", "(I)J"⟩, prog_1_method_20_code, 2, some .long, [])
theorem lzD_paid : Lz mD_paid 1 := ⟨tb3 158 rfl, rfl, tb1 1 rfl, ⟨by decide, by decide⟩, by decide +kernel⟩
def mD_sum : ed_m := (⟨"EstateDesk", "sum", "(I)J"⟩, prog_1_method_21_code, 2, some .long, [])
theorem lzD_sum : Lz mD_sum 1 := ⟨tb3 165 rfl, rfl, tb1 1 rfl, ⟨by decide, by decide⟩, by decide +kernel⟩
def mD_close : ed_m := (⟨"EstateDesk", "close", "()V"⟩, prog_1_method_22_code, 1, none, [])
theorem lzD_close : Lz mD_close 0 := ⟨tb3 173 rfl, rfl, tb1 1 rfl, ⟨by decide, by decide⟩, by decide +kernel⟩
def mD_worth : ed_m := (⟨"EstateDesk", "worth", "(JI)J"⟩, prog_1_method_23_code, 4, some .long, [])
theorem lzD_worth : Lz mD_worth 2 := ⟨tb3 180 rfl, rfl, tb1 1 rfl, ⟨by decide, by decide⟩, by decide +kernel⟩
def mD_annuityValue : ed_m := (⟨"EstateDesk", "annuityValue", "(JI)J"⟩, prog_1_method_24_code, 8, some .long, [])
theorem lzD_annuityValue : Lz mD_annuityValue 2 := ⟨tb2 198 rfl, rfl, tb1 1 rfl, ⟨by decide, by decide⟩, by decide +kernel⟩
def mD_total : ed_m := (⟨"EstateDesk", "total", "([J)J"⟩, prog_1_method_25_code, 4, some .long, [])
theorem lzD_total : Lz mD_total 1 := ⟨tb3 76 rfl, rfl, tb1 1 rfl, ⟨by decide, by decide⟩, by decide +kernel⟩
def mD_noteFact : ed_m := (⟨"EstateDesk", "noteFact", "()V"⟩, prog_1_method_26_code, 1, none, [])
theorem lzD_noteFact : Lz mD_noteFact 0 := ⟨tb2 122 rfl, rfl, tb1 1 rfl, ⟨by decide, by decide⟩, by decide +kernel⟩
def mD_requireOpen : ed_m := (⟨"EstateDesk", "requireOpen", "()V"⟩, prog_1_method_27_code, 1, none, [])
theorem lzD_requireOpen : Lz mD_requireOpen 0 := ⟨tb2 100 rfl, rfl, tb1 1 rfl, ⟨by decide, by decide⟩, by decide +kernel⟩
def mD_requireAsset : ed_m := (⟨"EstateDesk", "requireAsset", "(I)V"⟩, prog_1_method_28_code, 2, none, [])
theorem lzD_requireAsset : Lz mD_requireAsset 1 := ⟨tb2 149 rfl, rfl, tb1 1 rfl, ⟨by decide, by decide⟩, by decide +kernel⟩
def mD_requireAssetOrNone : ed_m := (⟨"EstateDesk", "requireAssetOrNone", "(I)V"⟩, prog_1_method_29_code, 2, none, [])
theorem lzD_requireAssetOrNone : Lz mD_requireAssetOrNone 1 := ⟨tb2 182 rfl, rfl, tb1 1 rfl, ⟨by decide, by decide⟩, by decide +kernel⟩
def mD_requireWithin : ed_m := (⟨"EstateDesk", "requireWithin", "(JJJ)V"⟩, prog_1_method_30_code, 6, none, [])
theorem lzD_requireWithin : Lz mD_requireWithin 3 := ⟨tb2 31 rfl, rfl, tb1 1 rfl, ⟨by decide, by decide⟩, by decide +kernel⟩
def mD_requireArgument : ed_m := (⟨"EstateDesk", "requireArgument", "(Z)V"⟩, prog_1_method_31_code, 1, none, [])
theorem lzD_requireArgument : Lz mD_requireArgument 1 := ⟨tb2 34 rfl, rfl, tb1 1 rfl, ⟨by decide, by decide⟩, by decide +kernel⟩
def mD_requireState : ed_m := (⟨"EstateDesk", "requireState", "(Z)V"⟩, prog_1_method_32_code, 1, none, [])
theorem lzD_requireState : Lz mD_requireState 1 := ⟨tb2 103 rfl, rfl, tb1 1 rfl, ⟨by decide, by decide⟩, by decide +kernel⟩
def mM_init : ed_m := (⟨"EstateDeskModel", "<init>", "()V"⟩, prog_9_method_1_code, 1, none, [])
theorem lzM_init : Lz mM_init 0 := ⟨tb3 185 rfl, rfl, tb1 8 rfl, ⟨by decide, by decide⟩, by decide +kernel⟩
def mM_thrown : ed_m := (⟨"EstateDeskModel", "thrown", "()I"⟩, prog_9_method_2_code, 1, some .int, [])
theorem lzM_thrown : Lz mM_thrown 0 := ⟨tb4 62 rfl, rfl, tb1 8 rfl, ⟨by decide, by decide⟩, by decide +kernel⟩
def mM_refused : ed_m := (⟨"EstateDeskModel", "refused", "(I)Z"⟩, prog_9_method_3_code, 2, some .boolean, [])
theorem lzM_refused : Lz mM_refused 1 := ⟨tb4 78 rfl, rfl, tb1 8 rfl, ⟨by decide, by decide⟩, by decide +kernel⟩
def mM_isIn : ed_m := (⟨"EstateDeskModel", "isIn", "(JJJ)Z"⟩, prog_9_method_4_code, 6, some .boolean, [])
theorem lzM_isIn : Lz mM_isIn 3 := ⟨tb4 70 rfl, rfl, tb1 8 rfl, ⟨by decide, by decide⟩, by decide +kernel⟩
def mM_isId : ed_m := (⟨"EstateDeskModel", "isId", "(I)Z"⟩, prog_9_method_5_code, 1, some .boolean, [])
theorem lzM_isId : Lz mM_isId 1 := ⟨tb4 85 rfl, rfl, tb1 8 rfl, ⟨by decide, by decide⟩, by decide +kernel⟩
def mM_isCents : ed_m := (⟨"EstateDeskModel", "isCents", "(J)Z"⟩, prog_9_method_6_code, 2, some .boolean, [])
theorem lzM_isCents : Lz mM_isCents 1 := ⟨tb4 93 rfl, rfl, tb1 8 rfl, ⟨by decide, by decide⟩, by decide +kernel⟩
def mM_isBarred : ed_m := (⟨"EstateDeskModel", "isBarred", "(ZZ)Z"⟩, prog_9_method_7_code, 3, some .boolean, [])
theorem lzM_isBarred : Lz mM_isBarred 2 := ⟨tb4 74 rfl, rfl, tb1 8 rfl, ⟨by decide, by decide⟩, by decide +kernel⟩
def mM_testator : ed_m := (⟨"EstateDeskModel", "testator", "(I)V"⟩, prog_9_method_8_code, 2, none, [])
theorem lzM_testator : Lz mM_testator 1 := ⟨tb4 66 rfl, rfl, tb1 8 rfl, ⟨by decide, by decide⟩, by decide +kernel⟩
def mM_person : ed_m := (⟨"EstateDeskModel", "person", "(II)V"⟩, prog_9_method_9_code, 3, none, [])
theorem lzM_person : Lz mM_person 2 := ⟨tb4 82 rfl, rfl, tb1 8 rfl, ⟨by decide, by decide⟩, by decide +kernel⟩
def mM_asset : ed_m := (⟨"EstateDeskModel", "asset", "(IJZ)V"⟩, prog_9_method_10_code, 6, none, [])
theorem lzM_asset : Lz mM_asset 3 := ⟨tb4 90 rfl, rfl, tb1 8 rfl, ⟨by decide, by decide⟩, by decide +kernel⟩
def mM_hasAsset : ed_m := (⟨"EstateDeskModel", "hasAsset", "(I)Z"⟩, prog_9_method_11_code, 2, some .boolean, [])
theorem lzM_hasAsset : Lz mM_hasAsset 1 := ⟨tb4 102 rfl, rfl, tb1 8 rfl, ⟨by decide, by decide⟩, by decide +kernel⟩
def mM_revalue : ed_m := (⟨"EstateDeskModel", "revalue", "(IJ)J"⟩, prog_9_method_12_code, 6, some .long, [])
theorem lzM_revalue : Lz mM_revalue 2 := ⟨tb4 98 rfl, rfl, tb1 8 rfl, ⟨by decide, by decide⟩, by decide +kernel⟩
def mM_gone : ed_m := (⟨"EstateDeskModel", "gone", "(I)V"⟩, prog_9_method_13_code, 2, none, [])
theorem lzM_gone : Lz mM_gone 1 := ⟨tb4 106 rfl, rfl, tb1 8 rfl, ⟨by decide, by decide⟩, by decide +kernel⟩
def mM_isHad : ed_m := (⟨"EstateDeskModel", "isHad", "(IIZ)Z"⟩, prog_9_method_14_code, 7, some .boolean, [])
theorem lzM_isHad : Lz mM_isHad 3 := ⟨tb4 114 rfl, rfl, tb1 8 rfl, ⟨by decide, by decide⟩, by decide +kernel⟩
def mM_tell : ed_m := (⟨"EstateDeskModel", "tell", "(IIIJI)V"⟩, prog_9_method_15_code, 7, none, [])
theorem lzM_tell : Lz mM_tell 5 := ⟨tb4 118 rfl, rfl, tb1 8 rfl, ⟨by decide, by decide⟩, by decide +kernel⟩
def mM_gift : ed_m := (⟨"EstateDeskModel", "gift", "(II)V"⟩, prog_9_method_16_code, 4, none, [])
theorem lzM_gift : Lz mM_gift 2 := ⟨tb4 110 rfl, rfl, tb1 8 rfl, ⟨by decide, by decide⟩, by decide +kernel⟩
def mM_legacy : ed_m := (⟨"EstateDeskModel", "legacy", "(IJI)V"⟩, prog_9_method_17_code, 6, none, [])
theorem lzM_legacy : Lz mM_legacy 3 := ⟨tb4 122 rfl, rfl, tb1 8 rfl, ⟨by decide, by decide⟩, by decide +kernel⟩
def mM_annuity : ed_m := (⟨"EstateDeskModel", "annuity", "(IJI)V"⟩, prog_9_method_18_code, 5, none, [])
theorem lzM_annuity : Lz mM_annuity 3 := ⟨tb4 126 rfl, rfl, tb1 8 rfl, ⟨by decide, by decide⟩, by decide +kernel⟩
def mM_residue : ed_m := (⟨"EstateDeskModel", "residue", "(II)V"⟩, prog_9_method_19_code, 3, none, [])
theorem lzM_residue : Lz mM_residue 2 := ⟨tb4 132 rfl, rfl, tb1 8 rfl, ⟨by decide, by decide⟩, by decide +kernel⟩
def mM_strike : ed_m := (⟨"EstateDeskModel", "strike", "(I)V"⟩, prog_9_method_20_code, 2, none, [])
theorem lzM_strike : Lz mM_strike 1 := ⟨tb4 137 rfl, rfl, tb1 8 rfl, ⟨by decide, by decide⟩, by decide +kernel⟩
def mM_taker : ed_m := (⟨"EstateDeskModel", "taker", "(III)V"⟩, prog_9_method_21_code, 4, none, [])
theorem lzM_taker : Lz mM_taker 3 := ⟨tb4 141 rfl, rfl, tb1 8 rfl, ⟨by decide, by decide⟩, by decide +kernel⟩
def mM_charge : ed_m := (⟨"EstateDeskModel", "charge", "(IZ)V"⟩, prog_9_method_22_code, 3, none, [])
theorem lzM_charge : Lz mM_charge 2 := ⟨tb4 146 rfl, rfl, tb1 8 rfl, ⟨by decide, by decide⟩, by decide +kernel⟩
def mM_debt : ed_m := (⟨"EstateDeskModel", "debt", "(IJI)V"⟩, prog_9_method_23_code, 5, none, [])
theorem lzM_debt : Lz mM_debt 3 := ⟨tb4 150 rfl, rfl, tb1 8 rfl, ⟨by decide, by decide⟩, by decide +kernel⟩
def mM_split : ed_m := (⟨"EstateDeskModel", "split", "(J)V"⟩, prog_9_method_24_code, 9, none, [])
theorem lzM_split : Lz mM_split 1 := ⟨tb4 207 rfl, rfl, tb1 8 rfl, ⟨by decide, by decide⟩, by decide +kernel⟩
def mM_share : ed_m := (⟨"EstateDeskModel", "share", "(IJJ)V"⟩, prog_9_method_25_code, 15, none, [])
theorem lzM_share : Lz mM_share 3 := ⟨tb4 212 rfl, rfl, tb1 8 rfl, ⟨by decide, by decide⟩, by decide +kernel⟩
def mM_outlived : ed_m := (⟨"EstateDeskModel", "outlived", "(I)Z"⟩, prog_9_method_26_code, 2, some .boolean, [])
theorem lzM_outlived : Lz mM_outlived 1 := ⟨tb4 166 rfl, rfl, tb1 8 rfl, ⟨by decide, by decide⟩, by decide +kernel⟩
def mM_takerOf : ed_m := (⟨"EstateDeskModel", "takerOf", "(I)I"⟩, prog_9_method_27_code, 4, some .int, [])
theorem lzM_takerOf : Lz mM_takerOf 1 := ⟨tb4 162 rfl, rfl, tb1 8 rfl, ⟨by decide, by decide⟩, by decide +kernel⟩
def mM_table : ed_m := (⟨"EstateDeskModel", "table", "(JI)J"⟩, prog_9_method_28_code, 8, some .long, [])
theorem lzM_table : Lz mM_table 2 := ⟨tb4 189 rfl, rfl, tb1 8 rfl, ⟨by decide, by decide⟩, by decide +kernel⟩
def mM_findStates : ed_m := (⟨"EstateDeskModel", "findStates", "()V"⟩, prog_9_method_29_code, 3, none, [])
theorem lzM_findStates : Lz mM_findStates 0 := ⟨tb4 158 rfl, rfl, tb1 8 rfl, ⟨by decide, by decide⟩, by decide +kernel⟩
def mM_isGood : ed_m := (⟨"EstateDeskModel", "isGood", "(II)Z"⟩, prog_9_method_30_code, 3, some .boolean, [])
theorem lzM_isGood : Lz mM_isGood 2 := ⟨tb4 178 rfl, rfl, tb1 8 rfl, ⟨by decide, by decide⟩, by decide +kernel⟩
def mM_giftOf : ed_m := (⟨"EstateDeskModel", "giftOf", "(I)I"⟩, prog_9_method_31_code, 4, some .int, [])
theorem lzM_giftOf : Lz mM_giftOf 1 := ⟨tb4 174 rfl, rfl, tb1 8 rfl, ⟨by decide, by decide⟩, by decide +kernel⟩
def mM_findOwn : ed_m := (⟨"EstateDeskModel", "findOwn", "()V"⟩, prog_9_method_32_code, 9, none, [])
theorem lzM_findOwn : Lz mM_findOwn 0 := ⟨tb4 170 rfl, rfl, tb1 8 rfl, ⟨by decide, by decide⟩, by decide +kernel⟩
def mM_ownOf : ed_m := (⟨"EstateDeskModel", "ownOf", "(I)J"⟩, prog_9_method_33_code, 5, some .long, [])
theorem lzM_ownOf : Lz mM_ownOf 1 := ⟨tb4 186 rfl, rfl, tb1 8 rfl, ⟨by decide, by decide⟩, by decide +kernel⟩
def mM_findValues : ed_m := (⟨"EstateDeskModel", "findValues", "()V"⟩, prog_9_method_34_code, 5, none, [])
theorem lzM_findValues : Lz mM_findValues 0 := ⟨tb4 182 rfl, rfl, tb1 8 rfl, ⟨by decide, by decide⟩, by decide +kernel⟩
def mM_lesser : ed_m := (⟨"EstateDeskModel", "lesser", "(JJ)J"⟩, prog_9_method_35_code, 4, some .long, [])
theorem lzM_lesser : Lz mM_lesser 2 := ⟨tb4 216 rfl, rfl, tb1 8 rfl, ⟨by decide, by decide⟩, by decide +kernel⟩
def mM_notBelow0 : ed_m := (⟨"EstateDeskModel", "notBelow0", "(J)J"⟩, prog_9_method_36_code, 2, some .long, [])
theorem lzM_notBelow0 : Lz mM_notBelow0 1 := ⟨tb4 199 rfl, rfl, tb1 8 rfl, ⟨by decide, by decide⟩, by decide +kernel⟩
def mM_bear : ed_m := (⟨"EstateDeskModel", "bear", "(IJ)V"⟩, prog_9_method_37_code, 6, none, [])
theorem lzM_bear : Lz mM_bear 2 := ⟨tb4 220 rfl, rfl, tb1 8 rfl, ⟨by decide, by decide⟩, by decide +kernel⟩
def mM_shareResidue : ed_m := (⟨"EstateDeskModel", "shareResidue", "(J)V"⟩, prog_9_method_38_code, 6, none, [])
theorem lzM_shareResidue : Lz mM_shareResidue 1 := ⟨tb4 224 rfl, rfl, tb1 8 rfl, ⟨by decide, by decide⟩, by decide +kernel⟩
def mM_hand : ed_m := (⟨"EstateDeskModel", "hand", "()V"⟩, prog_9_method_39_code, 3, none, [])
theorem lzM_hand : Lz mM_hand 0 := ⟨tb4 228 rfl, rfl, tb1 8 rfl, ⟨by decide, by decide⟩, by decide +kernel⟩
def mM_spread : ed_m := (⟨"EstateDeskModel", "spread", "(J)V"⟩, prog_9_method_40_code, 4, none, [])
theorem lzM_spread : Lz mM_spread 1 := ⟨tb4 203 rfl, rfl, tb1 8 rfl, ⟨by decide, by decide⟩, by decide +kernel⟩
def mM_addUp : ed_m := (⟨"EstateDeskModel", "addUp", "()V"⟩, prog_9_method_41_code, 3, none, [])
theorem lzM_addUp : Lz mM_addUp 0 := ⟨tb4 196 rfl, rfl, tb1 8 rfl, ⟨by decide, by decide⟩, by decide +kernel⟩
def mM_settle : ed_m := (⟨"EstateDeskModel", "settle", "()J"⟩, prog_9_method_42_code, 16, some .long, [])
theorem lzM_settle : Lz mM_settle 0 := ⟨tb4 154 rfl, rfl, tb1 8 rfl, ⟨by decide, by decide⟩, by decide +kernel⟩
def mM_isWrong : ed_m := (⟨"EstateDeskModel", "isWrong", "(Z)Z"⟩, prog_9_method_43_code, 2, some .boolean, [])
theorem lzM_isWrong : Lz mM_isWrong 1 := ⟨tb4 236 rfl, rfl, tb1 8 rfl, ⟨by decide, by decide⟩, by decide +kernel⟩
def mM_gets : ed_m := (⟨"EstateDeskModel", "gets", "(II)J"⟩, prog_9_method_44_code, 3, some .long, [])
theorem lzM_gets : Lz mM_gets 2 := ⟨tb4 232 rfl, rfl, tb1 8 rfl, ⟨by decide, by decide⟩, by decide +kernel⟩
def mM_assetTo : ed_m := (⟨"EstateDeskModel", "assetTo", "(I)I"⟩, prog_9_method_45_code, 2, some .int, [])
theorem lzM_assetTo : Lz mM_assetTo 1 := ⟨tb5 0 rfl, rfl, tb1 8 rfl, ⟨by decide, by decide⟩, by decide +kernel⟩
def mM_clauseState : ed_m := (⟨"EstateDeskModel", "clauseState", "(I)I"⟩, prog_9_method_46_code, 2, some .int, [])
theorem lzM_clauseState : Lz mM_clauseState 1 := ⟨tb5 4 rfl, rfl, tb1 8 rfl, ⟨by decide, by decide⟩, by decide +kernel⟩
def mM_told : ed_m := (⟨"EstateDeskModel", "told", "(II)J"⟩, prog_9_method_47_code, 3, some .long, [])
theorem lzM_told : Lz mM_told 2 := ⟨tb5 8 rfl, rfl, tb1 8 rfl, ⟨by decide, by decide⟩, by decide +kernel⟩
def mM_paid : ed_m := (⟨"EstateDeskModel", "paid", "(I)J"⟩, prog_9_method_48_code, 2, some .long, [])
theorem lzM_paid : Lz mM_paid 1 := ⟨tb5 12 rfl, rfl, tb1 8 rfl, ⟨by decide, by decide⟩, by decide +kernel⟩
def mM_sum : ed_m := (⟨"EstateDeskModel", "sum", "(I)J"⟩, prog_9_method_49_code, 2, some .long, [])
theorem lzM_sum : Lz mM_sum 1 := ⟨tb5 16 rfl, rfl, tb1 8 rfl, ⟨by decide, by decide⟩, by decide +kernel⟩
def mM_close : ed_m := (⟨"EstateDeskModel", "close", "()V"⟩, prog_9_method_50_code, 1, none, [])
theorem lzM_close : Lz mM_close 0 := ⟨tb5 21 rfl, rfl, tb1 8 rfl, ⟨by decide, by decide⟩, by decide +kernel⟩
def mM_worth : ed_m := (⟨"EstateDeskModel", "worth", "(JI)J"⟩, prog_9_method_51_code, 5, some .long, [])
theorem lzM_worth : Lz mM_worth 2 := ⟨tb5 25 rfl, rfl, tb1 8 rfl, ⟨by decide, by decide⟩, by decide +kernel⟩
def mA_init : ed_m := (⟨"EstateDesk$Assets", "<init>", "()V"⟩, prog_2_method_1_code, 1, none, [])
theorem lzA_init : Lz mA_init 0 := ⟨tb1 60 rfl, rfl, tb1 3 rfl, ⟨by decide, by decide⟩, by decide +kernel⟩
def mA_isThere : ed_m := (⟨"EstateDesk$Assets", "isThere", "(I)Z"⟩, prog_2_method_2_code, 2, some .boolean, [])
theorem lzA_isThere : Lz mA_isThere 1 := ⟨tb3 24 rfl, rfl, tb1 3 rfl, ⟨by decide, by decide⟩, by decide +kernel⟩
def mA_forgetSettling : ed_m := (⟨"EstateDesk$Assets", "forgetSettling", "()V"⟩, prog_2_method_3_code, 2, none, [])
theorem lzA_forgetSettling : Lz mA_forgetSettling 0 := ⟨tb3 20 rfl, rfl, tb1 3 rfl, ⟨by decide, by decide⟩, by decide +kernel⟩
def mA_takeOut : ed_m := (⟨"EstateDesk$Assets", "takeOut", "(IJ)J"⟩, prog_2_method_4_code, 6, some .long, [])
theorem lzA_takeOut : Lz mA_takeOut 2 := ⟨tb3 57 rfl, rfl, tb1 3 rfl, ⟨by decide, by decide⟩, by decide +kernel⟩
def mC_init : ed_m := (⟨"EstateDesk$Clauses", "<init>", "()V"⟩, prog_3_method_1_code, 1, none, [])
theorem lzC_init : Lz mC_init 0 := ⟨tb1 99 rfl, rfl, tb1 4 rfl, ⟨by decide, by decide⟩, by decide +kernel⟩
def mC_write : ed_m := (⟨"EstateDesk$Clauses", "write", "(IIJI)V"⟩, prog_3_method_2_code, 6, none, [])
theorem lzC_write : Lz mC_write 4 := ⟨tb2 171 rfl, rfl, tb1 4 rfl, ⟨by decide, by decide⟩, by decide +kernel⟩
def mC_anotherHas : ed_m := (⟨"EstateDesk$Clauses", "anotherHas", "(II)Z"⟩, prog_3_method_3_code, 4, some .boolean, [])
theorem lzC_anotherHas : Lz mC_anotherHas 2 := ⟨tb2 167 rfl, rfl, tb1 4 rfl, ⟨by decide, by decide⟩, by decide +kernel⟩
def mC_anotherGives : ed_m := (⟨"EstateDesk$Clauses", "anotherGives", "(II)Z"⟩, prog_3_method_4_code, 4, some .boolean, [])
theorem lzC_anotherGives : Lz mC_anotherGives 2 := ⟨tb2 186 rfl, rfl, tb1 4 rfl, ⟨by decide, by decide⟩, by decide +kernel⟩
def mC_worthInAll : ed_m := (⟨"EstateDesk$Clauses", "worthInAll", "(I)J"⟩, prog_3_method_5_code, 2, some .long, [])
theorem lzC_worthInAll : Lz mC_worthInAll 1 := ⟨tb3 104 rfl, rfl, tb1 4 rfl, ⟨by decide, by decide⟩, by decide +kernel⟩
def mC_forgetSettling : ed_m := (⟨"EstateDesk$Clauses", "forgetSettling", "()V"⟩, prog_3_method_6_code, 1, none, [])
theorem lzC_forgetSettling : Lz mC_forgetSettling 0 := ⟨tb3 31 rfl, rfl, tb1 4 rfl, ⟨by decide, by decide⟩, by decide +kernel⟩
def mB_init : ed_m := (⟨"EstateDesk$Debts", "<init>", "()V"⟩, prog_4_method_1_code, 1, none, [])
theorem lzB_init : Lz mB_init 0 := ⟨tb1 168 rfl, rfl, tb1 5 rfl, ⟨by decide, by decide⟩, by decide +kernel⟩
def mP_init : ed_m := (⟨"EstateDesk$Persons", "<init>", "()V"⟩, prog_5_method_1_code, 1, none, [])
theorem lzP_init : Lz mP_init 0 := ⟨tb1 28 rfl, rfl, tb1 2 rfl, ⟨by decide, by decide⟩, by decide +kernel⟩
def mP_outlived : ed_m := (⟨"EstateDesk$Persons", "outlived", "(I)Z"⟩, prog_5_method_2_code, 2, some .boolean, [])
theorem lzP_outlived : Lz mP_outlived 1 := ⟨tb3 45 rfl, rfl, tb1 2 rfl, ⟨by decide, by decide⟩, by decide +kernel⟩
def mP_forgetSettling : ed_m := (⟨"EstateDesk$Persons", "forgetSettling", "()V"⟩, prog_5_method_3_code, 1, none, [])
theorem lzP_forgetSettling : Lz mP_forgetSettling 0 := ⟨tb3 13 rfl, rfl, tb1 2 rfl, ⟨by decide, by decide⟩, by decide +kernel⟩
def mS_init : ed_m := (⟨"EstateDesk$Settling", "<init>", "(LEstateDesk$Persons;LEstateDesk$Assets;LEstateDesk$Clauses;LEstateDesk$Debts;)V"⟩, prog_6_method_1_code, 5, none, [])
theorem lzS_init : Lz mS_init 4 := ⟨tb1 194 rfl, rfl, tb1 6 rfl, ⟨by decide, by decide⟩, by decide +kernel⟩
def mS_run : ed_m := (⟨"EstateDesk$Settling", "run", "()V"⟩, prog_6_method_2_code, 3, none, [])
theorem lzS_run : Lz mS_run 0 := ⟨tb3 9 rfl, rfl, tb1 6 rfl, ⟨by decide, by decide⟩, by decide +kernel⟩
def mS_judgeClauses : ed_m := (⟨"EstateDesk$Settling", "judgeClauses", "()V"⟩, prog_6_method_3_code, 2, none, [])
theorem lzS_judgeClauses : Lz mS_judgeClauses 0 := ⟨tb3 37 rfl, rfl, tb1 6 rfl, ⟨by decide, by decide⟩, by decide +kernel⟩
def mS_judge : ed_m := (⟨"EstateDesk$Settling", "judge", "(II)V"⟩, prog_6_method_4_code, 5, none, [])
theorem lzS_judge : Lz mS_judge 2 := ⟨tb3 49 rfl, rfl, tb1 6 rfl, ⟨by decide, by decide⟩, by decide +kernel⟩
def mS_firstWhoOutlived : ed_m := (⟨"EstateDesk$Settling", "firstWhoOutlived", "([I)I"⟩, prog_6_method_5_code, 3, some .int, [])
theorem lzS_firstWhoOutlived : Lz mS_firstWhoOutlived 1 := ⟨tb3 41 rfl, rfl, tb1 6 rfl, ⟨by decide, by decide⟩, by decide +kernel⟩
def mS_divideDebts : ed_m := (⟨"EstateDesk$Settling", "divideDebts", "()V"⟩, prog_6_method_6_code, 8, none, [])
theorem lzS_divideDebts : Lz mS_divideDebts 0 := ⟨tb3 53 rfl, rfl, tb1 6 rfl, ⟨by decide, by decide⟩, by decide +kernel⟩
def mS_valueClauses : ed_m := (⟨"EstateDesk$Settling", "valueClauses", "()V"⟩, prog_6_method_7_code, 2, none, [])
theorem lzS_valueClauses : Lz mS_valueClauses 0 := ⟨tb3 64 rfl, rfl, tb1 6 rfl, ⟨by decide, by decide⟩, by decide +kernel⟩
def mS_valueGood : ed_m := (⟨"EstateDesk$Settling", "valueGood", "(I)V"⟩, prog_6_method_8_code, 5, none, [])
theorem lzS_valueGood : Lz mS_valueGood 1 := ⟨tb3 68 rfl, rfl, tb1 6 rfl, ⟨by decide, by decide⟩, by decide +kernel⟩
def mS_addUp : ed_m := (⟨"EstateDesk$Settling", "addUp", "()V"⟩, prog_6_method_9_code, 2, none, [])
theorem lzS_addUp : Lz mS_addUp 0 := ⟨tb3 72 rfl, rfl, tb1 6 rfl, ⟨by decide, by decide⟩, by decide +kernel⟩
def mS_payInProportion : ed_m := (⟨"EstateDesk$Settling", "payInProportion", "(J)V"⟩, prog_6_method_10_code, 4, none, [])
theorem lzS_payInProportion : Lz mS_payInProportion 1 := ⟨tb3 83 rfl, rfl, tb1 6 rfl, ⟨by decide, by decide⟩, by decide +kernel⟩
def mS_abateByClass : ed_m := (⟨"EstateDesk$Settling", "abateByClass", "()V"⟩, prog_6_method_11_code, 8, none, [])
theorem lzS_abateByClass : Lz mS_abateByClass 0 := ⟨tb3 108 rfl, rfl, tb1 6 rfl, ⟨by decide, by decide⟩, by decide +kernel⟩
def mS_bear : ed_m := (⟨"EstateDesk$Settling", "bear", "([JJ)V"⟩, prog_6_method_12_code, 5, none, [])
theorem lzS_bear : Lz mS_bear 2 := ⟨tb3 113 rfl, rfl, tb1 6 rfl, ⟨by decide, by decide⟩, by decide +kernel⟩
def mS_shareResidue : ed_m := (⟨"EstateDesk$Settling", "shareResidue", "()V"⟩, prog_6_method_13_code, 2, none, [])
theorem lzS_shareResidue : Lz mS_shareResidue 0 := ⟨tb3 117 rfl, rfl, tb1 6 rfl, ⟨by decide, by decide⟩, by decide +kernel⟩
def mS_handOut : ed_m := (⟨"EstateDesk$Settling", "handOut", "()V"⟩, prog_6_method_14_code, 4, none, [])
theorem lzS_handOut : Lz mS_handOut 0 := ⟨tb3 121 rfl, rfl, tb1 6 rfl, ⟨by decide, by decide⟩, by decide +kernel⟩
def mT_init : ed_m := (⟨"EstateDesk$Split", "<init>", "()V"⟩, prog_7_method_1_code, 1, none, [])
theorem lzT_init : Lz mT_init 0 := ⟨tb1 200 rfl, rfl, tb1 7 rfl, ⟨by decide, by decide⟩, by decide +kernel⟩
def mT_among : ed_m := (⟨"EstateDesk$Split", "among", "([JJ)V"⟩, prog_7_method_2_code, 10, none, [])
theorem lzT_among : Lz mT_among 2 := ⟨tb3 87 rfl, rfl, tb1 7 rfl, ⟨by decide, by decide⟩, by decide +kernel⟩
def mT_cut : ed_m := (⟨"EstateDesk$Split", "cut", "(IJJJ)V"⟩, prog_7_method_3_code, 16, none, [])
theorem lzT_cut : Lz mT_cut 4 := ⟨tb3 93 rfl, rfl, tb1 7 rfl, ⟨by decide, by decide⟩, by decide +kernel⟩
def mT_greatestRest : ed_m := (⟨"EstateDesk$Split", "greatestRest", "()I"⟩, prog_7_method_4_code, 3, some .int, [])
theorem lzT_greatestRest : Lz mT_greatestRest 0 := ⟨tb3 99 rfl, rfl, tb1 7 rfl, ⟨by decide, by decide⟩, by decide +kernel⟩
def mL_testator : ed_m := (⟨"EstateDeskLaw", "testator", "(LEstateDesk;I)I"⟩, method_3_code, 3, some .int, [(0, 5, 8, 13), (0, 5, 11, 15)])
theorem lzL_testator : Lz mL_testator 2 := ⟨tb2 21 rfl, rfl, tb1 0 rfl, ⟨by decide, by decide⟩, by decide +kernel⟩
def mL_person : ed_m := (⟨"EstateDeskLaw", "person", "(LEstateDesk;II)I"⟩, method_4_code, 4, some .int, [(0, 6, 9, 13), (0, 6, 12, 15)])
theorem lzL_person : Lz mL_person 3 := ⟨tb2 125 rfl, rfl, tb1 0 rfl, ⟨by decide, by decide⟩, by decide +kernel⟩
def mL_asset : ed_m := (⟨"EstateDeskLaw", "asset", "(LEstateDesk;IJZ)I"⟩, method_5_code, 6, some .int, [(0, 8, 11, 13), (0, 8, 15, 15)])
theorem lzL_asset : Lz mL_asset 4 := ⟨tb2 133 rfl, rfl, tb1 0 rfl, ⟨by decide, by decide⟩, by decide +kernel⟩
def mL_revalue : ed_m := (⟨"EstateDeskLaw", "revalue", "(LEstateDesk;IJ[J)I"⟩, method_6_code, 6, some .int, [(0, 10, 13, 13), (0, 10, 17, 15)])
theorem lzL_revalue : Lz mL_revalue 4 := ⟨tb2 141 rfl, rfl, tb1 0 rfl, ⟨by decide, by decide⟩, by decide +kernel⟩
def mL_gone : ed_m := (⟨"EstateDeskLaw", "gone", "(LEstateDesk;I)I"⟩, method_7_code, 3, some .int, [(0, 5, 8, 13), (0, 5, 11, 15)])
theorem lzL_gone : Lz mL_gone 2 := ⟨tb2 152 rfl, rfl, tb1 0 rfl, ⟨by decide, by decide⟩, by decide +kernel⟩
def mL_gift : ed_m := (⟨"EstateDeskLaw", "gift", "(LEstateDesk;II)I"⟩, method_8_code, 4, some .int, [(0, 6, 9, 13), (0, 6, 12, 15)])
theorem lzL_gift : Lz mL_gift 3 := ⟨tb2 159 rfl, rfl, tb1 0 rfl, ⟨by decide, by decide⟩, by decide +kernel⟩
def mL_legacy : ed_m := (⟨"EstateDeskLaw", "legacy", "(LEstateDesk;IJI)I"⟩, method_9_code, 6, some .int, [(0, 8, 11, 13), (0, 8, 15, 15)])
theorem lzL_legacy : Lz mL_legacy 4 := ⟨tb2 174 rfl, rfl, tb1 0 rfl, ⟨by decide, by decide⟩, by decide +kernel⟩
def mL_annuity : ed_m := (⟨"EstateDeskLaw", "annuity", "(LEstateDesk;IJI)I"⟩, method_10_code, 6, some .int, [(0, 8, 11, 13), (0, 8, 15, 15)])
theorem lzL_annuity : Lz mL_annuity 4 := ⟨tb2 189 rfl, rfl, tb1 0 rfl, ⟨by decide, by decide⟩, by decide +kernel⟩
def mL_residue : ed_m := (⟨"EstateDeskLaw", "residue", "(LEstateDesk;II)I"⟩, method_11_code, 4, some .int, [(0, 6, 9, 13), (0, 6, 12, 15)])
theorem lzL_residue : Lz mL_residue 3 := ⟨tb2 204 rfl, rfl, tb1 0 rfl, ⟨by decide, by decide⟩, by decide +kernel⟩
def mL_strike : ed_m := (⟨"EstateDeskLaw", "strike", "(LEstateDesk;I)I"⟩, method_12_code, 3, some .int, [(0, 5, 8, 13), (0, 5, 11, 15)])
theorem lzL_strike : Lz mL_strike 2 := ⟨tb2 212 rfl, rfl, tb1 0 rfl, ⟨by decide, by decide⟩, by decide +kernel⟩
def mL_taker : ed_m := (⟨"EstateDeskLaw", "taker", "(LEstateDesk;III)I"⟩, method_13_code, 5, some .int, [(0, 7, 10, 13), (0, 7, 14, 15)])
theorem lzL_taker : Lz mL_taker 4 := ⟨tb2 219 rfl, rfl, tb1 0 rfl, ⟨by decide, by decide⟩, by decide +kernel⟩
def mL_charge : ed_m := (⟨"EstateDeskLaw", "charge", "(LEstateDesk;IZ)I"⟩, method_14_code, 4, some .int, [(0, 6, 9, 13), (0, 6, 12, 15)])
theorem lzL_charge : Lz mL_charge 3 := ⟨tb2 227 rfl, rfl, tb1 0 rfl, ⟨by decide, by decide⟩, by decide +kernel⟩
def mL_debt : ed_m := (⟨"EstateDeskLaw", "debt", "(LEstateDesk;IJI)I"⟩, method_15_code, 6, some .int, [(0, 8, 11, 13), (0, 8, 15, 15)])
theorem lzL_debt : Lz mL_debt 4 := ⟨tb2 234 rfl, rfl, tb1 0 rfl, ⟨by decide, by decide⟩, by decide +kernel⟩
def mL_settle : ed_m := (⟨"EstateDeskLaw", "settle", "(LEstateDesk;[J)I"⟩, method_16_code, 3, some .int, [(0, 7, 10, 15)])
theorem lzL_settle : Lz mL_settle 2 := ⟨tb3 1 rfl, rfl, tb1 0 rfl, ⟨by decide, by decide⟩, by decide +kernel⟩
def mL_gets : ed_m := (⟨"EstateDeskLaw", "gets", "(LEstateDesk;II[J)I"⟩, method_17_code, 5, some .int, [(0, 9, 12, 13), (0, 9, 16, 15)])
theorem lzL_gets : Lz mL_gets 4 := ⟨tb3 124 rfl, rfl, tb1 0 rfl, ⟨by decide, by decide⟩, by decide +kernel⟩
def mL_assetTo : ed_m := (⟨"EstateDeskLaw", "assetTo", "(LEstateDesk;I[J)I"⟩, method_18_code, 4, some .int, [(0, 9, 12, 13), (0, 9, 15, 15)])
theorem lzL_assetTo : Lz mL_assetTo 3 := ⟨tb3 132 rfl, rfl, tb1 0 rfl, ⟨by decide, by decide⟩, by decide +kernel⟩
def mL_clauseState : ed_m := (⟨"EstateDeskLaw", "clauseState", "(LEstateDesk;I[J)I"⟩, method_19_code, 4, some .int, [(0, 9, 12, 13), (0, 9, 15, 15)])
theorem lzL_clauseState : Lz mL_clauseState 3 := ⟨tb3 139 rfl, rfl, tb1 0 rfl, ⟨by decide, by decide⟩, by decide +kernel⟩
def mL_told : ed_m := (⟨"EstateDeskLaw", "told", "(LEstateDesk;II[J)I"⟩, method_20_code, 5, some .int, [(0, 9, 12, 13), (0, 9, 16, 15)])
theorem lzL_told : Lz mL_told 4 := ⟨tb3 146 rfl, rfl, tb1 0 rfl, ⟨by decide, by decide⟩, by decide +kernel⟩
def mL_paid : ed_m := (⟨"EstateDeskLaw", "paid", "(LEstateDesk;I[J)I"⟩, method_21_code, 4, some .int, [(0, 8, 11, 13), (0, 8, 14, 15)])
theorem lzL_paid : Lz mL_paid 3 := ⟨tb3 154 rfl, rfl, tb1 0 rfl, ⟨by decide, by decide⟩, by decide +kernel⟩
def mL_sum : ed_m := (⟨"EstateDeskLaw", "sum", "(LEstateDesk;I[J)I"⟩, method_22_code, 4, some .int, [(0, 8, 11, 13), (0, 8, 14, 15)])
theorem lzL_sum : Lz mL_sum 3 := ⟨tb3 161 rfl, rfl, tb1 0 rfl, ⟨by decide, by decide⟩, by decide +kernel⟩
def mL_close : ed_m := (⟨"EstateDeskLaw", "close", "(LEstateDesk;)I"⟩, method_23_code, 2, some .int, [(0, 4, 7, 15)])
theorem lzL_close : Lz mL_close 1 := ⟨tb3 169 rfl, rfl, tb1 0 rfl, ⟨by decide, by decide⟩, by decide +kernel⟩
def mL_worth : ed_m := (⟨"EstateDeskLaw", "worth", "(LEstateDesk;JI[J)I"⟩, method_24_code, 6, some .int, [(0, 10, 13, 13)])
theorem lzL_worth : Lz mL_worth 4 := ⟨tb3 176 rfl, rfl, tb1 0 rfl, ⟨by decide, by decide⟩, by decide +kernel⟩
def mL_law : ed_m := (⟨"EstateDeskLaw", "law", "([I)Z"⟩, code, 8, some .boolean, [])
def mJ_fillI : ed_m := (⟨"java/util/Arrays", "fill", "([II)V"⟩, prog_16_method_103_code, 4, none, [])
theorem lzJ_fillI : Lz mJ_fillI 2 := ⟨tb3 27 rfl, rfl, tb1 14 rfl, ⟨by decide, by decide⟩, by decide +kernel⟩
def mJ_fillL : ed_m := (⟨"java/util/Arrays", "fill", "([JJ)V"⟩, prog_16_method_101_code, 5, none, [])
theorem lzJ_fillL : Lz mJ_fillL 2 := ⟨tb3 16 rfl, rfl, tb1 14 rfl, ⟨by decide, by decide⟩, by decide +kernel⟩
def mJ_max : ed_m := (⟨"java/lang/Math", "max", "(JJ)J"⟩, prog_13_method_66_code, 4, some .long, [])
theorem lzJ_max : Lz mJ_max 2 := ⟨tb3 79 rfl, rfl, tb1 15 rfl, ⟨by decide, by decide⟩, by decide +kernel⟩
def mJ_min : ed_m := (⟨"java/lang/Math", "min", "(JJ)J"⟩, prog_13_method_70_code, 4, some .long, [])
theorem lzJ_min : Lz mJ_min 2 := ⟨tb3 60 rfl, rfl, tb1 15 rfl, ⟨by decide, by decide⟩, by decide +kernel⟩
end
section
theorem dA_init_0 : Dv mA_init 0 .aload_n .aload 0 1 := Or.inl ⟨0, by decide +kernel, rfl, rfl⟩
theorem dA_init_1 : Dn mA_init 1 (.invokespecial 3) 3 4 := ⟨by decide +kernel, rfl⟩
theorem dA_init_4 : Dv mA_init 4 .aload_n .aload 0 5 := Or.inl ⟨0, by decide +kernel, rfl, rfl⟩
theorem dA_init_5 : Dk mA_init 5 41 7 := Or.inr (Or.inl ⟨41, by decide +kernel, by decide +kernel, rfl⟩)
theorem dA_init_7 : Dn mA_init 7 (.newarray .boolean) 2 9 := ⟨by decide +kernel, rfl⟩
theorem dA_init_9 : Dfp mA_init 9 2 0 12 := ⟨9, ("EstateDesk$Assets", eT2, 7), by decide +kernel, rfl, rfl, by decide, rfl, tb1 62 rfl⟩
theorem dA_init_12 : Dv mA_init 12 .aload_n .aload 0 13 := Or.inl ⟨0, by decide +kernel, rfl, rfl⟩
theorem dA_init_13 : Dk mA_init 13 41 15 := Or.inr (Or.inl ⟨41, by decide +kernel, by decide +kernel, rfl⟩)
theorem dA_init_15 : Dn mA_init 15 (.newarray .long) 2 17 := ⟨by decide +kernel, rfl⟩
theorem dA_init_17 : Dfp mA_init 17 2 1 20 := ⟨15, ("EstateDesk$Assets", eT2, 7), by decide +kernel, rfl, rfl, by decide, rfl, tb1 64 rfl⟩
theorem dA_init_20 : Dv mA_init 20 .aload_n .aload 0 21 := Or.inl ⟨0, by decide +kernel, rfl, rfl⟩
theorem dA_init_21 : Dk mA_init 21 41 23 := Or.inr (Or.inl ⟨41, by decide +kernel, by decide +kernel, rfl⟩)
theorem dA_init_23 : Dn mA_init 23 (.newarray .boolean) 2 25 := ⟨by decide +kernel, rfl⟩
theorem dA_init_25 : Dfp mA_init 25 2 2 28 := ⟨19, ("EstateDesk$Assets", eT2, 7), by decide +kernel, rfl, rfl, by decide, rfl, tb1 67 rfl⟩
theorem dA_init_28 : Dv mA_init 28 .aload_n .aload 0 29 := Or.inl ⟨0, by decide +kernel, rfl, rfl⟩
theorem dA_init_29 : Dk mA_init 29 41 31 := Or.inr (Or.inl ⟨41, by decide +kernel, by decide +kernel, rfl⟩)
theorem dA_init_31 : Dn mA_init 31 (.newarray .boolean) 2 33 := ⟨by decide +kernel, rfl⟩
theorem dA_init_33 : Dfp mA_init 33 2 3 36 := ⟨22, ("EstateDesk$Assets", eT2, 7), by decide +kernel, rfl, rfl, by decide, rfl, tb1 69 rfl⟩
theorem dA_init_36 : Dv mA_init 36 .aload_n .aload 0 37 := Or.inl ⟨0, by decide +kernel, rfl, rfl⟩
theorem dA_init_37 : Dk mA_init 37 41 39 := Or.inr (Or.inl ⟨41, by decide +kernel, by decide +kernel, rfl⟩)
theorem dA_init_39 : Dn mA_init 39 (.newarray .long) 2 41 := ⟨by decide +kernel, rfl⟩
theorem dA_init_41 : Dfp mA_init 41 2 4 44 := ⟨25, ("EstateDesk$Assets", eT2, 7), by decide +kernel, rfl, rfl, by decide, rfl, tb1 72 rfl⟩
theorem dA_init_44 : Dv mA_init 44 .aload_n .aload 0 45 := Or.inl ⟨0, by decide +kernel, rfl, rfl⟩
theorem dA_init_45 : Dk mA_init 45 41 47 := Or.inr (Or.inl ⟨41, by decide +kernel, by decide +kernel, rfl⟩)
theorem dA_init_47 : Dn mA_init 47 (.newarray .int) 2 49 := ⟨by decide +kernel, rfl⟩
theorem dA_init_49 : Dfp mA_init 49 2 5 52 := ⟨28, ("EstateDesk$Assets", eT2, 7), by decide +kernel, rfl, rfl, by decide, rfl, tb1 74 rfl⟩
theorem dA_init_52 : Dv mA_init 52 .aload_n .aload 0 53 := Or.inl ⟨0, by decide +kernel, rfl, rfl⟩
theorem dA_init_53 : Dk mA_init 53 41 55 := Or.inr (Or.inl ⟨41, by decide +kernel, by decide +kernel, rfl⟩)
theorem dA_init_55 : Dn mA_init 55 (.newarray .int) 2 57 := ⟨by decide +kernel, rfl⟩
theorem dA_init_57 : Dfp mA_init 57 2 6 60 := ⟨32, ("EstateDesk$Assets", eT2, 7), by decide +kernel, rfl, rfl, by decide, rfl, tb1 76 rfl⟩
theorem dA_init_60 : Dn mA_init 60 .return_ 1 61 := ⟨by decide +kernel, rfl⟩
theorem dA_isThere_0 : Dv mA_isThere 0 .aload_n .aload 0 1 := Or.inl ⟨0, by decide +kernel, rfl, rfl⟩
theorem dA_isThere_1 : Df mA_isThere 1 .getfield 2 0 4 := ⟨9, ("EstateDesk$Assets", eT2, 7), by decide +kernel, rfl, rfl, by decide, rfl, Or.inl (tb1 62 rfl)⟩
theorem dA_isThere_4 : Dv mA_isThere 4 .iload_n .iload 1 5 := Or.inl ⟨1, by decide +kernel, rfl, rfl⟩
theorem dA_isThere_5 : Dn mA_isThere 5 .baload 1 6 := ⟨by decide +kernel, rfl⟩
theorem dA_isThere_6 : Dj mA_isThere 6 (.ifCond .eq) 9 22 := ⟨16, by decide +kernel, rfl, rfl⟩
theorem dA_isThere_9 : Dv mA_isThere 9 .aload_n .aload 0 10 := Or.inl ⟨0, by decide +kernel, rfl, rfl⟩
theorem dA_isThere_10 : Df mA_isThere 10 .getfield 2 3 13 := ⟨22, ("EstateDesk$Assets", eT2, 7), by decide +kernel, rfl, rfl, by decide, rfl, Or.inl (tb1 69 rfl)⟩
theorem dA_isThere_13 : Dv mA_isThere 13 .iload_n .iload 1 14 := Or.inl ⟨1, by decide +kernel, rfl, rfl⟩
theorem dA_isThere_14 : Dn mA_isThere 14 .baload 1 15 := ⟨by decide +kernel, rfl⟩
theorem dA_isThere_15 : Dj mA_isThere 15 (.ifCond .ne) 18 22 := ⟨7, by decide +kernel, rfl, rfl⟩
theorem dA_isThere_18 : Dk mA_isThere 18 1 19 := Or.inl ⟨1, by decide +kernel, rfl, rfl⟩
theorem dA_isThere_19 : Dj mA_isThere 19 .goto 22 23 := ⟨4, by decide +kernel, rfl, rfl⟩
theorem dA_isThere_22 : Dk mA_isThere 22 0 23 := Or.inl ⟨0, by decide +kernel, rfl, rfl⟩
theorem dA_isThere_23 : Dn mA_isThere 23 .ireturn 1 24 := ⟨by decide +kernel, rfl⟩
theorem dA_forgetSettling_0 : Dk mA_forgetSettling 0 1 1 := Or.inl ⟨1, by decide +kernel, rfl, rfl⟩
theorem dA_forgetSettling_1 : Dv mA_forgetSettling 1 .istore_n .istore 1 2 := Or.inl ⟨1, by decide +kernel, rfl, rfl⟩
theorem dA_forgetSettling_2 : Dv mA_forgetSettling 2 .iload_n .iload 1 3 := Or.inl ⟨1, by decide +kernel, rfl, rfl⟩
theorem dA_forgetSettling_3 : Dk mA_forgetSettling 3 40 5 := Or.inr (Or.inl ⟨40, by decide +kernel, by decide +kernel, rfl⟩)
theorem dA_forgetSettling_5 : Dj mA_forgetSettling 5 (.if_icmp .gt) 8 38 := ⟨33, by decide +kernel, rfl, rfl⟩
theorem dA_forgetSettling_8 : Dv mA_forgetSettling 8 .aload_n .aload 0 9 := Or.inl ⟨0, by decide +kernel, rfl, rfl⟩
theorem dA_forgetSettling_9 : Df mA_forgetSettling 9 .getfield 2 4 12 := ⟨25, ("EstateDesk$Assets", eT2, 7), by decide +kernel, rfl, rfl, by decide, rfl, Or.inl (tb1 72 rfl)⟩
theorem dA_forgetSettling_12 : Dv mA_forgetSettling 12 .iload_n .iload 1 13 := Or.inl ⟨1, by decide +kernel, rfl, rfl⟩
theorem dA_forgetSettling_13 : Dv mA_forgetSettling 13 .aload_n .aload 0 14 := Or.inl ⟨0, by decide +kernel, rfl, rfl⟩
theorem dA_forgetSettling_14 : Dv mA_forgetSettling 14 .iload_n .iload 1 15 := Or.inl ⟨1, by decide +kernel, rfl, rfl⟩
theorem dA_forgetSettling_15 : LkV mA_forgetSettling 15 18 mA_isThere := ⟨35, by decide +kernel, rfl, Or.inl (tb3 21 rfl), tb3 22 rfl, tb3 23 rfl⟩
theorem dA_forgetSettling_18 : Dj mA_forgetSettling 18 (.ifCond .eq) 21 30 := ⟨12, by decide +kernel, rfl, rfl⟩
theorem dA_forgetSettling_21 : Dv mA_forgetSettling 21 .aload_n .aload 0 22 := Or.inl ⟨0, by decide +kernel, rfl, rfl⟩
theorem dA_forgetSettling_22 : Df mA_forgetSettling 22 .getfield 2 1 25 := ⟨15, ("EstateDesk$Assets", eT2, 7), by decide +kernel, rfl, rfl, by decide, rfl, Or.inl (tb1 64 rfl)⟩
theorem dA_forgetSettling_25 : Dv mA_forgetSettling 25 .iload_n .iload 1 26 := Or.inl ⟨1, by decide +kernel, rfl, rfl⟩
theorem dA_forgetSettling_26 : Dn mA_forgetSettling 26 .laload 1 27 := ⟨by decide +kernel, rfl⟩
theorem dA_forgetSettling_27 : Dj mA_forgetSettling 27 .goto 30 31 := ⟨4, by decide +kernel, rfl, rfl⟩
theorem dA_forgetSettling_30 : Dl mA_forgetSettling 30 0 31 := Or.inl ⟨0, by decide +kernel, rfl, rfl⟩
theorem dA_forgetSettling_31 : Dn mA_forgetSettling 31 .lastore 1 32 := ⟨by decide +kernel, rfl⟩
theorem dA_forgetSettling_32 : Dn mA_forgetSettling 32 (.iinc 1 1) 3 35 := ⟨by decide +kernel, rfl⟩
theorem dA_forgetSettling_35 : Dj mA_forgetSettling 35 .goto 38 2 := ⟨-33, by decide +kernel, rfl, rfl⟩
theorem dA_forgetSettling_38 : Dv mA_forgetSettling 38 .aload_n .aload 0 39 := Or.inl ⟨0, by decide +kernel, rfl, rfl⟩
theorem dA_forgetSettling_39 : Df mA_forgetSettling 39 .getfield 2 5 42 := ⟨28, ("EstateDesk$Assets", eT2, 7), by decide +kernel, rfl, rfl, by decide, rfl, Or.inl (tb1 74 rfl)⟩
theorem dA_forgetSettling_42 : Dk mA_forgetSettling 42 0 43 := Or.inl ⟨0, by decide +kernel, rfl, rfl⟩
theorem dA_forgetSettling_43 : LkS mA_forgetSettling 43 46 mJ_fillI := ⟨39, by decide +kernel, rfl, Or.inl (tb3 25 rfl), tb3 26 rfl⟩
theorem dA_forgetSettling_46 : Dv mA_forgetSettling 46 .aload_n .aload 0 47 := Or.inl ⟨0, by decide +kernel, rfl, rfl⟩
theorem dA_forgetSettling_47 : Df mA_forgetSettling 47 .getfield 2 6 50 := ⟨32, ("EstateDesk$Assets", eT2, 7), by decide +kernel, rfl, rfl, by decide, rfl, Or.inl (tb1 76 rfl)⟩
theorem dA_forgetSettling_50 : Dk mA_forgetSettling 50 (-1) 51 := Or.inl ⟨-1, by decide +kernel, rfl, rfl⟩
theorem dA_forgetSettling_51 : LkS mA_forgetSettling 51 54 mJ_fillI := ⟨39, by decide +kernel, rfl, Or.inl (tb3 25 rfl), tb3 26 rfl⟩
theorem dA_forgetSettling_54 : Dn mA_forgetSettling 54 .return_ 1 55 := ⟨by decide +kernel, rfl⟩
theorem dA_takeOut_0 : Dv mA_takeOut 0 .lload_n .lload 2 1 := Or.inl ⟨2, by decide +kernel, rfl, rfl⟩
theorem dA_takeOut_1 : Dv mA_takeOut 1 .aload_n .aload 0 2 := Or.inl ⟨0, by decide +kernel, rfl, rfl⟩
theorem dA_takeOut_2 : Df mA_takeOut 2 .getfield 2 4 5 := ⟨25, ("EstateDesk$Assets", eT2, 7), by decide +kernel, rfl, rfl, by decide, rfl, Or.inl (tb1 72 rfl)⟩
theorem dA_takeOut_5 : Dv mA_takeOut 5 .iload_n .iload 1 6 := Or.inl ⟨1, by decide +kernel, rfl, rfl⟩
theorem dA_takeOut_6 : Dn mA_takeOut 6 .laload 1 7 := ⟨by decide +kernel, rfl⟩
theorem dA_takeOut_7 : LkS mA_takeOut 7 10 mJ_min := ⟨45, by decide +kernel, rfl, Or.inl (tb3 58 rfl), tb3 59 rfl⟩
theorem dA_takeOut_10 : Dv mA_takeOut 10 .lstore_n .lstore 4 12 := Or.inr ⟨by decide +kernel, rfl⟩
theorem dA_takeOut_12 : Dv mA_takeOut 12 .aload_n .aload 0 13 := Or.inl ⟨0, by decide +kernel, rfl, rfl⟩
theorem dA_takeOut_13 : Df mA_takeOut 13 .getfield 2 4 16 := ⟨25, ("EstateDesk$Assets", eT2, 7), by decide +kernel, rfl, rfl, by decide, rfl, Or.inl (tb1 72 rfl)⟩
theorem dA_takeOut_16 : Dv mA_takeOut 16 .iload_n .iload 1 17 := Or.inl ⟨1, by decide +kernel, rfl, rfl⟩
theorem dA_takeOut_17 : Dn mA_takeOut 17 .dup2 1 18 := ⟨by decide +kernel, rfl⟩
theorem dA_takeOut_18 : Dn mA_takeOut 18 .laload 1 19 := ⟨by decide +kernel, rfl⟩
theorem dA_takeOut_19 : Dv mA_takeOut 19 .lload_n .lload 4 21 := Or.inr ⟨by decide +kernel, rfl⟩
theorem dA_takeOut_21 : Dn mA_takeOut 21 .lsub 1 22 := ⟨by decide +kernel, rfl⟩
theorem dA_takeOut_22 : Dn mA_takeOut 22 .lastore 1 23 := ⟨by decide +kernel, rfl⟩
theorem dA_takeOut_23 : Dv mA_takeOut 23 .lload_n .lload 4 25 := Or.inr ⟨by decide +kernel, rfl⟩
theorem dA_takeOut_25 : Dn mA_takeOut 25 .lreturn 1 26 := ⟨by decide +kernel, rfl⟩
end
section
theorem dB_init_0 : Dv mB_init 0 .aload_n .aload 0 1 := Or.inl ⟨0, by decide +kernel, rfl, rfl⟩
theorem dB_init_1 : Dn mB_init 1 (.invokespecial 3) 3 4 := ⟨by decide +kernel, rfl⟩
theorem dB_init_4 : Dv mB_init 4 .aload_n .aload 0 5 := Or.inl ⟨0, by decide +kernel, rfl, rfl⟩
theorem dB_init_5 : Dk mB_init 5 41 7 := Or.inr (Or.inl ⟨41, by decide +kernel, by decide +kernel, rfl⟩)
theorem dB_init_7 : Dn mB_init 7 (.newarray .long) 2 9 := ⟨by decide +kernel, rfl⟩
theorem dB_init_9 : Dfp mB_init 9 4 0 12 := ⟨9, ("EstateDesk$Debts", eT4, 4), by decide +kernel, rfl, rfl, by decide, rfl, tb1 170 rfl⟩
theorem dB_init_12 : Dv mB_init 12 .aload_n .aload 0 13 := Or.inl ⟨0, by decide +kernel, rfl, rfl⟩
theorem dB_init_13 : Dk mB_init 13 41 15 := Or.inr (Or.inl ⟨41, by decide +kernel, by decide +kernel, rfl⟩)
theorem dB_init_15 : Dn mB_init 15 (.newarray .int) 2 17 := ⟨by decide +kernel, rfl⟩
theorem dB_init_17 : Dfp mB_init 17 4 1 20 := ⟨15, ("EstateDesk$Debts", eT4, 4), by decide +kernel, rfl, rfl, by decide, rfl, tb1 173 rfl⟩
theorem dB_init_20 : Dv mB_init 20 .aload_n .aload 0 21 := Or.inl ⟨0, by decide +kernel, rfl, rfl⟩
theorem dB_init_21 : Dk mB_init 21 41 23 := Or.inr (Or.inl ⟨41, by decide +kernel, by decide +kernel, rfl⟩)
theorem dB_init_23 : Dn mB_init 23 (.newarray .long) 2 25 := ⟨by decide +kernel, rfl⟩
theorem dB_init_25 : Dfp mB_init 25 4 2 28 := ⟨19, ("EstateDesk$Debts", eT4, 4), by decide +kernel, rfl, rfl, by decide, rfl, tb1 176 rfl⟩
theorem dB_init_28 : Dv mB_init 28 .aload_n .aload 0 29 := Or.inl ⟨0, by decide +kernel, rfl, rfl⟩
theorem dB_init_29 : Dk mB_init 29 41 31 := Or.inr (Or.inl ⟨41, by decide +kernel, by decide +kernel, rfl⟩)
theorem dB_init_31 : Dn mB_init 31 (.newarray .long) 2 33 := ⟨by decide +kernel, rfl⟩
theorem dB_init_33 : Dfp mB_init 33 4 3 36 := ⟨22, ("EstateDesk$Debts", eT4, 4), by decide +kernel, rfl, rfl, by decide, rfl, tb1 178 rfl⟩
theorem dB_init_36 : Dn mB_init 36 .return_ 1 37 := ⟨by decide +kernel, rfl⟩
end
section
theorem dC_init_0 : Dv mC_init 0 .aload_n .aload 0 1 := Or.inl ⟨0, by decide +kernel, rfl, rfl⟩
theorem dC_init_1 : Dn mC_init 1 (.invokespecial 3) 3 4 := ⟨by decide +kernel, rfl⟩
theorem dC_init_4 : Dv mC_init 4 .aload_n .aload 0 5 := Or.inl ⟨0, by decide +kernel, rfl, rfl⟩
theorem dC_init_5 : Dk mC_init 5 41 7 := Or.inr (Or.inl ⟨41, by decide +kernel, by decide +kernel, rfl⟩)
theorem dC_init_7 : Dn mC_init 7 (.newarray .int) 2 9 := ⟨by decide +kernel, rfl⟩
theorem dC_init_9 : Dfp mC_init 9 3 0 12 := ⟨9, ("EstateDesk$Clauses", eT3, 13), by decide +kernel, rfl, rfl, by decide, rfl, tb1 103 rfl⟩
theorem dC_init_12 : Dv mC_init 12 .aload_n .aload 0 13 := Or.inl ⟨0, by decide +kernel, rfl, rfl⟩
theorem dC_init_13 : Dk mC_init 13 41 15 := Or.inr (Or.inl ⟨41, by decide +kernel, by decide +kernel, rfl⟩)
theorem dC_init_15 : Dn mC_init 15 (.newarray .long) 2 17 := ⟨by decide +kernel, rfl⟩
theorem dC_init_17 : Dfp mC_init 17 3 1 20 := ⟨15, ("EstateDesk$Clauses", eT3, 13), by decide +kernel, rfl, rfl, by decide, rfl, tb1 106 rfl⟩
theorem dC_init_20 : Dv mC_init 20 .aload_n .aload 0 21 := Or.inl ⟨0, by decide +kernel, rfl, rfl⟩
theorem dC_init_21 : Dk mC_init 21 41 23 := Or.inr (Or.inl ⟨41, by decide +kernel, by decide +kernel, rfl⟩)
theorem dC_init_23 : Dn mC_init 23 (.newarray .int) 2 25 := ⟨by decide +kernel, rfl⟩
theorem dC_init_25 : Dfp mC_init 25 3 2 28 := ⟨19, ("EstateDesk$Clauses", eT3, 13), by decide +kernel, rfl, rfl, by decide, rfl, tb1 108 rfl⟩
theorem dC_init_28 : Dv mC_init 28 .aload_n .aload 0 29 := Or.inl ⟨0, by decide +kernel, rfl, rfl⟩
theorem dC_init_29 : Dk mC_init 29 41 31 := Or.inr (Or.inl ⟨41, by decide +kernel, by decide +kernel, rfl⟩)
theorem dC_init_31 : Dn mC_init 31 (.newarray .boolean) 2 33 := ⟨by decide +kernel, rfl⟩
theorem dC_init_33 : Dfp mC_init 33 3 3 36 := ⟨22, ("EstateDesk$Clauses", eT3, 13), by decide +kernel, rfl, rfl, by decide, rfl, tb1 110 rfl⟩
theorem dC_init_36 : Dv mC_init 36 .aload_n .aload 0 37 := Or.inl ⟨0, by decide +kernel, rfl, rfl⟩
theorem dC_init_37 : Dk mC_init 37 41 39 := Or.inr (Or.inl ⟨41, by decide +kernel, by decide +kernel, rfl⟩)
theorem dC_init_39 : Dk mC_init 39 5 40 := Or.inl ⟨5, by decide +kernel, rfl, rfl⟩
theorem dC_init_40 : Dn mC_init 40 (.multianewarray 26 2) 4 44 := ⟨by decide +kernel, rfl⟩
theorem dC_init_44 : Dfp mC_init 44 3 4 47 := ⟨28, ("EstateDesk$Clauses", eT3, 13), by decide +kernel, rfl, rfl, by decide, rfl, tb1 113 rfl⟩
theorem dC_init_47 : Dv mC_init 47 .aload_n .aload 0 48 := Or.inl ⟨0, by decide +kernel, rfl, rfl⟩
theorem dC_init_48 : Dk mC_init 48 41 50 := Or.inr (Or.inl ⟨41, by decide +kernel, by decide +kernel, rfl⟩)
theorem dC_init_50 : Dn mC_init 50 (.newarray .int) 2 52 := ⟨by decide +kernel, rfl⟩
theorem dC_init_52 : Dfp mC_init 52 3 5 55 := ⟨31, ("EstateDesk$Clauses", eT3, 13), by decide +kernel, rfl, rfl, by decide, rfl, tb1 116 rfl⟩
theorem dC_init_55 : Dv mC_init 55 .aload_n .aload 0 56 := Or.inl ⟨0, by decide +kernel, rfl, rfl⟩
theorem dC_init_56 : Dk mC_init 56 41 58 := Or.inr (Or.inl ⟨41, by decide +kernel, by decide +kernel, rfl⟩)
theorem dC_init_58 : Dn mC_init 58 (.newarray .int) 2 60 := ⟨by decide +kernel, rfl⟩
theorem dC_init_60 : Dfp mC_init 60 3 6 63 := ⟨34, ("EstateDesk$Clauses", eT3, 13), by decide +kernel, rfl, rfl, by decide, rfl, tb1 119 rfl⟩
theorem dC_init_63 : Dv mC_init 63 .aload_n .aload 0 64 := Or.inl ⟨0, by decide +kernel, rfl, rfl⟩
theorem dC_init_64 : Dk mC_init 64 41 66 := Or.inr (Or.inl ⟨41, by decide +kernel, by decide +kernel, rfl⟩)
theorem dC_init_66 : Dn mC_init 66 (.newarray .long) 2 68 := ⟨by decide +kernel, rfl⟩
theorem dC_init_68 : Dfp mC_init 68 3 7 71 := ⟨37, ("EstateDesk$Clauses", eT3, 13), by decide +kernel, rfl, rfl, by decide, rfl, tb1 122 rfl⟩
theorem dC_init_71 : Dv mC_init 71 .aload_n .aload 0 72 := Or.inl ⟨0, by decide +kernel, rfl, rfl⟩
theorem dC_init_72 : Dk mC_init 72 41 74 := Or.inr (Or.inl ⟨41, by decide +kernel, by decide +kernel, rfl⟩)
theorem dC_init_74 : Dn mC_init 74 (.newarray .long) 2 76 := ⟨by decide +kernel, rfl⟩
theorem dC_init_76 : Dfp mC_init 76 3 8 79 := ⟨40, ("EstateDesk$Clauses", eT3, 13), by decide +kernel, rfl, rfl, by decide, rfl, tb1 124 rfl⟩
theorem dC_init_79 : Dv mC_init 79 .aload_n .aload 0 80 := Or.inl ⟨0, by decide +kernel, rfl, rfl⟩
theorem dC_init_80 : Dk mC_init 80 41 82 := Or.inr (Or.inl ⟨41, by decide +kernel, by decide +kernel, rfl⟩)
theorem dC_init_82 : Dn mC_init 82 (.newarray .long) 2 84 := ⟨by decide +kernel, rfl⟩
theorem dC_init_84 : Dfp mC_init 84 3 9 87 := ⟨43, ("EstateDesk$Clauses", eT3, 13), by decide +kernel, rfl, rfl, by decide, rfl, tb1 127 rfl⟩
theorem dC_init_87 : Dv mC_init 87 .aload_n .aload 0 88 := Or.inl ⟨0, by decide +kernel, rfl, rfl⟩
theorem dC_init_88 : Dk mC_init 88 41 90 := Or.inr (Or.inl ⟨41, by decide +kernel, by decide +kernel, rfl⟩)
theorem dC_init_90 : Dn mC_init 90 (.newarray .long) 2 92 := ⟨by decide +kernel, rfl⟩
theorem dC_init_92 : Dfp mC_init 92 3 10 95 := ⟨46, ("EstateDesk$Clauses", eT3, 13), by decide +kernel, rfl, rfl, by decide, rfl, tb1 129 rfl⟩
theorem dC_init_95 : Dv mC_init 95 .aload_n .aload 0 96 := Or.inl ⟨0, by decide +kernel, rfl, rfl⟩
theorem dC_init_96 : Dk mC_init 96 41 98 := Or.inr (Or.inl ⟨41, by decide +kernel, by decide +kernel, rfl⟩)
theorem dC_init_98 : Dn mC_init 98 (.newarray .long) 2 100 := ⟨by decide +kernel, rfl⟩
theorem dC_init_100 : Dfp mC_init 100 3 11 103 := ⟨49, ("EstateDesk$Clauses", eT3, 13), by decide +kernel, rfl, rfl, by decide, rfl, tb1 131 rfl⟩
theorem dC_init_103 : Dv mC_init 103 .aload_n .aload 0 104 := Or.inl ⟨0, by decide +kernel, rfl, rfl⟩
theorem dC_init_104 : Dk mC_init 104 41 106 := Or.inr (Or.inl ⟨41, by decide +kernel, by decide +kernel, rfl⟩)
theorem dC_init_106 : Dn mC_init 106 (.newarray .long) 2 108 := ⟨by decide +kernel, rfl⟩
theorem dC_init_108 : Dfp mC_init 108 3 12 111 := ⟨52, ("EstateDesk$Clauses", eT3, 13), by decide +kernel, rfl, rfl, by decide, rfl, tb1 134 rfl⟩
theorem dC_init_111 : Dn mC_init 111 .return_ 1 112 := ⟨by decide +kernel, rfl⟩
theorem dC_write_0 : Dv mC_write 0 .aload_n .aload 0 1 := Or.inl ⟨0, by decide +kernel, rfl, rfl⟩
theorem dC_write_1 : Df mC_write 1 .getfield 3 0 4 := ⟨9, ("EstateDesk$Clauses", eT3, 13), by decide +kernel, rfl, rfl, by decide, rfl, Or.inl (tb1 103 rfl)⟩
theorem dC_write_4 : Dv mC_write 4 .iload_n .iload 1 5 := Or.inl ⟨1, by decide +kernel, rfl, rfl⟩
theorem dC_write_5 : Dv mC_write 5 .iload_n .iload 2 6 := Or.inl ⟨2, by decide +kernel, rfl, rfl⟩
theorem dC_write_6 : Dn mC_write 6 .iastore 1 7 := ⟨by decide +kernel, rfl⟩
theorem dC_write_7 : Dv mC_write 7 .aload_n .aload 0 8 := Or.inl ⟨0, by decide +kernel, rfl, rfl⟩
theorem dC_write_8 : Df mC_write 8 .getfield 3 1 11 := ⟨15, ("EstateDesk$Clauses", eT3, 13), by decide +kernel, rfl, rfl, by decide, rfl, Or.inl (tb1 106 rfl)⟩
theorem dC_write_11 : Dv mC_write 11 .iload_n .iload 1 12 := Or.inl ⟨1, by decide +kernel, rfl, rfl⟩
theorem dC_write_12 : Dv mC_write 12 .lload_n .lload 3 13 := Or.inl ⟨3, by decide +kernel, rfl, rfl⟩
theorem dC_write_13 : Dn mC_write 13 .lastore 1 14 := ⟨by decide +kernel, rfl⟩
theorem dC_write_14 : Dv mC_write 14 .aload_n .aload 0 15 := Or.inl ⟨0, by decide +kernel, rfl, rfl⟩
theorem dC_write_15 : Df mC_write 15 .getfield 3 2 18 := ⟨19, ("EstateDesk$Clauses", eT3, 13), by decide +kernel, rfl, rfl, by decide, rfl, Or.inl (tb1 108 rfl)⟩
theorem dC_write_18 : Dv mC_write 18 .iload_n .iload 1 19 := Or.inl ⟨1, by decide +kernel, rfl, rfl⟩
theorem dC_write_19 : Dv mC_write 19 .iload_n .iload 5 21 := Or.inr ⟨by decide +kernel, rfl⟩
theorem dC_write_21 : Dn mC_write 21 .iastore 1 22 := ⟨by decide +kernel, rfl⟩
theorem dC_write_22 : Dv mC_write 22 .aload_n .aload 0 23 := Or.inl ⟨0, by decide +kernel, rfl, rfl⟩
theorem dC_write_23 : Df mC_write 23 .getfield 3 3 26 := ⟨22, ("EstateDesk$Clauses", eT3, 13), by decide +kernel, rfl, rfl, by decide, rfl, Or.inl (tb1 110 rfl)⟩
theorem dC_write_26 : Dv mC_write 26 .iload_n .iload 1 27 := Or.inl ⟨1, by decide +kernel, rfl, rfl⟩
theorem dC_write_27 : Dk mC_write 27 1 28 := Or.inl ⟨1, by decide +kernel, rfl, rfl⟩
theorem dC_write_28 : Dn mC_write 28 .bastore 1 29 := ⟨by decide +kernel, rfl⟩
theorem dC_write_29 : Dn mC_write 29 .return_ 1 30 := ⟨by decide +kernel, rfl⟩
theorem dC_anotherHas_0 : Dk mC_anotherHas 0 1 1 := Or.inl ⟨1, by decide +kernel, rfl, rfl⟩
theorem dC_anotherHas_1 : Dv mC_anotherHas 1 .istore_n .istore 3 2 := Or.inl ⟨3, by decide +kernel, rfl, rfl⟩
theorem dC_anotherHas_2 : Dv mC_anotherHas 2 .iload_n .iload 3 3 := Or.inl ⟨3, by decide +kernel, rfl, rfl⟩
theorem dC_anotherHas_3 : Dk mC_anotherHas 3 40 5 := Or.inr (Or.inl ⟨40, by decide +kernel, by decide +kernel, rfl⟩)
theorem dC_anotherHas_5 : Dj mC_anotherHas 5 (.if_icmp .gt) 8 31 := ⟨26, by decide +kernel, rfl, rfl⟩
theorem dC_anotherHas_8 : Dv mC_anotherHas 8 .iload_n .iload 3 9 := Or.inl ⟨3, by decide +kernel, rfl, rfl⟩
theorem dC_anotherHas_9 : Dv mC_anotherHas 9 .iload_n .iload 1 10 := Or.inl ⟨1, by decide +kernel, rfl, rfl⟩
theorem dC_anotherHas_10 : Dj mC_anotherHas 10 (.if_icmp .eq) 13 25 := ⟨15, by decide +kernel, rfl, rfl⟩
theorem dC_anotherHas_13 : Dv mC_anotherHas 13 .aload_n .aload 0 14 := Or.inl ⟨0, by decide +kernel, rfl, rfl⟩
theorem dC_anotherHas_14 : Df mC_anotherHas 14 .getfield 3 2 17 := ⟨19, ("EstateDesk$Clauses", eT3, 13), by decide +kernel, rfl, rfl, by decide, rfl, Or.inl (tb1 108 rfl)⟩
theorem dC_anotherHas_17 : Dv mC_anotherHas 17 .iload_n .iload 3 18 := Or.inl ⟨3, by decide +kernel, rfl, rfl⟩
theorem dC_anotherHas_18 : Dn mC_anotherHas 18 .iaload 1 19 := ⟨by decide +kernel, rfl⟩
theorem dC_anotherHas_19 : Dv mC_anotherHas 19 .iload_n .iload 2 20 := Or.inl ⟨2, by decide +kernel, rfl, rfl⟩
theorem dC_anotherHas_20 : Dj mC_anotherHas 20 (.if_icmp .ne) 23 25 := ⟨5, by decide +kernel, rfl, rfl⟩
theorem dC_anotherHas_23 : Dk mC_anotherHas 23 1 24 := Or.inl ⟨1, by decide +kernel, rfl, rfl⟩
theorem dC_anotherHas_24 : Dn mC_anotherHas 24 .ireturn 1 25 := ⟨by decide +kernel, rfl⟩
theorem dC_anotherHas_25 : Dn mC_anotherHas 25 (.iinc 3 1) 3 28 := ⟨by decide +kernel, rfl⟩
theorem dC_anotherHas_28 : Dj mC_anotherHas 28 .goto 31 2 := ⟨-26, by decide +kernel, rfl, rfl⟩
theorem dC_anotherHas_31 : Dk mC_anotherHas 31 0 32 := Or.inl ⟨0, by decide +kernel, rfl, rfl⟩
theorem dC_anotherHas_32 : Dn mC_anotherHas 32 .ireturn 1 33 := ⟨by decide +kernel, rfl⟩
theorem dC_anotherGives_0 : Dk mC_anotherGives 0 1 1 := Or.inl ⟨1, by decide +kernel, rfl, rfl⟩
theorem dC_anotherGives_1 : Dv mC_anotherGives 1 .istore_n .istore 3 2 := Or.inl ⟨3, by decide +kernel, rfl, rfl⟩
theorem dC_anotherGives_2 : Dv mC_anotherGives 2 .iload_n .iload 3 3 := Or.inl ⟨3, by decide +kernel, rfl, rfl⟩
theorem dC_anotherGives_3 : Dk mC_anotherGives 3 40 5 := Or.inr (Or.inl ⟨40, by decide +kernel, by decide +kernel, rfl⟩)
theorem dC_anotherGives_5 : Dj mC_anotherGives 5 (.if_icmp .gt) 8 41 := ⟨36, by decide +kernel, rfl, rfl⟩
theorem dC_anotherGives_8 : Dv mC_anotherGives 8 .iload_n .iload 3 9 := Or.inl ⟨3, by decide +kernel, rfl, rfl⟩
theorem dC_anotherGives_9 : Dv mC_anotherGives 9 .iload_n .iload 1 10 := Or.inl ⟨1, by decide +kernel, rfl, rfl⟩
theorem dC_anotherGives_10 : Dj mC_anotherGives 10 (.if_icmp .eq) 13 35 := ⟨25, by decide +kernel, rfl, rfl⟩
theorem dC_anotherGives_13 : Dv mC_anotherGives 13 .aload_n .aload 0 14 := Or.inl ⟨0, by decide +kernel, rfl, rfl⟩
theorem dC_anotherGives_14 : Df mC_anotherGives 14 .getfield 3 0 17 := ⟨9, ("EstateDesk$Clauses", eT3, 13), by decide +kernel, rfl, rfl, by decide, rfl, Or.inl (tb1 103 rfl)⟩
theorem dC_anotherGives_17 : Dv mC_anotherGives 17 .iload_n .iload 3 18 := Or.inl ⟨3, by decide +kernel, rfl, rfl⟩
theorem dC_anotherGives_18 : Dn mC_anotherGives 18 .iaload 1 19 := ⟨by decide +kernel, rfl⟩
theorem dC_anotherGives_19 : Dk mC_anotherGives 19 1 20 := Or.inl ⟨1, by decide +kernel, rfl, rfl⟩
theorem dC_anotherGives_20 : Dj mC_anotherGives 20 (.if_icmp .ne) 23 35 := ⟨15, by decide +kernel, rfl, rfl⟩
theorem dC_anotherGives_23 : Dv mC_anotherGives 23 .aload_n .aload 0 24 := Or.inl ⟨0, by decide +kernel, rfl, rfl⟩
theorem dC_anotherGives_24 : Df mC_anotherGives 24 .getfield 3 2 27 := ⟨19, ("EstateDesk$Clauses", eT3, 13), by decide +kernel, rfl, rfl, by decide, rfl, Or.inl (tb1 108 rfl)⟩
theorem dC_anotherGives_27 : Dv mC_anotherGives 27 .iload_n .iload 3 28 := Or.inl ⟨3, by decide +kernel, rfl, rfl⟩
theorem dC_anotherGives_28 : Dn mC_anotherGives 28 .iaload 1 29 := ⟨by decide +kernel, rfl⟩
theorem dC_anotherGives_29 : Dv mC_anotherGives 29 .iload_n .iload 2 30 := Or.inl ⟨2, by decide +kernel, rfl, rfl⟩
theorem dC_anotherGives_30 : Dj mC_anotherGives 30 (.if_icmp .ne) 33 35 := ⟨5, by decide +kernel, rfl, rfl⟩
theorem dC_anotherGives_33 : Dk mC_anotherGives 33 1 34 := Or.inl ⟨1, by decide +kernel, rfl, rfl⟩
theorem dC_anotherGives_34 : Dn mC_anotherGives 34 .ireturn 1 35 := ⟨by decide +kernel, rfl⟩
theorem dC_anotherGives_35 : Dn mC_anotherGives 35 (.iinc 3 1) 3 38 := ⟨by decide +kernel, rfl⟩
theorem dC_anotherGives_38 : Dj mC_anotherGives 38 .goto 41 2 := ⟨-36, by decide +kernel, rfl, rfl⟩
theorem dC_anotherGives_41 : Dk mC_anotherGives 41 0 42 := Or.inl ⟨0, by decide +kernel, rfl, rfl⟩
theorem dC_anotherGives_42 : Dn mC_anotherGives 42 .ireturn 1 43 := ⟨by decide +kernel, rfl⟩
theorem dC_worthInAll_0 : Dv mC_worthInAll 0 .aload_n .aload 0 1 := Or.inl ⟨0, by decide +kernel, rfl, rfl⟩
theorem dC_worthInAll_1 : Df mC_worthInAll 1 .getfield 3 7 4 := ⟨37, ("EstateDesk$Clauses", eT3, 13), by decide +kernel, rfl, rfl, by decide, rfl, Or.inl (tb1 122 rfl)⟩
theorem dC_worthInAll_4 : Dv mC_worthInAll 4 .iload_n .iload 1 5 := Or.inl ⟨1, by decide +kernel, rfl, rfl⟩
theorem dC_worthInAll_5 : Dn mC_worthInAll 5 .laload 1 6 := ⟨by decide +kernel, rfl⟩
theorem dC_worthInAll_6 : Dv mC_worthInAll 6 .aload_n .aload 0 7 := Or.inl ⟨0, by decide +kernel, rfl, rfl⟩
theorem dC_worthInAll_7 : Df mC_worthInAll 7 .getfield 3 8 10 := ⟨40, ("EstateDesk$Clauses", eT3, 13), by decide +kernel, rfl, rfl, by decide, rfl, Or.inl (tb1 124 rfl)⟩
theorem dC_worthInAll_10 : Dv mC_worthInAll 10 .iload_n .iload 1 11 := Or.inl ⟨1, by decide +kernel, rfl, rfl⟩
theorem dC_worthInAll_11 : Dn mC_worthInAll 11 .laload 1 12 := ⟨by decide +kernel, rfl⟩
theorem dC_worthInAll_12 : Dn mC_worthInAll 12 .ladd 1 13 := ⟨by decide +kernel, rfl⟩
theorem dC_worthInAll_13 : Dv mC_worthInAll 13 .aload_n .aload 0 14 := Or.inl ⟨0, by decide +kernel, rfl, rfl⟩
theorem dC_worthInAll_14 : Df mC_worthInAll 14 .getfield 3 9 17 := ⟨43, ("EstateDesk$Clauses", eT3, 13), by decide +kernel, rfl, rfl, by decide, rfl, Or.inl (tb1 127 rfl)⟩
theorem dC_worthInAll_17 : Dv mC_worthInAll 17 .iload_n .iload 1 18 := Or.inl ⟨1, by decide +kernel, rfl, rfl⟩
theorem dC_worthInAll_18 : Dn mC_worthInAll 18 .laload 1 19 := ⟨by decide +kernel, rfl⟩
theorem dC_worthInAll_19 : Dn mC_worthInAll 19 .ladd 1 20 := ⟨by decide +kernel, rfl⟩
theorem dC_worthInAll_20 : Dn mC_worthInAll 20 .lreturn 1 21 := ⟨by decide +kernel, rfl⟩
theorem dC_forgetSettling_0 : Dv mC_forgetSettling 0 .aload_n .aload 0 1 := Or.inl ⟨0, by decide +kernel, rfl, rfl⟩
theorem dC_forgetSettling_1 : Df mC_forgetSettling 1 .getfield 3 5 4 := ⟨31, ("EstateDesk$Clauses", eT3, 13), by decide +kernel, rfl, rfl, by decide, rfl, Or.inl (tb1 116 rfl)⟩
theorem dC_forgetSettling_4 : Dk mC_forgetSettling 4 (-1) 5 := Or.inl ⟨-1, by decide +kernel, rfl, rfl⟩
theorem dC_forgetSettling_5 : LkS mC_forgetSettling 5 8 mJ_fillI := ⟨55, by decide +kernel, rfl, Or.inl (tb3 32 rfl), tb3 26 rfl⟩
theorem dC_forgetSettling_8 : Dv mC_forgetSettling 8 .aload_n .aload 0 9 := Or.inl ⟨0, by decide +kernel, rfl, rfl⟩
theorem dC_forgetSettling_9 : Df mC_forgetSettling 9 .getfield 3 6 12 := ⟨34, ("EstateDesk$Clauses", eT3, 13), by decide +kernel, rfl, rfl, by decide, rfl, Or.inl (tb1 119 rfl)⟩
theorem dC_forgetSettling_12 : Dk mC_forgetSettling 12 0 13 := Or.inl ⟨0, by decide +kernel, rfl, rfl⟩
theorem dC_forgetSettling_13 : LkS mC_forgetSettling 13 16 mJ_fillI := ⟨55, by decide +kernel, rfl, Or.inl (tb3 32 rfl), tb3 26 rfl⟩
theorem dC_forgetSettling_16 : Dv mC_forgetSettling 16 .aload_n .aload 0 17 := Or.inl ⟨0, by decide +kernel, rfl, rfl⟩
theorem dC_forgetSettling_17 : Df mC_forgetSettling 17 .getfield 3 7 20 := ⟨37, ("EstateDesk$Clauses", eT3, 13), by decide +kernel, rfl, rfl, by decide, rfl, Or.inl (tb1 122 rfl)⟩
theorem dC_forgetSettling_20 : Dl mC_forgetSettling 20 0 21 := Or.inl ⟨0, by decide +kernel, rfl, rfl⟩
theorem dC_forgetSettling_21 : LkS mC_forgetSettling 21 24 mJ_fillL := ⟨61, by decide +kernel, rfl, Or.inl (tb3 33 rfl), tb3 15 rfl⟩
theorem dC_forgetSettling_24 : Dv mC_forgetSettling 24 .aload_n .aload 0 25 := Or.inl ⟨0, by decide +kernel, rfl, rfl⟩
theorem dC_forgetSettling_25 : Df mC_forgetSettling 25 .getfield 3 8 28 := ⟨40, ("EstateDesk$Clauses", eT3, 13), by decide +kernel, rfl, rfl, by decide, rfl, Or.inl (tb1 124 rfl)⟩
theorem dC_forgetSettling_28 : Dl mC_forgetSettling 28 0 29 := Or.inl ⟨0, by decide +kernel, rfl, rfl⟩
theorem dC_forgetSettling_29 : LkS mC_forgetSettling 29 32 mJ_fillL := ⟨61, by decide +kernel, rfl, Or.inl (tb3 33 rfl), tb3 15 rfl⟩
theorem dC_forgetSettling_32 : Dv mC_forgetSettling 32 .aload_n .aload 0 33 := Or.inl ⟨0, by decide +kernel, rfl, rfl⟩
theorem dC_forgetSettling_33 : Df mC_forgetSettling 33 .getfield 3 9 36 := ⟨43, ("EstateDesk$Clauses", eT3, 13), by decide +kernel, rfl, rfl, by decide, rfl, Or.inl (tb1 127 rfl)⟩
theorem dC_forgetSettling_36 : Dl mC_forgetSettling 36 0 37 := Or.inl ⟨0, by decide +kernel, rfl, rfl⟩
theorem dC_forgetSettling_37 : LkS mC_forgetSettling 37 40 mJ_fillL := ⟨61, by decide +kernel, rfl, Or.inl (tb3 33 rfl), tb3 15 rfl⟩
theorem dC_forgetSettling_40 : Dv mC_forgetSettling 40 .aload_n .aload 0 41 := Or.inl ⟨0, by decide +kernel, rfl, rfl⟩
theorem dC_forgetSettling_41 : Df mC_forgetSettling 41 .getfield 3 10 44 := ⟨46, ("EstateDesk$Clauses", eT3, 13), by decide +kernel, rfl, rfl, by decide, rfl, Or.inl (tb1 129 rfl)⟩
theorem dC_forgetSettling_44 : Dl mC_forgetSettling 44 0 45 := Or.inl ⟨0, by decide +kernel, rfl, rfl⟩
theorem dC_forgetSettling_45 : LkS mC_forgetSettling 45 48 mJ_fillL := ⟨61, by decide +kernel, rfl, Or.inl (tb3 33 rfl), tb3 15 rfl⟩
theorem dC_forgetSettling_48 : Dv mC_forgetSettling 48 .aload_n .aload 0 49 := Or.inl ⟨0, by decide +kernel, rfl, rfl⟩
theorem dC_forgetSettling_49 : Df mC_forgetSettling 49 .getfield 3 11 52 := ⟨49, ("EstateDesk$Clauses", eT3, 13), by decide +kernel, rfl, rfl, by decide, rfl, Or.inl (tb1 131 rfl)⟩
theorem dC_forgetSettling_52 : Dl mC_forgetSettling 52 0 53 := Or.inl ⟨0, by decide +kernel, rfl, rfl⟩
theorem dC_forgetSettling_53 : LkS mC_forgetSettling 53 56 mJ_fillL := ⟨61, by decide +kernel, rfl, Or.inl (tb3 33 rfl), tb3 15 rfl⟩
theorem dC_forgetSettling_56 : Dv mC_forgetSettling 56 .aload_n .aload 0 57 := Or.inl ⟨0, by decide +kernel, rfl, rfl⟩
theorem dC_forgetSettling_57 : Df mC_forgetSettling 57 .getfield 3 12 60 := ⟨52, ("EstateDesk$Clauses", eT3, 13), by decide +kernel, rfl, rfl, by decide, rfl, Or.inl (tb1 134 rfl)⟩
theorem dC_forgetSettling_60 : Dl mC_forgetSettling 60 0 61 := Or.inl ⟨0, by decide +kernel, rfl, rfl⟩
theorem dC_forgetSettling_61 : LkS mC_forgetSettling 61 64 mJ_fillL := ⟨61, by decide +kernel, rfl, Or.inl (tb3 33 rfl), tb3 15 rfl⟩
theorem dC_forgetSettling_64 : Dn mC_forgetSettling 64 .return_ 1 65 := ⟨by decide +kernel, rfl⟩
end
section
theorem dD_init_0 : Dv mD_init 0 .aload_n .aload 0 1 := Or.inl ⟨0, by decide +kernel, rfl, rfl⟩
theorem dD_init_1 : Dn mD_init 1 (.invokespecial 1) 3 4 := ⟨by decide +kernel, rfl⟩
theorem dD_init_4 : Dv mD_init 4 .aload_n .aload 0 5 := Or.inl ⟨0, by decide +kernel, rfl, rfl⟩
theorem dD_init_5 : Dn mD_init 5 (.new 7) 3 8 := ⟨by decide +kernel, rfl⟩
theorem dD_init_8 : Dn mD_init 8 .dup 1 9 := ⟨by decide +kernel, rfl⟩
theorem dD_init_9 : Dn mD_init 9 (.invokespecial 9) 3 12 := ⟨by decide +kernel, rfl⟩
theorem dD_init_12 : Dfp mD_init 12 0 0 15 := ⟨10, ("EstateDesk", eT0, 8), by decide +kernel, rfl, rfl, by decide, rfl, tb1 234 rfl⟩
theorem dD_init_15 : Dv mD_init 15 .aload_n .aload 0 16 := Or.inl ⟨0, by decide +kernel, rfl, rfl⟩
theorem dD_init_16 : Dn mD_init 16 (.new 16) 3 19 := ⟨by decide +kernel, rfl⟩
theorem dD_init_19 : Dn mD_init 19 .dup 1 20 := ⟨by decide +kernel, rfl⟩
theorem dD_init_20 : Dn mD_init 20 (.invokespecial 18) 3 23 := ⟨by decide +kernel, rfl⟩
theorem dD_init_23 : Dfp mD_init 23 0 1 26 := ⟨19, ("EstateDesk", eT0, 8), by decide +kernel, rfl, rfl, by decide, rfl, tb1 235 rfl⟩
theorem dD_init_26 : Dv mD_init 26 .aload_n .aload 0 27 := Or.inl ⟨0, by decide +kernel, rfl, rfl⟩
theorem dD_init_27 : Dn mD_init 27 (.new 23) 3 30 := ⟨by decide +kernel, rfl⟩
theorem dD_init_30 : Dn mD_init 30 .dup 1 31 := ⟨by decide +kernel, rfl⟩
theorem dD_init_31 : Dn mD_init 31 (.invokespecial 25) 3 34 := ⟨by decide +kernel, rfl⟩
theorem dD_init_34 : Dfp mD_init 34 0 2 37 := ⟨26, ("EstateDesk", eT0, 8), by decide +kernel, rfl, rfl, by decide, rfl, tb1 236 rfl⟩
theorem dD_init_37 : Dv mD_init 37 .aload_n .aload 0 38 := Or.inl ⟨0, by decide +kernel, rfl, rfl⟩
theorem dD_init_38 : Dn mD_init 38 (.new 30) 3 41 := ⟨by decide +kernel, rfl⟩
theorem dD_init_41 : Dn mD_init 41 .dup 1 42 := ⟨by decide +kernel, rfl⟩
theorem dD_init_42 : Dn mD_init 42 (.invokespecial 32) 3 45 := ⟨by decide +kernel, rfl⟩
theorem dD_init_45 : Dfp mD_init 45 0 3 48 := ⟨33, ("EstateDesk", eT0, 8), by decide +kernel, rfl, rfl, by decide, rfl, tb1 237 rfl⟩
theorem dD_init_48 : Dv mD_init 48 .aload_n .aload 0 49 := Or.inl ⟨0, by decide +kernel, rfl, rfl⟩
theorem dD_init_49 : Dn mD_init 49 (.new 37) 3 52 := ⟨by decide +kernel, rfl⟩
theorem dD_init_52 : Dn mD_init 52 .dup 1 53 := ⟨by decide +kernel, rfl⟩
theorem dD_init_53 : Dv mD_init 53 .aload_n .aload 0 54 := Or.inl ⟨0, by decide +kernel, rfl, rfl⟩
theorem dD_init_54 : Df mD_init 54 .getfield 0 0 57 := ⟨10, ("EstateDesk", eT0, 8), by decide +kernel, rfl, rfl, by decide, rfl, Or.inl (tb1 234 rfl)⟩
theorem dD_init_57 : Dv mD_init 57 .aload_n .aload 0 58 := Or.inl ⟨0, by decide +kernel, rfl, rfl⟩
theorem dD_init_58 : Df mD_init 58 .getfield 0 1 61 := ⟨19, ("EstateDesk", eT0, 8), by decide +kernel, rfl, rfl, by decide, rfl, Or.inl (tb1 235 rfl)⟩
theorem dD_init_61 : Dv mD_init 61 .aload_n .aload 0 62 := Or.inl ⟨0, by decide +kernel, rfl, rfl⟩
theorem dD_init_62 : Df mD_init 62 .getfield 0 2 65 := ⟨26, ("EstateDesk", eT0, 8), by decide +kernel, rfl, rfl, by decide, rfl, Or.inl (tb1 236 rfl)⟩
theorem dD_init_65 : Dv mD_init 65 .aload_n .aload 0 66 := Or.inl ⟨0, by decide +kernel, rfl, rfl⟩
theorem dD_init_66 : Df mD_init 66 .getfield 0 3 69 := ⟨33, ("EstateDesk", eT0, 8), by decide +kernel, rfl, rfl, by decide, rfl, Or.inl (tb1 237 rfl)⟩
theorem dD_init_69 : Dn mD_init 69 (.invokespecial 39) 3 72 := ⟨by decide +kernel, rfl⟩
theorem dD_init_72 : Dfp mD_init 72 0 4 75 := ⟨42, ("EstateDesk", eT0, 8), by decide +kernel, rfl, rfl, by decide, rfl, tb1 238 rfl⟩
theorem dD_init_75 : Dn mD_init 75 .return_ 1 76 := ⟨by decide +kernel, rfl⟩
theorem dD_testator_0 : Dv mD_testator 0 .iload_n .iload 1 1 := Or.inl ⟨1, by decide +kernel, rfl, rfl⟩
theorem dD_testator_1 : Dn mD_testator 1 .i2l 1 2 := ⟨by decide +kernel, rfl⟩
theorem dD_testator_2 : Dl mD_testator 2 1 3 := Or.inl ⟨1, by decide +kernel, rfl, rfl⟩
theorem dD_testator_3 : Dl mD_testator 3 100000 6 := Or.inr ⟨46, by decide +kernel, tb2 28 rfl, rfl⟩
theorem dD_testator_6 : LkS mD_testator 6 9 mD_requireWithin := ⟨48, by decide +kernel, rfl, Or.inl (tb2 29 rfl), tb2 30 rfl⟩
theorem dD_testator_9 : Dv mD_testator 9 .aload_n .aload 0 10 := Or.inl ⟨0, by decide +kernel, rfl, rfl⟩
theorem dD_testator_10 : LkV mD_testator 10 13 mD_requireOpen := ⟨52, by decide +kernel, rfl, Or.inl (tb2 97 rfl), tb2 99 rfl, ts 1 rfl⟩
theorem dD_testator_13 : Dv mD_testator 13 .aload_n .aload 0 14 := Or.inl ⟨0, by decide +kernel, rfl, rfl⟩
theorem dD_testator_14 : Df mD_testator 14 .getfield 0 0 17 := ⟨10, ("EstateDesk", eT0, 8), by decide +kernel, rfl, rfl, by decide, rfl, Or.inl (tb1 234 rfl)⟩
theorem dD_testator_17 : Dv mD_testator 17 .iload_n .iload 1 18 := Or.inl ⟨1, by decide +kernel, rfl, rfl⟩
theorem dD_testator_18 : Df mD_testator 18 .putfield 1 0 21 := ⟨55, ("EstateDesk$Persons", eT1, 5), by decide +kernel, rfl, rfl, by decide, rfl, Or.inr ⟨"EstateDesk", tb1 31 rfl⟩⟩
theorem dD_testator_21 : Dv mD_testator 21 .aload_n .aload 0 22 := Or.inl ⟨0, by decide +kernel, rfl, rfl⟩
theorem dD_testator_22 : LkV mD_testator 22 25 mD_noteFact := ⟨59, by decide +kernel, rfl, Or.inl (tb2 119 rfl), tb2 121 rfl, ts 2 rfl⟩
theorem dD_testator_25 : Dn mD_testator 25 .return_ 1 26 := ⟨by decide +kernel, rfl⟩
theorem dD_person_0 : Dv mD_person 0 .iload_n .iload 1 1 := Or.inl ⟨1, by decide +kernel, rfl, rfl⟩
theorem dD_person_1 : Dn mD_person 1 .i2l 1 2 := ⟨by decide +kernel, rfl⟩
theorem dD_person_2 : Dl mD_person 2 1 3 := Or.inl ⟨1, by decide +kernel, rfl, rfl⟩
theorem dD_person_3 : Dl mD_person 3 40 6 := Or.inr ⟨62, by decide +kernel, tb2 130 rfl, rfl⟩
theorem dD_person_6 : LkS mD_person 6 9 mD_requireWithin := ⟨48, by decide +kernel, rfl, Or.inl (tb2 29 rfl), tb2 30 rfl⟩
theorem dD_person_9 : Dv mD_person 9 .iload_n .iload 2 10 := Or.inl ⟨2, by decide +kernel, rfl, rfl⟩
theorem dD_person_10 : Dn mD_person 10 .i2l 1 11 := ⟨by decide +kernel, rfl⟩
theorem dD_person_11 : Dl mD_person 11 0 12 := Or.inl ⟨0, by decide +kernel, rfl, rfl⟩
theorem dD_person_12 : Dl mD_person 12 100000 15 := Or.inr ⟨46, by decide +kernel, tb2 28 rfl, rfl⟩
theorem dD_person_15 : LkS mD_person 15 18 mD_requireWithin := ⟨48, by decide +kernel, rfl, Or.inl (tb2 29 rfl), tb2 30 rfl⟩
theorem dD_person_18 : Dv mD_person 18 .aload_n .aload 0 19 := Or.inl ⟨0, by decide +kernel, rfl, rfl⟩
theorem dD_person_19 : LkV mD_person 19 22 mD_requireOpen := ⟨52, by decide +kernel, rfl, Or.inl (tb2 97 rfl), tb2 99 rfl, ts 1 rfl⟩
theorem dD_person_22 : Dv mD_person 22 .aload_n .aload 0 23 := Or.inl ⟨0, by decide +kernel, rfl, rfl⟩
theorem dD_person_23 : Df mD_person 23 .getfield 0 0 26 := ⟨10, ("EstateDesk", eT0, 8), by decide +kernel, rfl, rfl, by decide, rfl, Or.inl (tb1 234 rfl)⟩
theorem dD_person_26 : Df mD_person 26 .getfield 1 1 29 := ⟨64, ("EstateDesk$Persons", eT1, 5), by decide +kernel, rfl, rfl, by decide, rfl, Or.inr ⟨"EstateDesk", tb1 33 rfl⟩⟩
theorem dD_person_29 : Dv mD_person 29 .iload_n .iload 1 30 := Or.inl ⟨1, by decide +kernel, rfl, rfl⟩
theorem dD_person_30 : Dv mD_person 30 .iload_n .iload 2 31 := Or.inl ⟨2, by decide +kernel, rfl, rfl⟩
theorem dD_person_31 : Dn mD_person 31 .iastore 1 32 := ⟨by decide +kernel, rfl⟩
theorem dD_person_32 : Dv mD_person 32 .aload_n .aload 0 33 := Or.inl ⟨0, by decide +kernel, rfl, rfl⟩
theorem dD_person_33 : LkV mD_person 33 36 mD_noteFact := ⟨59, by decide +kernel, rfl, Or.inl (tb2 119 rfl), tb2 121 rfl, ts 2 rfl⟩
theorem dD_person_36 : Dn mD_person 36 .return_ 1 37 := ⟨by decide +kernel, rfl⟩
theorem dD_asset_0 : Dv mD_asset 0 .iload_n .iload 1 1 := Or.inl ⟨1, by decide +kernel, rfl, rfl⟩
theorem dD_asset_1 : Dn mD_asset 1 .i2l 1 2 := ⟨by decide +kernel, rfl⟩
theorem dD_asset_2 : Dl mD_asset 2 1 3 := Or.inl ⟨1, by decide +kernel, rfl, rfl⟩
theorem dD_asset_3 : Dl mD_asset 3 40 6 := Or.inr ⟨62, by decide +kernel, tb2 130 rfl, rfl⟩
theorem dD_asset_6 : LkS mD_asset 6 9 mD_requireWithin := ⟨48, by decide +kernel, rfl, Or.inl (tb2 29 rfl), tb2 30 rfl⟩
theorem dD_asset_9 : Dv mD_asset 9 .lload_n .lload 2 10 := Or.inl ⟨2, by decide +kernel, rfl, rfl⟩
theorem dD_asset_10 : Dl mD_asset 10 0 11 := Or.inl ⟨0, by decide +kernel, rfl, rfl⟩
theorem dD_asset_11 : Dl mD_asset 11 1000000000000 14 := Or.inr ⟨68, by decide +kernel, tb2 138 rfl, rfl⟩
theorem dD_asset_14 : LkS mD_asset 14 17 mD_requireWithin := ⟨48, by decide +kernel, rfl, Or.inl (tb2 29 rfl), tb2 30 rfl⟩
theorem dD_asset_17 : Dv mD_asset 17 .aload_n .aload 0 18 := Or.inl ⟨0, by decide +kernel, rfl, rfl⟩
theorem dD_asset_18 : LkV mD_asset 18 21 mD_requireOpen := ⟨52, by decide +kernel, rfl, Or.inl (tb2 97 rfl), tb2 99 rfl, ts 1 rfl⟩
theorem dD_asset_21 : Dv mD_asset 21 .aload_n .aload 0 22 := Or.inl ⟨0, by decide +kernel, rfl, rfl⟩
theorem dD_asset_22 : Df mD_asset 22 .getfield 0 1 25 := ⟨19, ("EstateDesk", eT0, 8), by decide +kernel, rfl, rfl, by decide, rfl, Or.inl (tb1 235 rfl)⟩
theorem dD_asset_25 : Df mD_asset 25 .getfield 2 0 28 := ⟨70, ("EstateDesk$Assets", eT2, 7), by decide +kernel, rfl, rfl, by decide, rfl, Or.inr ⟨"EstateDesk", tb1 63 rfl⟩⟩
theorem dD_asset_28 : Dv mD_asset 28 .iload_n .iload 1 29 := Or.inl ⟨1, by decide +kernel, rfl, rfl⟩
theorem dD_asset_29 : Dn mD_asset 29 .baload 1 30 := ⟨by decide +kernel, rfl⟩
theorem dD_asset_30 : Dj mD_asset 30 (.ifCond .ne) 33 37 := ⟨7, by decide +kernel, rfl, rfl⟩
theorem dD_asset_33 : Dk mD_asset 33 1 34 := Or.inl ⟨1, by decide +kernel, rfl, rfl⟩
theorem dD_asset_34 : Dj mD_asset 34 .goto 37 38 := ⟨4, by decide +kernel, rfl, rfl⟩
theorem dD_asset_37 : Dk mD_asset 37 0 38 := Or.inl ⟨0, by decide +kernel, rfl, rfl⟩
theorem dD_asset_38 : LkS mD_asset 38 41 mD_requireState := ⟨74, by decide +kernel, rfl, Or.inl (tb2 101 rfl), tb2 102 rfl⟩
theorem dD_asset_41 : Dv mD_asset 41 .aload_n .aload 0 42 := Or.inl ⟨0, by decide +kernel, rfl, rfl⟩
theorem dD_asset_42 : Df mD_asset 42 .getfield 0 1 45 := ⟨19, ("EstateDesk", eT0, 8), by decide +kernel, rfl, rfl, by decide, rfl, Or.inl (tb1 235 rfl)⟩
theorem dD_asset_45 : Df mD_asset 45 .getfield 2 0 48 := ⟨70, ("EstateDesk$Assets", eT2, 7), by decide +kernel, rfl, rfl, by decide, rfl, Or.inr ⟨"EstateDesk", tb1 63 rfl⟩⟩
theorem dD_asset_48 : Dv mD_asset 48 .iload_n .iload 1 49 := Or.inl ⟨1, by decide +kernel, rfl, rfl⟩
theorem dD_asset_49 : Dk mD_asset 49 1 50 := Or.inl ⟨1, by decide +kernel, rfl, rfl⟩
theorem dD_asset_50 : Dn mD_asset 50 .bastore 1 51 := ⟨by decide +kernel, rfl⟩
theorem dD_asset_51 : Dv mD_asset 51 .aload_n .aload 0 52 := Or.inl ⟨0, by decide +kernel, rfl, rfl⟩
theorem dD_asset_52 : Df mD_asset 52 .getfield 0 1 55 := ⟨19, ("EstateDesk", eT0, 8), by decide +kernel, rfl, rfl, by decide, rfl, Or.inl (tb1 235 rfl)⟩
theorem dD_asset_55 : Df mD_asset 55 .getfield 2 1 58 := ⟨78, ("EstateDesk$Assets", eT2, 7), by decide +kernel, rfl, rfl, by decide, rfl, Or.inr ⟨"EstateDesk", tb1 65 rfl⟩⟩
theorem dD_asset_58 : Dv mD_asset 58 .iload_n .iload 1 59 := Or.inl ⟨1, by decide +kernel, rfl, rfl⟩
theorem dD_asset_59 : Dv mD_asset 59 .lload_n .lload 2 60 := Or.inl ⟨2, by decide +kernel, rfl, rfl⟩
theorem dD_asset_60 : Dn mD_asset 60 .lastore 1 61 := ⟨by decide +kernel, rfl⟩
theorem dD_asset_61 : Dv mD_asset 61 .aload_n .aload 0 62 := Or.inl ⟨0, by decide +kernel, rfl, rfl⟩
theorem dD_asset_62 : Df mD_asset 62 .getfield 0 1 65 := ⟨19, ("EstateDesk", eT0, 8), by decide +kernel, rfl, rfl, by decide, rfl, Or.inl (tb1 235 rfl)⟩
theorem dD_asset_65 : Df mD_asset 65 .getfield 2 2 68 := ⟨82, ("EstateDesk$Assets", eT2, 7), by decide +kernel, rfl, rfl, by decide, rfl, Or.inr ⟨"EstateDesk", tb1 68 rfl⟩⟩
theorem dD_asset_68 : Dv mD_asset 68 .iload_n .iload 1 69 := Or.inl ⟨1, by decide +kernel, rfl, rfl⟩
theorem dD_asset_69 : Dv mD_asset 69 .iload_n .iload 4 71 := Or.inr ⟨by decide +kernel, rfl⟩
theorem dD_asset_71 : Dn mD_asset 71 .bastore 1 72 := ⟨by decide +kernel, rfl⟩
theorem dD_asset_72 : Dv mD_asset 72 .aload_n .aload 0 73 := Or.inl ⟨0, by decide +kernel, rfl, rfl⟩
theorem dD_asset_73 : LkV mD_asset 73 76 mD_noteFact := ⟨59, by decide +kernel, rfl, Or.inl (tb2 119 rfl), tb2 121 rfl, ts 2 rfl⟩
theorem dD_asset_76 : Dn mD_asset 76 .return_ 1 77 := ⟨by decide +kernel, rfl⟩
theorem dD_revalue_0 : Dv mD_revalue 0 .aload_n .aload 0 1 := Or.inl ⟨0, by decide +kernel, rfl, rfl⟩
theorem dD_revalue_1 : Dv mD_revalue 1 .iload_n .iload 1 2 := Or.inl ⟨1, by decide +kernel, rfl, rfl⟩
theorem dD_revalue_2 : LkV mD_revalue 2 5 mD_requireAsset := ⟨85, by decide +kernel, rfl, Or.inl (tb2 146 rfl), tb2 148 rfl, ts 3 rfl⟩
theorem dD_revalue_5 : Dv mD_revalue 5 .lload_n .lload 2 6 := Or.inl ⟨2, by decide +kernel, rfl, rfl⟩
theorem dD_revalue_6 : Dl mD_revalue 6 0 7 := Or.inl ⟨0, by decide +kernel, rfl, rfl⟩
theorem dD_revalue_7 : Dl mD_revalue 7 1000000000000 10 := Or.inr ⟨68, by decide +kernel, tb2 138 rfl, rfl⟩
theorem dD_revalue_10 : LkS mD_revalue 10 13 mD_requireWithin := ⟨48, by decide +kernel, rfl, Or.inl (tb2 29 rfl), tb2 30 rfl⟩
theorem dD_revalue_13 : Dv mD_revalue 13 .aload_n .aload 0 14 := Or.inl ⟨0, by decide +kernel, rfl, rfl⟩
theorem dD_revalue_14 : LkV mD_revalue 14 17 mD_requireOpen := ⟨52, by decide +kernel, rfl, Or.inl (tb2 97 rfl), tb2 99 rfl, ts 1 rfl⟩
theorem dD_revalue_17 : Dv mD_revalue 17 .aload_n .aload 0 18 := Or.inl ⟨0, by decide +kernel, rfl, rfl⟩
theorem dD_revalue_18 : Df mD_revalue 18 .getfield 0 1 21 := ⟨19, ("EstateDesk", eT0, 8), by decide +kernel, rfl, rfl, by decide, rfl, Or.inl (tb1 235 rfl)⟩
theorem dD_revalue_21 : Df mD_revalue 21 .getfield 2 1 24 := ⟨78, ("EstateDesk$Assets", eT2, 7), by decide +kernel, rfl, rfl, by decide, rfl, Or.inr ⟨"EstateDesk", tb1 65 rfl⟩⟩
theorem dD_revalue_24 : Dv mD_revalue 24 .iload_n .iload 1 25 := Or.inl ⟨1, by decide +kernel, rfl, rfl⟩
theorem dD_revalue_25 : Dn mD_revalue 25 .laload 1 26 := ⟨by decide +kernel, rfl⟩
theorem dD_revalue_26 : Dv mD_revalue 26 .lstore_n .lstore 4 28 := Or.inr ⟨by decide +kernel, rfl⟩
theorem dD_revalue_28 : Dv mD_revalue 28 .aload_n .aload 0 29 := Or.inl ⟨0, by decide +kernel, rfl, rfl⟩
theorem dD_revalue_29 : Df mD_revalue 29 .getfield 0 1 32 := ⟨19, ("EstateDesk", eT0, 8), by decide +kernel, rfl, rfl, by decide, rfl, Or.inl (tb1 235 rfl)⟩
theorem dD_revalue_32 : Df mD_revalue 32 .getfield 2 1 35 := ⟨78, ("EstateDesk$Assets", eT2, 7), by decide +kernel, rfl, rfl, by decide, rfl, Or.inr ⟨"EstateDesk", tb1 65 rfl⟩⟩
theorem dD_revalue_35 : Dv mD_revalue 35 .iload_n .iload 1 36 := Or.inl ⟨1, by decide +kernel, rfl, rfl⟩
theorem dD_revalue_36 : Dv mD_revalue 36 .lload_n .lload 2 37 := Or.inl ⟨2, by decide +kernel, rfl, rfl⟩
theorem dD_revalue_37 : Dn mD_revalue 37 .lastore 1 38 := ⟨by decide +kernel, rfl⟩
theorem dD_revalue_38 : Dv mD_revalue 38 .aload_n .aload 0 39 := Or.inl ⟨0, by decide +kernel, rfl, rfl⟩
theorem dD_revalue_39 : LkV mD_revalue 39 42 mD_noteFact := ⟨59, by decide +kernel, rfl, Or.inl (tb2 119 rfl), tb2 121 rfl, ts 2 rfl⟩
theorem dD_revalue_42 : Dv mD_revalue 42 .lload_n .lload 4 44 := Or.inr ⟨by decide +kernel, rfl⟩
theorem dD_revalue_44 : Dn mD_revalue 44 .lreturn 1 45 := ⟨by decide +kernel, rfl⟩
theorem dD_gone_0 : Dv mD_gone 0 .aload_n .aload 0 1 := Or.inl ⟨0, by decide +kernel, rfl, rfl⟩
theorem dD_gone_1 : Dv mD_gone 1 .iload_n .iload 1 2 := Or.inl ⟨1, by decide +kernel, rfl, rfl⟩
theorem dD_gone_2 : LkV mD_gone 2 5 mD_requireAsset := ⟨85, by decide +kernel, rfl, Or.inl (tb2 146 rfl), tb2 148 rfl, ts 3 rfl⟩
theorem dD_gone_5 : Dv mD_gone 5 .aload_n .aload 0 6 := Or.inl ⟨0, by decide +kernel, rfl, rfl⟩
theorem dD_gone_6 : LkV mD_gone 6 9 mD_requireOpen := ⟨52, by decide +kernel, rfl, Or.inl (tb2 97 rfl), tb2 99 rfl, ts 1 rfl⟩
theorem dD_gone_9 : Dv mD_gone 9 .aload_n .aload 0 10 := Or.inl ⟨0, by decide +kernel, rfl, rfl⟩
theorem dD_gone_10 : Df mD_gone 10 .getfield 0 1 13 := ⟨19, ("EstateDesk", eT0, 8), by decide +kernel, rfl, rfl, by decide, rfl, Or.inl (tb1 235 rfl)⟩
theorem dD_gone_13 : Df mD_gone 13 .getfield 2 3 16 := ⟨89, ("EstateDesk$Assets", eT2, 7), by decide +kernel, rfl, rfl, by decide, rfl, Or.inr ⟨"EstateDesk", tb1 71 rfl⟩⟩
theorem dD_gone_16 : Dv mD_gone 16 .iload_n .iload 1 17 := Or.inl ⟨1, by decide +kernel, rfl, rfl⟩
theorem dD_gone_17 : Dk mD_gone 17 1 18 := Or.inl ⟨1, by decide +kernel, rfl, rfl⟩
theorem dD_gone_18 : Dn mD_gone 18 .bastore 1 19 := ⟨by decide +kernel, rfl⟩
theorem dD_gone_19 : Dv mD_gone 19 .aload_n .aload 0 20 := Or.inl ⟨0, by decide +kernel, rfl, rfl⟩
theorem dD_gone_20 : LkV mD_gone 20 23 mD_noteFact := ⟨59, by decide +kernel, rfl, Or.inl (tb2 119 rfl), tb2 121 rfl, ts 2 rfl⟩
theorem dD_gone_23 : Dn mD_gone 23 .return_ 1 24 := ⟨by decide +kernel, rfl⟩
theorem dD_gift_0 : Dv mD_gift 0 .iload_n .iload 1 1 := Or.inl ⟨1, by decide +kernel, rfl, rfl⟩
theorem dD_gift_1 : Dn mD_gift 1 .i2l 1 2 := ⟨by decide +kernel, rfl⟩
theorem dD_gift_2 : Dl mD_gift 2 1 3 := Or.inl ⟨1, by decide +kernel, rfl, rfl⟩
theorem dD_gift_3 : Dl mD_gift 3 40 6 := Or.inr ⟨62, by decide +kernel, tb2 130 rfl, rfl⟩
theorem dD_gift_6 : LkS mD_gift 6 9 mD_requireWithin := ⟨48, by decide +kernel, rfl, Or.inl (tb2 29 rfl), tb2 30 rfl⟩
theorem dD_gift_9 : Dv mD_gift 9 .aload_n .aload 0 10 := Or.inl ⟨0, by decide +kernel, rfl, rfl⟩
theorem dD_gift_10 : Dv mD_gift 10 .iload_n .iload 2 11 := Or.inl ⟨2, by decide +kernel, rfl, rfl⟩
theorem dD_gift_11 : LkV mD_gift 11 14 mD_requireAsset := ⟨85, by decide +kernel, rfl, Or.inl (tb2 146 rfl), tb2 148 rfl, ts 3 rfl⟩
theorem dD_gift_14 : Dv mD_gift 14 .aload_n .aload 0 15 := Or.inl ⟨0, by decide +kernel, rfl, rfl⟩
theorem dD_gift_15 : LkV mD_gift 15 18 mD_requireOpen := ⟨52, by decide +kernel, rfl, Or.inl (tb2 97 rfl), tb2 99 rfl, ts 1 rfl⟩
theorem dD_gift_18 : Dv mD_gift 18 .aload_n .aload 0 19 := Or.inl ⟨0, by decide +kernel, rfl, rfl⟩
theorem dD_gift_19 : Df mD_gift 19 .getfield 0 2 22 := ⟨26, ("EstateDesk", eT0, 8), by decide +kernel, rfl, rfl, by decide, rfl, Or.inl (tb1 236 rfl)⟩
theorem dD_gift_22 : Dv mD_gift 22 .iload_n .iload 1 23 := Or.inl ⟨1, by decide +kernel, rfl, rfl⟩
theorem dD_gift_23 : Dv mD_gift 23 .iload_n .iload 2 24 := Or.inl ⟨2, by decide +kernel, rfl, rfl⟩
theorem dD_gift_24 : LkV mD_gift 24 27 mC_anotherHas := ⟨92, by decide +kernel, rfl, Or.inl (tb2 164 rfl), tb2 165 rfl, tb2 166 rfl⟩
theorem dD_gift_27 : Dj mD_gift 27 (.ifCond .ne) 30 34 := ⟨7, by decide +kernel, rfl, rfl⟩
theorem dD_gift_30 : Dk mD_gift 30 1 31 := Or.inl ⟨1, by decide +kernel, rfl, rfl⟩
theorem dD_gift_31 : Dj mD_gift 31 .goto 34 35 := ⟨4, by decide +kernel, rfl, rfl⟩
theorem dD_gift_34 : Dk mD_gift 34 0 35 := Or.inl ⟨0, by decide +kernel, rfl, rfl⟩
theorem dD_gift_35 : LkS mD_gift 35 38 mD_requireState := ⟨74, by decide +kernel, rfl, Or.inl (tb2 101 rfl), tb2 102 rfl⟩
theorem dD_gift_38 : Dv mD_gift 38 .aload_n .aload 0 39 := Or.inl ⟨0, by decide +kernel, rfl, rfl⟩
theorem dD_gift_39 : Df mD_gift 39 .getfield 0 2 42 := ⟨26, ("EstateDesk", eT0, 8), by decide +kernel, rfl, rfl, by decide, rfl, Or.inl (tb1 236 rfl)⟩
theorem dD_gift_42 : Dv mD_gift 42 .iload_n .iload 1 43 := Or.inl ⟨1, by decide +kernel, rfl, rfl⟩
theorem dD_gift_43 : Dk mD_gift 43 1 44 := Or.inl ⟨1, by decide +kernel, rfl, rfl⟩
theorem dD_gift_44 : Dl mD_gift 44 0 45 := Or.inl ⟨0, by decide +kernel, rfl, rfl⟩
theorem dD_gift_45 : Dv mD_gift 45 .iload_n .iload 2 46 := Or.inl ⟨2, by decide +kernel, rfl, rfl⟩
theorem dD_gift_46 : LkV mD_gift 46 49 mC_write := ⟨96, by decide +kernel, rfl, Or.inl (tb2 168 rfl), tb2 169 rfl, tb2 170 rfl⟩
theorem dD_gift_49 : Dv mD_gift 49 .aload_n .aload 0 50 := Or.inl ⟨0, by decide +kernel, rfl, rfl⟩
theorem dD_gift_50 : LkV mD_gift 50 53 mD_noteFact := ⟨59, by decide +kernel, rfl, Or.inl (tb2 119 rfl), tb2 121 rfl, ts 2 rfl⟩
theorem dD_gift_53 : Dn mD_gift 53 .return_ 1 54 := ⟨by decide +kernel, rfl⟩
theorem dD_legacy_0 : Dv mD_legacy 0 .iload_n .iload 1 1 := Or.inl ⟨1, by decide +kernel, rfl, rfl⟩
theorem dD_legacy_1 : Dn mD_legacy 1 .i2l 1 2 := ⟨by decide +kernel, rfl⟩
theorem dD_legacy_2 : Dl mD_legacy 2 1 3 := Or.inl ⟨1, by decide +kernel, rfl, rfl⟩
theorem dD_legacy_3 : Dl mD_legacy 3 40 6 := Or.inr ⟨62, by decide +kernel, tb2 130 rfl, rfl⟩
theorem dD_legacy_6 : LkS mD_legacy 6 9 mD_requireWithin := ⟨48, by decide +kernel, rfl, Or.inl (tb2 29 rfl), tb2 30 rfl⟩
theorem dD_legacy_9 : Dv mD_legacy 9 .lload_n .lload 2 10 := Or.inl ⟨2, by decide +kernel, rfl, rfl⟩
theorem dD_legacy_10 : Dl mD_legacy 10 0 11 := Or.inl ⟨0, by decide +kernel, rfl, rfl⟩
theorem dD_legacy_11 : Dl mD_legacy 11 1000000000000 14 := Or.inr ⟨68, by decide +kernel, tb2 138 rfl, rfl⟩
theorem dD_legacy_14 : LkS mD_legacy 14 17 mD_requireWithin := ⟨48, by decide +kernel, rfl, Or.inl (tb2 29 rfl), tb2 30 rfl⟩
theorem dD_legacy_17 : Dv mD_legacy 17 .aload_n .aload 0 18 := Or.inl ⟨0, by decide +kernel, rfl, rfl⟩
theorem dD_legacy_18 : Dv mD_legacy 18 .iload_n .iload 4 20 := Or.inr ⟨by decide +kernel, rfl⟩
theorem dD_legacy_20 : LkV mD_legacy 20 23 mD_requireAssetOrNone := ⟨100, by decide +kernel, rfl, Or.inl (tb2 179 rfl), tb2 181 rfl, ts 4 rfl⟩
theorem dD_legacy_23 : Dv mD_legacy 23 .iload_n .iload 4 25 := Or.inr ⟨by decide +kernel, rfl⟩
theorem dD_legacy_25 : Dj mD_legacy 25 (.ifCond .eq) 28 41 := ⟨16, by decide +kernel, rfl, rfl⟩
theorem dD_legacy_28 : Dv mD_legacy 28 .aload_n .aload 0 29 := Or.inl ⟨0, by decide +kernel, rfl, rfl⟩
theorem dD_legacy_29 : Df mD_legacy 29 .getfield 0 1 32 := ⟨19, ("EstateDesk", eT0, 8), by decide +kernel, rfl, rfl, by decide, rfl, Or.inl (tb1 235 rfl)⟩
theorem dD_legacy_32 : Df mD_legacy 32 .getfield 2 2 35 := ⟨82, ("EstateDesk$Assets", eT2, 7), by decide +kernel, rfl, rfl, by decide, rfl, Or.inr ⟨"EstateDesk", tb1 68 rfl⟩⟩
theorem dD_legacy_35 : Dv mD_legacy 35 .iload_n .iload 4 37 := Or.inr ⟨by decide +kernel, rfl⟩
theorem dD_legacy_37 : Dn mD_legacy 37 .baload 1 38 := ⟨by decide +kernel, rfl⟩
theorem dD_legacy_38 : Dj mD_legacy 38 (.ifCond .eq) 41 45 := ⟨7, by decide +kernel, rfl, rfl⟩
theorem dD_legacy_41 : Dk mD_legacy 41 1 42 := Or.inl ⟨1, by decide +kernel, rfl, rfl⟩
theorem dD_legacy_42 : Dj mD_legacy 42 .goto 45 46 := ⟨4, by decide +kernel, rfl, rfl⟩
theorem dD_legacy_45 : Dk mD_legacy 45 0 46 := Or.inl ⟨0, by decide +kernel, rfl, rfl⟩
theorem dD_legacy_46 : LkS mD_legacy 46 49 mD_requireArgument := ⟨103, by decide +kernel, rfl, Or.inl (tb2 32 rfl), tb2 33 rfl⟩
theorem dD_legacy_49 : Dv mD_legacy 49 .aload_n .aload 0 50 := Or.inl ⟨0, by decide +kernel, rfl, rfl⟩
theorem dD_legacy_50 : LkV mD_legacy 50 53 mD_requireOpen := ⟨52, by decide +kernel, rfl, Or.inl (tb2 97 rfl), tb2 99 rfl, ts 1 rfl⟩
theorem dD_legacy_53 : Dv mD_legacy 53 .aload_n .aload 0 54 := Or.inl ⟨0, by decide +kernel, rfl, rfl⟩
theorem dD_legacy_54 : Df mD_legacy 54 .getfield 0 2 57 := ⟨26, ("EstateDesk", eT0, 8), by decide +kernel, rfl, rfl, by decide, rfl, Or.inl (tb1 236 rfl)⟩
theorem dD_legacy_57 : Dv mD_legacy 57 .iload_n .iload 1 58 := Or.inl ⟨1, by decide +kernel, rfl, rfl⟩
theorem dD_legacy_58 : Dv mD_legacy 58 .iload_n .iload 4 60 := Or.inr ⟨by decide +kernel, rfl⟩
theorem dD_legacy_60 : LkV mD_legacy 60 63 mC_anotherGives := ⟨106, by decide +kernel, rfl, Or.inl (tb2 183 rfl), tb2 184 rfl, tb2 185 rfl⟩
theorem dD_legacy_63 : Dj mD_legacy 63 (.ifCond .ne) 66 70 := ⟨7, by decide +kernel, rfl, rfl⟩
theorem dD_legacy_66 : Dk mD_legacy 66 1 67 := Or.inl ⟨1, by decide +kernel, rfl, rfl⟩
theorem dD_legacy_67 : Dj mD_legacy 67 .goto 70 71 := ⟨4, by decide +kernel, rfl, rfl⟩
theorem dD_legacy_70 : Dk mD_legacy 70 0 71 := Or.inl ⟨0, by decide +kernel, rfl, rfl⟩
theorem dD_legacy_71 : LkS mD_legacy 71 74 mD_requireState := ⟨74, by decide +kernel, rfl, Or.inl (tb2 101 rfl), tb2 102 rfl⟩
theorem dD_legacy_74 : Dv mD_legacy 74 .aload_n .aload 0 75 := Or.inl ⟨0, by decide +kernel, rfl, rfl⟩
theorem dD_legacy_75 : Df mD_legacy 75 .getfield 0 2 78 := ⟨26, ("EstateDesk", eT0, 8), by decide +kernel, rfl, rfl, by decide, rfl, Or.inl (tb1 236 rfl)⟩
theorem dD_legacy_78 : Dv mD_legacy 78 .iload_n .iload 1 79 := Or.inl ⟨1, by decide +kernel, rfl, rfl⟩
theorem dD_legacy_79 : Dk mD_legacy 79 2 80 := Or.inl ⟨2, by decide +kernel, rfl, rfl⟩
theorem dD_legacy_80 : Dv mD_legacy 80 .lload_n .lload 2 81 := Or.inl ⟨2, by decide +kernel, rfl, rfl⟩
theorem dD_legacy_81 : Dv mD_legacy 81 .iload_n .iload 4 83 := Or.inr ⟨by decide +kernel, rfl⟩
theorem dD_legacy_83 : LkV mD_legacy 83 86 mC_write := ⟨96, by decide +kernel, rfl, Or.inl (tb2 168 rfl), tb2 169 rfl, tb2 170 rfl⟩
theorem dD_legacy_86 : Dv mD_legacy 86 .aload_n .aload 0 87 := Or.inl ⟨0, by decide +kernel, rfl, rfl⟩
theorem dD_legacy_87 : LkV mD_legacy 87 90 mD_noteFact := ⟨59, by decide +kernel, rfl, Or.inl (tb2 119 rfl), tb2 121 rfl, ts 2 rfl⟩
theorem dD_legacy_90 : Dn mD_legacy 90 .return_ 1 91 := ⟨by decide +kernel, rfl⟩
theorem dD_annuity_0 : Dv mD_annuity 0 .iload_n .iload 1 1 := Or.inl ⟨1, by decide +kernel, rfl, rfl⟩
theorem dD_annuity_1 : Dn mD_annuity 1 .i2l 1 2 := ⟨by decide +kernel, rfl⟩
theorem dD_annuity_2 : Dl mD_annuity 2 1 3 := Or.inl ⟨1, by decide +kernel, rfl, rfl⟩
theorem dD_annuity_3 : Dl mD_annuity 3 40 6 := Or.inr ⟨62, by decide +kernel, tb2 130 rfl, rfl⟩
theorem dD_annuity_6 : LkS mD_annuity 6 9 mD_requireWithin := ⟨48, by decide +kernel, rfl, Or.inl (tb2 29 rfl), tb2 30 rfl⟩
theorem dD_annuity_9 : Dv mD_annuity 9 .lload_n .lload 2 10 := Or.inl ⟨2, by decide +kernel, rfl, rfl⟩
theorem dD_annuity_10 : Dl mD_annuity 10 0 11 := Or.inl ⟨0, by decide +kernel, rfl, rfl⟩
theorem dD_annuity_11 : Dl mD_annuity 11 1000000000 14 := Or.inr ⟨109, by decide +kernel, tb2 194 rfl, rfl⟩
theorem dD_annuity_14 : LkS mD_annuity 14 17 mD_requireWithin := ⟨48, by decide +kernel, rfl, Or.inl (tb2 29 rfl), tb2 30 rfl⟩
theorem dD_annuity_17 : Dv mD_annuity 17 .iload_n .iload 4 19 := Or.inr ⟨by decide +kernel, rfl⟩
theorem dD_annuity_19 : Dn mD_annuity 19 .i2l 1 20 := ⟨by decide +kernel, rfl⟩
theorem dD_annuity_20 : Dl mD_annuity 20 0 21 := Or.inl ⟨0, by decide +kernel, rfl, rfl⟩
theorem dD_annuity_21 : Dl mD_annuity 21 99 24 := Or.inr ⟨111, by decide +kernel, tb2 195 rfl, rfl⟩
theorem dD_annuity_24 : LkS mD_annuity 24 27 mD_requireWithin := ⟨48, by decide +kernel, rfl, Or.inl (tb2 29 rfl), tb2 30 rfl⟩
theorem dD_annuity_27 : Dv mD_annuity 27 .aload_n .aload 0 28 := Or.inl ⟨0, by decide +kernel, rfl, rfl⟩
theorem dD_annuity_28 : LkV mD_annuity 28 31 mD_requireOpen := ⟨52, by decide +kernel, rfl, Or.inl (tb2 97 rfl), tb2 99 rfl, ts 1 rfl⟩
theorem dD_annuity_31 : Dv mD_annuity 31 .aload_n .aload 0 32 := Or.inl ⟨0, by decide +kernel, rfl, rfl⟩
theorem dD_annuity_32 : Df mD_annuity 32 .getfield 0 2 35 := ⟨26, ("EstateDesk", eT0, 8), by decide +kernel, rfl, rfl, by decide, rfl, Or.inl (tb1 236 rfl)⟩
theorem dD_annuity_35 : Dv mD_annuity 35 .iload_n .iload 1 36 := Or.inl ⟨1, by decide +kernel, rfl, rfl⟩
theorem dD_annuity_36 : Dk mD_annuity 36 3 37 := Or.inl ⟨3, by decide +kernel, rfl, rfl⟩
theorem dD_annuity_37 : Dv mD_annuity 37 .lload_n .lload 2 38 := Or.inl ⟨2, by decide +kernel, rfl, rfl⟩
theorem dD_annuity_38 : Dv mD_annuity 38 .iload_n .iload 4 40 := Or.inr ⟨by decide +kernel, rfl⟩
theorem dD_annuity_40 : LkS mD_annuity 40 43 mD_annuityValue := ⟨113, by decide +kernel, rfl, Or.inl (tb2 196 rfl), tb2 197 rfl⟩
theorem dD_annuity_43 : Dk mD_annuity 43 0 44 := Or.inl ⟨0, by decide +kernel, rfl, rfl⟩
theorem dD_annuity_44 : LkV mD_annuity 44 47 mC_write := ⟨96, by decide +kernel, rfl, Or.inl (tb2 168 rfl), tb2 169 rfl, tb2 170 rfl⟩
theorem dD_annuity_47 : Dv mD_annuity 47 .aload_n .aload 0 48 := Or.inl ⟨0, by decide +kernel, rfl, rfl⟩
theorem dD_annuity_48 : LkV mD_annuity 48 51 mD_noteFact := ⟨59, by decide +kernel, rfl, Or.inl (tb2 119 rfl), tb2 121 rfl, ts 2 rfl⟩
theorem dD_annuity_51 : Dn mD_annuity 51 .return_ 1 52 := ⟨by decide +kernel, rfl⟩
theorem dD_residue_0 : Dv mD_residue 0 .iload_n .iload 1 1 := Or.inl ⟨1, by decide +kernel, rfl, rfl⟩
theorem dD_residue_1 : Dn mD_residue 1 .i2l 1 2 := ⟨by decide +kernel, rfl⟩
theorem dD_residue_2 : Dl mD_residue 2 1 3 := Or.inl ⟨1, by decide +kernel, rfl, rfl⟩
theorem dD_residue_3 : Dl mD_residue 3 40 6 := Or.inr ⟨62, by decide +kernel, tb2 130 rfl, rfl⟩
theorem dD_residue_6 : LkS mD_residue 6 9 mD_requireWithin := ⟨48, by decide +kernel, rfl, Or.inl (tb2 29 rfl), tb2 30 rfl⟩
theorem dD_residue_9 : Dv mD_residue 9 .iload_n .iload 2 10 := Or.inl ⟨2, by decide +kernel, rfl, rfl⟩
theorem dD_residue_10 : Dn mD_residue 10 .i2l 1 11 := ⟨by decide +kernel, rfl⟩
theorem dD_residue_11 : Dl mD_residue 11 1 12 := Or.inl ⟨1, by decide +kernel, rfl, rfl⟩
theorem dD_residue_12 : Dl mD_residue 12 1000 15 := Or.inr ⟨117, by decide +kernel, tb2 209 rfl, rfl⟩
theorem dD_residue_15 : LkS mD_residue 15 18 mD_requireWithin := ⟨48, by decide +kernel, rfl, Or.inl (tb2 29 rfl), tb2 30 rfl⟩
theorem dD_residue_18 : Dv mD_residue 18 .aload_n .aload 0 19 := Or.inl ⟨0, by decide +kernel, rfl, rfl⟩
theorem dD_residue_19 : LkV mD_residue 19 22 mD_requireOpen := ⟨52, by decide +kernel, rfl, Or.inl (tb2 97 rfl), tb2 99 rfl, ts 1 rfl⟩
theorem dD_residue_22 : Dv mD_residue 22 .aload_n .aload 0 23 := Or.inl ⟨0, by decide +kernel, rfl, rfl⟩
theorem dD_residue_23 : Df mD_residue 23 .getfield 0 2 26 := ⟨26, ("EstateDesk", eT0, 8), by decide +kernel, rfl, rfl, by decide, rfl, Or.inl (tb1 236 rfl)⟩
theorem dD_residue_26 : Dv mD_residue 26 .iload_n .iload 1 27 := Or.inl ⟨1, by decide +kernel, rfl, rfl⟩
theorem dD_residue_27 : Dk mD_residue 27 4 28 := Or.inl ⟨4, by decide +kernel, rfl, rfl⟩
theorem dD_residue_28 : Dv mD_residue 28 .iload_n .iload 2 29 := Or.inl ⟨2, by decide +kernel, rfl, rfl⟩
theorem dD_residue_29 : Dn mD_residue 29 .i2l 1 30 := ⟨by decide +kernel, rfl⟩
theorem dD_residue_30 : Dk mD_residue 30 0 31 := Or.inl ⟨0, by decide +kernel, rfl, rfl⟩
theorem dD_residue_31 : LkV mD_residue 31 34 mC_write := ⟨96, by decide +kernel, rfl, Or.inl (tb2 168 rfl), tb2 169 rfl, tb2 170 rfl⟩
theorem dD_residue_34 : Dv mD_residue 34 .aload_n .aload 0 35 := Or.inl ⟨0, by decide +kernel, rfl, rfl⟩
theorem dD_residue_35 : LkV mD_residue 35 38 mD_noteFact := ⟨59, by decide +kernel, rfl, Or.inl (tb2 119 rfl), tb2 121 rfl, ts 2 rfl⟩
theorem dD_residue_38 : Dn mD_residue 38 .return_ 1 39 := ⟨by decide +kernel, rfl⟩
theorem dD_strike_0 : Dv mD_strike 0 .iload_n .iload 1 1 := Or.inl ⟨1, by decide +kernel, rfl, rfl⟩
theorem dD_strike_1 : Dn mD_strike 1 .i2l 1 2 := ⟨by decide +kernel, rfl⟩
theorem dD_strike_2 : Dl mD_strike 2 1 3 := Or.inl ⟨1, by decide +kernel, rfl, rfl⟩
theorem dD_strike_3 : Dl mD_strike 3 40 6 := Or.inr ⟨62, by decide +kernel, tb2 130 rfl, rfl⟩
theorem dD_strike_6 : LkS mD_strike 6 9 mD_requireWithin := ⟨48, by decide +kernel, rfl, Or.inl (tb2 29 rfl), tb2 30 rfl⟩
theorem dD_strike_9 : Dv mD_strike 9 .aload_n .aload 0 10 := Or.inl ⟨0, by decide +kernel, rfl, rfl⟩
theorem dD_strike_10 : LkV mD_strike 10 13 mD_requireOpen := ⟨52, by decide +kernel, rfl, Or.inl (tb2 97 rfl), tb2 99 rfl, ts 1 rfl⟩
theorem dD_strike_13 : Dv mD_strike 13 .aload_n .aload 0 14 := Or.inl ⟨0, by decide +kernel, rfl, rfl⟩
theorem dD_strike_14 : Df mD_strike 14 .getfield 0 2 17 := ⟨26, ("EstateDesk", eT0, 8), by decide +kernel, rfl, rfl, by decide, rfl, Or.inl (tb1 236 rfl)⟩
theorem dD_strike_17 : Dv mD_strike 17 .iload_n .iload 1 18 := Or.inl ⟨1, by decide +kernel, rfl, rfl⟩
theorem dD_strike_18 : Dk mD_strike 18 0 19 := Or.inl ⟨0, by decide +kernel, rfl, rfl⟩
theorem dD_strike_19 : Dl mD_strike 19 0 20 := Or.inl ⟨0, by decide +kernel, rfl, rfl⟩
theorem dD_strike_20 : Dk mD_strike 20 0 21 := Or.inl ⟨0, by decide +kernel, rfl, rfl⟩
theorem dD_strike_21 : LkV mD_strike 21 24 mC_write := ⟨96, by decide +kernel, rfl, Or.inl (tb2 168 rfl), tb2 169 rfl, tb2 170 rfl⟩
theorem dD_strike_24 : Dv mD_strike 24 .aload_n .aload 0 25 := Or.inl ⟨0, by decide +kernel, rfl, rfl⟩
theorem dD_strike_25 : LkV mD_strike 25 28 mD_noteFact := ⟨59, by decide +kernel, rfl, Or.inl (tb2 119 rfl), tb2 121 rfl, ts 2 rfl⟩
theorem dD_strike_28 : Dn mD_strike 28 .return_ 1 29 := ⟨by decide +kernel, rfl⟩
theorem dD_taker_0 : Dv mD_taker 0 .iload_n .iload 1 1 := Or.inl ⟨1, by decide +kernel, rfl, rfl⟩
theorem dD_taker_1 : Dn mD_taker 1 .i2l 1 2 := ⟨by decide +kernel, rfl⟩
theorem dD_taker_2 : Dl mD_taker 2 1 3 := Or.inl ⟨1, by decide +kernel, rfl, rfl⟩
theorem dD_taker_3 : Dl mD_taker 3 40 6 := Or.inr ⟨62, by decide +kernel, tb2 130 rfl, rfl⟩
theorem dD_taker_6 : LkS mD_taker 6 9 mD_requireWithin := ⟨48, by decide +kernel, rfl, Or.inl (tb2 29 rfl), tb2 30 rfl⟩
theorem dD_taker_9 : Dv mD_taker 9 .iload_n .iload 2 10 := Or.inl ⟨2, by decide +kernel, rfl, rfl⟩
theorem dD_taker_10 : Dn mD_taker 10 .i2l 1 11 := ⟨by decide +kernel, rfl⟩
theorem dD_taker_11 : Dl mD_taker 11 1 12 := Or.inl ⟨1, by decide +kernel, rfl, rfl⟩
theorem dD_taker_12 : Dl mD_taker 12 4 15 := Or.inr ⟨119, by decide +kernel, tb2 224 rfl, rfl⟩
theorem dD_taker_15 : LkS mD_taker 15 18 mD_requireWithin := ⟨48, by decide +kernel, rfl, Or.inl (tb2 29 rfl), tb2 30 rfl⟩
theorem dD_taker_18 : Dv mD_taker 18 .iload_n .iload 3 19 := Or.inl ⟨3, by decide +kernel, rfl, rfl⟩
theorem dD_taker_19 : Dn mD_taker 19 .i2l 1 20 := ⟨by decide +kernel, rfl⟩
theorem dD_taker_20 : Dl mD_taker 20 0 21 := Or.inl ⟨0, by decide +kernel, rfl, rfl⟩
theorem dD_taker_21 : Dl mD_taker 21 40 24 := Or.inr ⟨62, by decide +kernel, tb2 130 rfl, rfl⟩
theorem dD_taker_24 : LkS mD_taker 24 27 mD_requireWithin := ⟨48, by decide +kernel, rfl, Or.inl (tb2 29 rfl), tb2 30 rfl⟩
theorem dD_taker_27 : Dv mD_taker 27 .aload_n .aload 0 28 := Or.inl ⟨0, by decide +kernel, rfl, rfl⟩
theorem dD_taker_28 : LkV mD_taker 28 31 mD_requireOpen := ⟨52, by decide +kernel, rfl, Or.inl (tb2 97 rfl), tb2 99 rfl, ts 1 rfl⟩
theorem dD_taker_31 : Dv mD_taker 31 .aload_n .aload 0 32 := Or.inl ⟨0, by decide +kernel, rfl, rfl⟩
theorem dD_taker_32 : Df mD_taker 32 .getfield 0 2 35 := ⟨26, ("EstateDesk", eT0, 8), by decide +kernel, rfl, rfl, by decide, rfl, Or.inl (tb1 236 rfl)⟩
theorem dD_taker_35 : Df mD_taker 35 .getfield 3 4 38 := ⟨121, ("EstateDesk$Clauses", eT3, 13), by decide +kernel, rfl, rfl, by decide, rfl, Or.inr ⟨"EstateDesk", tb1 115 rfl⟩⟩
theorem dD_taker_38 : Dv mD_taker 38 .iload_n .iload 1 39 := Or.inl ⟨1, by decide +kernel, rfl, rfl⟩
theorem dD_taker_39 : Dn mD_taker 39 .aaload 1 40 := ⟨by decide +kernel, rfl⟩
theorem dD_taker_40 : Dv mD_taker 40 .iload_n .iload 2 41 := Or.inl ⟨2, by decide +kernel, rfl, rfl⟩
theorem dD_taker_41 : Dv mD_taker 41 .iload_n .iload 3 42 := Or.inl ⟨3, by decide +kernel, rfl, rfl⟩
theorem dD_taker_42 : Dn mD_taker 42 .iastore 1 43 := ⟨by decide +kernel, rfl⟩
theorem dD_taker_43 : Dv mD_taker 43 .aload_n .aload 0 44 := Or.inl ⟨0, by decide +kernel, rfl, rfl⟩
theorem dD_taker_44 : LkV mD_taker 44 47 mD_noteFact := ⟨59, by decide +kernel, rfl, Or.inl (tb2 119 rfl), tb2 121 rfl, ts 2 rfl⟩
theorem dD_taker_47 : Dn mD_taker 47 .return_ 1 48 := ⟨by decide +kernel, rfl⟩
theorem dD_charge_0 : Dv mD_charge 0 .iload_n .iload 1 1 := Or.inl ⟨1, by decide +kernel, rfl, rfl⟩
theorem dD_charge_1 : Dn mD_charge 1 .i2l 1 2 := ⟨by decide +kernel, rfl⟩
theorem dD_charge_2 : Dl mD_charge 2 1 3 := Or.inl ⟨1, by decide +kernel, rfl, rfl⟩
theorem dD_charge_3 : Dl mD_charge 3 40 6 := Or.inr ⟨62, by decide +kernel, tb2 130 rfl, rfl⟩
theorem dD_charge_6 : LkS mD_charge 6 9 mD_requireWithin := ⟨48, by decide +kernel, rfl, Or.inl (tb2 29 rfl), tb2 30 rfl⟩
theorem dD_charge_9 : Dv mD_charge 9 .aload_n .aload 0 10 := Or.inl ⟨0, by decide +kernel, rfl, rfl⟩
theorem dD_charge_10 : Df mD_charge 10 .getfield 0 2 13 := ⟨26, ("EstateDesk", eT0, 8), by decide +kernel, rfl, rfl, by decide, rfl, Or.inl (tb1 236 rfl)⟩
theorem dD_charge_13 : Df mD_charge 13 .getfield 3 0 16 := ⟨125, ("EstateDesk$Clauses", eT3, 13), by decide +kernel, rfl, rfl, by decide, rfl, Or.inr ⟨"EstateDesk", tb1 105 rfl⟩⟩
theorem dD_charge_16 : Dv mD_charge 16 .iload_n .iload 1 17 := Or.inl ⟨1, by decide +kernel, rfl, rfl⟩
theorem dD_charge_17 : Dn mD_charge 17 .iaload 1 18 := ⟨by decide +kernel, rfl⟩
theorem dD_charge_18 : Dk mD_charge 18 1 19 := Or.inl ⟨1, by decide +kernel, rfl, rfl⟩
theorem dD_charge_19 : Dj mD_charge 19 (.if_icmp .ne) 22 26 := ⟨7, by decide +kernel, rfl, rfl⟩
theorem dD_charge_22 : Dk mD_charge 22 1 23 := Or.inl ⟨1, by decide +kernel, rfl, rfl⟩
theorem dD_charge_23 : Dj mD_charge 23 .goto 26 27 := ⟨4, by decide +kernel, rfl, rfl⟩
theorem dD_charge_26 : Dk mD_charge 26 0 27 := Or.inl ⟨0, by decide +kernel, rfl, rfl⟩
theorem dD_charge_27 : LkS mD_charge 27 30 mD_requireArgument := ⟨103, by decide +kernel, rfl, Or.inl (tb2 32 rfl), tb2 33 rfl⟩
theorem dD_charge_30 : Dv mD_charge 30 .aload_n .aload 0 31 := Or.inl ⟨0, by decide +kernel, rfl, rfl⟩
theorem dD_charge_31 : LkV mD_charge 31 34 mD_requireOpen := ⟨52, by decide +kernel, rfl, Or.inl (tb2 97 rfl), tb2 99 rfl, ts 1 rfl⟩
theorem dD_charge_34 : Dv mD_charge 34 .aload_n .aload 0 35 := Or.inl ⟨0, by decide +kernel, rfl, rfl⟩
theorem dD_charge_35 : Df mD_charge 35 .getfield 0 2 38 := ⟨26, ("EstateDesk", eT0, 8), by decide +kernel, rfl, rfl, by decide, rfl, Or.inl (tb1 236 rfl)⟩
theorem dD_charge_38 : Df mD_charge 38 .getfield 3 3 41 := ⟨128, ("EstateDesk$Clauses", eT3, 13), by decide +kernel, rfl, rfl, by decide, rfl, Or.inr ⟨"EstateDesk", tb1 112 rfl⟩⟩
theorem dD_charge_41 : Dv mD_charge 41 .iload_n .iload 1 42 := Or.inl ⟨1, by decide +kernel, rfl, rfl⟩
theorem dD_charge_42 : Dv mD_charge 42 .iload_n .iload 2 43 := Or.inl ⟨2, by decide +kernel, rfl, rfl⟩
theorem dD_charge_43 : Dn mD_charge 43 .bastore 1 44 := ⟨by decide +kernel, rfl⟩
theorem dD_charge_44 : Dv mD_charge 44 .aload_n .aload 0 45 := Or.inl ⟨0, by decide +kernel, rfl, rfl⟩
theorem dD_charge_45 : LkV mD_charge 45 48 mD_noteFact := ⟨59, by decide +kernel, rfl, Or.inl (tb2 119 rfl), tb2 121 rfl, ts 2 rfl⟩
theorem dD_charge_48 : Dn mD_charge 48 .return_ 1 49 := ⟨by decide +kernel, rfl⟩
theorem dD_debt_0 : Dv mD_debt 0 .iload_n .iload 1 1 := Or.inl ⟨1, by decide +kernel, rfl, rfl⟩
theorem dD_debt_1 : Dn mD_debt 1 .i2l 1 2 := ⟨by decide +kernel, rfl⟩
theorem dD_debt_2 : Dl mD_debt 2 1 3 := Or.inl ⟨1, by decide +kernel, rfl, rfl⟩
theorem dD_debt_3 : Dl mD_debt 3 40 6 := Or.inr ⟨62, by decide +kernel, tb2 130 rfl, rfl⟩
theorem dD_debt_6 : LkS mD_debt 6 9 mD_requireWithin := ⟨48, by decide +kernel, rfl, Or.inl (tb2 29 rfl), tb2 30 rfl⟩
theorem dD_debt_9 : Dv mD_debt 9 .lload_n .lload 2 10 := Or.inl ⟨2, by decide +kernel, rfl, rfl⟩
theorem dD_debt_10 : Dl mD_debt 10 0 11 := Or.inl ⟨0, by decide +kernel, rfl, rfl⟩
theorem dD_debt_11 : Dl mD_debt 11 1000000000000 14 := Or.inr ⟨68, by decide +kernel, tb2 138 rfl, rfl⟩
theorem dD_debt_14 : LkS mD_debt 14 17 mD_requireWithin := ⟨48, by decide +kernel, rfl, Or.inl (tb2 29 rfl), tb2 30 rfl⟩
theorem dD_debt_17 : Dv mD_debt 17 .aload_n .aload 0 18 := Or.inl ⟨0, by decide +kernel, rfl, rfl⟩
theorem dD_debt_18 : Dv mD_debt 18 .iload_n .iload 4 20 := Or.inr ⟨by decide +kernel, rfl⟩
theorem dD_debt_20 : LkV mD_debt 20 23 mD_requireAssetOrNone := ⟨100, by decide +kernel, rfl, Or.inl (tb2 179 rfl), tb2 181 rfl, ts 4 rfl⟩
theorem dD_debt_23 : Dv mD_debt 23 .aload_n .aload 0 24 := Or.inl ⟨0, by decide +kernel, rfl, rfl⟩
theorem dD_debt_24 : LkV mD_debt 24 27 mD_requireOpen := ⟨52, by decide +kernel, rfl, Or.inl (tb2 97 rfl), tb2 99 rfl, ts 1 rfl⟩
theorem dD_debt_27 : Dv mD_debt 27 .aload_n .aload 0 28 := Or.inl ⟨0, by decide +kernel, rfl, rfl⟩
theorem dD_debt_28 : Df mD_debt 28 .getfield 0 3 31 := ⟨33, ("EstateDesk", eT0, 8), by decide +kernel, rfl, rfl, by decide, rfl, Or.inl (tb1 237 rfl)⟩
theorem dD_debt_31 : Df mD_debt 31 .getfield 4 0 34 := ⟨131, ("EstateDesk$Debts", eT4, 4), by decide +kernel, rfl, rfl, by decide, rfl, Or.inr ⟨"EstateDesk", tb1 172 rfl⟩⟩
theorem dD_debt_34 : Dv mD_debt 34 .iload_n .iload 1 35 := Or.inl ⟨1, by decide +kernel, rfl, rfl⟩
theorem dD_debt_35 : Dv mD_debt 35 .lload_n .lload 2 36 := Or.inl ⟨2, by decide +kernel, rfl, rfl⟩
theorem dD_debt_36 : Dn mD_debt 36 .lastore 1 37 := ⟨by decide +kernel, rfl⟩
theorem dD_debt_37 : Dv mD_debt 37 .aload_n .aload 0 38 := Or.inl ⟨0, by decide +kernel, rfl, rfl⟩
theorem dD_debt_38 : Df mD_debt 38 .getfield 0 3 41 := ⟨33, ("EstateDesk", eT0, 8), by decide +kernel, rfl, rfl, by decide, rfl, Or.inl (tb1 237 rfl)⟩
theorem dD_debt_41 : Df mD_debt 41 .getfield 4 1 44 := ⟨134, ("EstateDesk$Debts", eT4, 4), by decide +kernel, rfl, rfl, by decide, rfl, Or.inr ⟨"EstateDesk", tb1 175 rfl⟩⟩
theorem dD_debt_44 : Dv mD_debt 44 .iload_n .iload 1 45 := Or.inl ⟨1, by decide +kernel, rfl, rfl⟩
theorem dD_debt_45 : Dv mD_debt 45 .iload_n .iload 4 47 := Or.inr ⟨by decide +kernel, rfl⟩
theorem dD_debt_47 : Dn mD_debt 47 .iastore 1 48 := ⟨by decide +kernel, rfl⟩
theorem dD_debt_48 : Dv mD_debt 48 .aload_n .aload 0 49 := Or.inl ⟨0, by decide +kernel, rfl, rfl⟩
theorem dD_debt_49 : LkV mD_debt 49 52 mD_noteFact := ⟨59, by decide +kernel, rfl, Or.inl (tb2 119 rfl), tb2 121 rfl, ts 2 rfl⟩
theorem dD_debt_52 : Dn mD_debt 52 .return_ 1 53 := ⟨by decide +kernel, rfl⟩
theorem dD_settle_0 : Dv mD_settle 0 .aload_n .aload 0 1 := Or.inl ⟨0, by decide +kernel, rfl, rfl⟩
theorem dD_settle_1 : Df mD_settle 1 .getfield 0 0 4 := ⟨10, ("EstateDesk", eT0, 8), by decide +kernel, rfl, rfl, by decide, rfl, Or.inl (tb1 234 rfl)⟩
theorem dD_settle_4 : Df mD_settle 4 .getfield 1 0 7 := ⟨55, ("EstateDesk$Persons", eT1, 5), by decide +kernel, rfl, rfl, by decide, rfl, Or.inr ⟨"EstateDesk", tb1 31 rfl⟩⟩
theorem dD_settle_7 : Dj mD_settle 7 (.ifCond .le) 10 14 := ⟨7, by decide +kernel, rfl, rfl⟩
theorem dD_settle_10 : Dk mD_settle 10 1 11 := Or.inl ⟨1, by decide +kernel, rfl, rfl⟩
theorem dD_settle_11 : Dj mD_settle 11 .goto 14 15 := ⟨4, by decide +kernel, rfl, rfl⟩
theorem dD_settle_14 : Dk mD_settle 14 0 15 := Or.inl ⟨0, by decide +kernel, rfl, rfl⟩
theorem dD_settle_15 : LkS mD_settle 15 18 mD_requireState := ⟨74, by decide +kernel, rfl, Or.inl (tb2 101 rfl), tb2 102 rfl⟩
theorem dD_settle_18 : Dv mD_settle 18 .aload_n .aload 0 19 := Or.inl ⟨0, by decide +kernel, rfl, rfl⟩
theorem dD_settle_19 : Df mD_settle 19 .getfield 0 4 22 := ⟨42, ("EstateDesk", eT0, 8), by decide +kernel, rfl, rfl, by decide, rfl, Or.inl (tb1 238 rfl)⟩
theorem dD_settle_22 : LkV mD_settle 22 25 mS_run := ⟨137, by decide +kernel, rfl, Or.inl (tb3 6 rfl), tb3 7 rfl, tb3 8 rfl⟩
theorem dD_settle_25 : Dv mD_settle 25 .aload_n .aload 0 26 := Or.inl ⟨0, by decide +kernel, rfl, rfl⟩
theorem dD_settle_26 : Dk mD_settle 26 1 27 := Or.inl ⟨1, by decide +kernel, rfl, rfl⟩
theorem dD_settle_27 : Df mD_settle 27 .putfield 0 5 30 := ⟨140, ("EstateDesk", eT0, 8), by decide +kernel, rfl, rfl, by decide, rfl, Or.inl (tb1 239 rfl)⟩
theorem dD_settle_30 : Dv mD_settle 30 .aload_n .aload 0 31 := Or.inl ⟨0, by decide +kernel, rfl, rfl⟩
theorem dD_settle_31 : Dk mD_settle 31 1 32 := Or.inl ⟨1, by decide +kernel, rfl, rfl⟩
theorem dD_settle_32 : Df mD_settle 32 .putfield 0 6 35 := ⟨144, ("EstateDesk", eT0, 8), by decide +kernel, rfl, rfl, by decide, rfl, Or.inl (tb2 0 rfl)⟩
theorem dD_settle_35 : Dv mD_settle 35 .aload_n .aload 0 36 := Or.inl ⟨0, by decide +kernel, rfl, rfl⟩
theorem dD_settle_36 : Df mD_settle 36 .getfield 0 4 39 := ⟨42, ("EstateDesk", eT0, 8), by decide +kernel, rfl, rfl, by decide, rfl, Or.inl (tb1 238 rfl)⟩
theorem dD_settle_39 : Df mD_settle 39 .getfield 5 6 42 := ⟨147, ("EstateDesk$Settling", eT5, 7), by decide +kernel, rfl, rfl, by decide, rfl, Or.inr ⟨"EstateDesk", tb1 218 rfl⟩⟩
theorem dD_settle_42 : Dn mD_settle 42 .lreturn 1 43 := ⟨by decide +kernel, rfl⟩
theorem dD_gets_0 : Dv mD_gets 0 .iload_n .iload 1 1 := Or.inl ⟨1, by decide +kernel, rfl, rfl⟩
theorem dD_gets_1 : Dn mD_gets 1 .i2l 1 2 := ⟨by decide +kernel, rfl⟩
theorem dD_gets_2 : Dl mD_gets 2 0 3 := Or.inl ⟨0, by decide +kernel, rfl, rfl⟩
theorem dD_gets_3 : Dl mD_gets 3 40 6 := Or.inr ⟨62, by decide +kernel, tb2 130 rfl, rfl⟩
theorem dD_gets_6 : LkS mD_gets 6 9 mD_requireWithin := ⟨48, by decide +kernel, rfl, Or.inl (tb2 29 rfl), tb2 30 rfl⟩
theorem dD_gets_9 : Dv mD_gets 9 .iload_n .iload 2 10 := Or.inl ⟨2, by decide +kernel, rfl, rfl⟩
theorem dD_gets_10 : Dn mD_gets 10 .i2l 1 11 := ⟨by decide +kernel, rfl⟩
theorem dD_gets_11 : Dl mD_gets 11 0 12 := Or.inl ⟨0, by decide +kernel, rfl, rfl⟩
theorem dD_gets_12 : Dl mD_gets 12 2 15 := Or.inr ⟨151, by decide +kernel, tb3 129 rfl, rfl⟩
theorem dD_gets_15 : LkS mD_gets 15 18 mD_requireWithin := ⟨48, by decide +kernel, rfl, Or.inl (tb2 29 rfl), tb2 30 rfl⟩
theorem dD_gets_18 : Dv mD_gets 18 .aload_n .aload 0 19 := Or.inl ⟨0, by decide +kernel, rfl, rfl⟩
theorem dD_gets_19 : Df mD_gets 19 .getfield 0 5 22 := ⟨140, ("EstateDesk", eT0, 8), by decide +kernel, rfl, rfl, by decide, rfl, Or.inl (tb1 239 rfl)⟩
theorem dD_gets_22 : LkS mD_gets 22 25 mD_requireState := ⟨74, by decide +kernel, rfl, Or.inl (tb2 101 rfl), tb2 102 rfl⟩
theorem dD_gets_25 : Dv mD_gets 25 .iload_n .iload 2 26 := Or.inl ⟨2, by decide +kernel, rfl, rfl⟩
theorem dD_gets_26 : decode mD_gets.2.1 26 = .ok (.lookupswitch 46 #[(0, 26), (1, 36)], 26) := by decide +kernel
theorem dD_gets_52 : Dv mD_gets 52 .aload_n .aload 0 53 := Or.inl ⟨0, by decide +kernel, rfl, rfl⟩
theorem dD_gets_53 : Df mD_gets 53 .getfield 0 0 56 := ⟨10, ("EstateDesk", eT0, 8), by decide +kernel, rfl, rfl, by decide, rfl, Or.inl (tb1 234 rfl)⟩
theorem dD_gets_56 : Df mD_gets 56 .getfield 1 2 59 := ⟨153, ("EstateDesk$Persons", eT1, 5), by decide +kernel, rfl, rfl, by decide, rfl, Or.inr ⟨"EstateDesk", tb1 36 rfl⟩⟩
theorem dD_gets_59 : Dv mD_gets 59 .iload_n .iload 1 60 := Or.inl ⟨1, by decide +kernel, rfl, rfl⟩
theorem dD_gets_60 : Dn mD_gets 60 .laload 1 61 := ⟨by decide +kernel, rfl⟩
theorem dD_gets_61 : Dn mD_gets 61 .lreturn 1 62 := ⟨by decide +kernel, rfl⟩
theorem dD_gets_62 : Dv mD_gets 62 .aload_n .aload 0 63 := Or.inl ⟨0, by decide +kernel, rfl, rfl⟩
theorem dD_gets_63 : Df mD_gets 63 .getfield 0 0 66 := ⟨10, ("EstateDesk", eT0, 8), by decide +kernel, rfl, rfl, by decide, rfl, Or.inl (tb1 234 rfl)⟩
theorem dD_gets_66 : Df mD_gets 66 .getfield 1 3 69 := ⟨156, ("EstateDesk$Persons", eT1, 5), by decide +kernel, rfl, rfl, by decide, rfl, Or.inr ⟨"EstateDesk", tb1 39 rfl⟩⟩
theorem dD_gets_69 : Dv mD_gets 69 .iload_n .iload 1 70 := Or.inl ⟨1, by decide +kernel, rfl, rfl⟩
theorem dD_gets_70 : Dn mD_gets 70 .laload 1 71 := ⟨by decide +kernel, rfl⟩
theorem dD_gets_71 : Dn mD_gets 71 .lreturn 1 72 := ⟨by decide +kernel, rfl⟩
theorem dD_gets_72 : Dv mD_gets 72 .aload_n .aload 0 73 := Or.inl ⟨0, by decide +kernel, rfl, rfl⟩
theorem dD_gets_73 : Df mD_gets 73 .getfield 0 0 76 := ⟨10, ("EstateDesk", eT0, 8), by decide +kernel, rfl, rfl, by decide, rfl, Or.inl (tb1 234 rfl)⟩
theorem dD_gets_76 : Df mD_gets 76 .getfield 1 4 79 := ⟨159, ("EstateDesk$Persons", eT1, 5), by decide +kernel, rfl, rfl, by decide, rfl, Or.inr ⟨"EstateDesk", tb1 42 rfl⟩⟩
theorem dD_gets_79 : Dv mD_gets 79 .iload_n .iload 1 80 := Or.inl ⟨1, by decide +kernel, rfl, rfl⟩
theorem dD_gets_80 : Dn mD_gets 80 .laload 1 81 := ⟨by decide +kernel, rfl⟩
theorem dD_gets_81 : Dn mD_gets 81 .lreturn 1 82 := ⟨by decide +kernel, rfl⟩
theorem dD_assetTo_0 : Dv mD_assetTo 0 .iload_n .iload 1 1 := Or.inl ⟨1, by decide +kernel, rfl, rfl⟩
theorem dD_assetTo_1 : Dn mD_assetTo 1 .i2l 1 2 := ⟨by decide +kernel, rfl⟩
theorem dD_assetTo_2 : Dl mD_assetTo 2 1 3 := Or.inl ⟨1, by decide +kernel, rfl, rfl⟩
theorem dD_assetTo_3 : Dl mD_assetTo 3 40 6 := Or.inr ⟨62, by decide +kernel, tb2 130 rfl, rfl⟩
theorem dD_assetTo_6 : LkS mD_assetTo 6 9 mD_requireWithin := ⟨48, by decide +kernel, rfl, Or.inl (tb2 29 rfl), tb2 30 rfl⟩
theorem dD_assetTo_9 : Dv mD_assetTo 9 .aload_n .aload 0 10 := Or.inl ⟨0, by decide +kernel, rfl, rfl⟩
theorem dD_assetTo_10 : Df mD_assetTo 10 .getfield 0 5 13 := ⟨140, ("EstateDesk", eT0, 8), by decide +kernel, rfl, rfl, by decide, rfl, Or.inl (tb1 239 rfl)⟩
theorem dD_assetTo_13 : LkS mD_assetTo 13 16 mD_requireState := ⟨74, by decide +kernel, rfl, Or.inl (tb2 101 rfl), tb2 102 rfl⟩
theorem dD_assetTo_16 : Dv mD_assetTo 16 .aload_n .aload 0 17 := Or.inl ⟨0, by decide +kernel, rfl, rfl⟩
theorem dD_assetTo_17 : Df mD_assetTo 17 .getfield 0 1 20 := ⟨19, ("EstateDesk", eT0, 8), by decide +kernel, rfl, rfl, by decide, rfl, Or.inl (tb1 235 rfl)⟩
theorem dD_assetTo_20 : Df mD_assetTo 20 .getfield 2 6 23 := ⟨162, ("EstateDesk$Assets", eT2, 7), by decide +kernel, rfl, rfl, by decide, rfl, Or.inr ⟨"EstateDesk", tb1 78 rfl⟩⟩
theorem dD_assetTo_23 : Dv mD_assetTo 23 .iload_n .iload 1 24 := Or.inl ⟨1, by decide +kernel, rfl, rfl⟩
theorem dD_assetTo_24 : Dn mD_assetTo 24 .iaload 1 25 := ⟨by decide +kernel, rfl⟩
theorem dD_assetTo_25 : Dn mD_assetTo 25 .ireturn 1 26 := ⟨by decide +kernel, rfl⟩
theorem dD_clauseState_0 : Dv mD_clauseState 0 .iload_n .iload 1 1 := Or.inl ⟨1, by decide +kernel, rfl, rfl⟩
theorem dD_clauseState_1 : Dn mD_clauseState 1 .i2l 1 2 := ⟨by decide +kernel, rfl⟩
theorem dD_clauseState_2 : Dl mD_clauseState 2 1 3 := Or.inl ⟨1, by decide +kernel, rfl, rfl⟩
theorem dD_clauseState_3 : Dl mD_clauseState 3 40 6 := Or.inr ⟨62, by decide +kernel, tb2 130 rfl, rfl⟩
theorem dD_clauseState_6 : LkS mD_clauseState 6 9 mD_requireWithin := ⟨48, by decide +kernel, rfl, Or.inl (tb2 29 rfl), tb2 30 rfl⟩
theorem dD_clauseState_9 : Dv mD_clauseState 9 .aload_n .aload 0 10 := Or.inl ⟨0, by decide +kernel, rfl, rfl⟩
theorem dD_clauseState_10 : Df mD_clauseState 10 .getfield 0 5 13 := ⟨140, ("EstateDesk", eT0, 8), by decide +kernel, rfl, rfl, by decide, rfl, Or.inl (tb1 239 rfl)⟩
theorem dD_clauseState_13 : LkS mD_clauseState 13 16 mD_requireState := ⟨74, by decide +kernel, rfl, Or.inl (tb2 101 rfl), tb2 102 rfl⟩
theorem dD_clauseState_16 : Dv mD_clauseState 16 .aload_n .aload 0 17 := Or.inl ⟨0, by decide +kernel, rfl, rfl⟩
theorem dD_clauseState_17 : Df mD_clauseState 17 .getfield 0 2 20 := ⟨26, ("EstateDesk", eT0, 8), by decide +kernel, rfl, rfl, by decide, rfl, Or.inl (tb1 236 rfl)⟩
theorem dD_clauseState_20 : Df mD_clauseState 20 .getfield 3 5 23 := ⟨165, ("EstateDesk$Clauses", eT3, 13), by decide +kernel, rfl, rfl, by decide, rfl, Or.inr ⟨"EstateDesk", tb1 118 rfl⟩⟩
theorem dD_clauseState_23 : Dv mD_clauseState 23 .iload_n .iload 1 24 := Or.inl ⟨1, by decide +kernel, rfl, rfl⟩
theorem dD_clauseState_24 : Dn mD_clauseState 24 .iaload 1 25 := ⟨by decide +kernel, rfl⟩
theorem dD_clauseState_25 : Dn mD_clauseState 25 .ireturn 1 26 := ⟨by decide +kernel, rfl⟩
theorem dD_told_0 : Dv mD_told 0 .iload_n .iload 1 1 := Or.inl ⟨1, by decide +kernel, rfl, rfl⟩
theorem dD_told_1 : Dn mD_told 1 .i2l 1 2 := ⟨by decide +kernel, rfl⟩
theorem dD_told_2 : Dl mD_told 2 1 3 := Or.inl ⟨1, by decide +kernel, rfl, rfl⟩
theorem dD_told_3 : Dl mD_told 3 40 6 := Or.inr ⟨62, by decide +kernel, tb2 130 rfl, rfl⟩
theorem dD_told_6 : LkS mD_told 6 9 mD_requireWithin := ⟨48, by decide +kernel, rfl, Or.inl (tb2 29 rfl), tb2 30 rfl⟩
theorem dD_told_9 : Dv mD_told 9 .iload_n .iload 2 10 := Or.inl ⟨2, by decide +kernel, rfl, rfl⟩
theorem dD_told_10 : Dn mD_told 10 .i2l 1 11 := ⟨by decide +kernel, rfl⟩
theorem dD_told_11 : Dl mD_told 11 0 12 := Or.inl ⟨0, by decide +kernel, rfl, rfl⟩
theorem dD_told_12 : Dl mD_told 12 4 15 := Or.inr ⟨119, by decide +kernel, tb2 224 rfl, rfl⟩
theorem dD_told_15 : LkS mD_told 15 18 mD_requireWithin := ⟨48, by decide +kernel, rfl, Or.inl (tb2 29 rfl), tb2 30 rfl⟩
theorem dD_told_18 : Dv mD_told 18 .aload_n .aload 0 19 := Or.inl ⟨0, by decide +kernel, rfl, rfl⟩
theorem dD_told_19 : Df mD_told 19 .getfield 0 5 22 := ⟨140, ("EstateDesk", eT0, 8), by decide +kernel, rfl, rfl, by decide, rfl, Or.inl (tb1 239 rfl)⟩
theorem dD_told_22 : LkS mD_told 22 25 mD_requireState := ⟨74, by decide +kernel, rfl, Or.inl (tb2 101 rfl), tb2 102 rfl⟩
theorem dD_told_25 : Dv mD_told 25 .iload_n .iload 2 26 := Or.inl ⟨2, by decide +kernel, rfl, rfl⟩
theorem dD_told_26 : decode mD_told.2.1 26 = .ok (.tableswitch 69 0 3 #[30, 39, 49, 59], 30) := by decide +kernel
theorem dD_told_56 : Dv mD_told 56 .aload_n .aload 0 57 := Or.inl ⟨0, by decide +kernel, rfl, rfl⟩
theorem dD_told_57 : Df mD_told 57 .getfield 0 2 60 := ⟨26, ("EstateDesk", eT0, 8), by decide +kernel, rfl, rfl, by decide, rfl, Or.inl (tb1 236 rfl)⟩
theorem dD_told_60 : Dv mD_told 60 .iload_n .iload 1 61 := Or.inl ⟨1, by decide +kernel, rfl, rfl⟩
theorem dD_told_61 : LkV mD_told 61 64 mC_worthInAll := ⟨168, by decide +kernel, rfl, Or.inl (tb3 151 rfl), tb3 102 rfl, tb3 103 rfl⟩
theorem dD_told_64 : Dn mD_told 64 .lreturn 1 65 := ⟨by decide +kernel, rfl⟩
theorem dD_told_65 : Dv mD_told 65 .aload_n .aload 0 66 := Or.inl ⟨0, by decide +kernel, rfl, rfl⟩
theorem dD_told_66 : Df mD_told 66 .getfield 0 2 69 := ⟨26, ("EstateDesk", eT0, 8), by decide +kernel, rfl, rfl, by decide, rfl, Or.inl (tb1 236 rfl)⟩
theorem dD_told_69 : Df mD_told 69 .getfield 3 11 72 := ⟨172, ("EstateDesk$Clauses", eT3, 13), by decide +kernel, rfl, rfl, by decide, rfl, Or.inr ⟨"EstateDesk", tb1 133 rfl⟩⟩
theorem dD_told_72 : Dv mD_told 72 .iload_n .iload 1 73 := Or.inl ⟨1, by decide +kernel, rfl, rfl⟩
theorem dD_told_73 : Dn mD_told 73 .laload 1 74 := ⟨by decide +kernel, rfl⟩
theorem dD_told_74 : Dn mD_told 74 .lreturn 1 75 := ⟨by decide +kernel, rfl⟩
theorem dD_told_75 : Dv mD_told 75 .aload_n .aload 0 76 := Or.inl ⟨0, by decide +kernel, rfl, rfl⟩
theorem dD_told_76 : Df mD_told 76 .getfield 0 2 79 := ⟨26, ("EstateDesk", eT0, 8), by decide +kernel, rfl, rfl, by decide, rfl, Or.inl (tb1 236 rfl)⟩
theorem dD_told_79 : Df mD_told 79 .getfield 3 8 82 := ⟨175, ("EstateDesk$Clauses", eT3, 13), by decide +kernel, rfl, rfl, by decide, rfl, Or.inr ⟨"EstateDesk", tb1 126 rfl⟩⟩
theorem dD_told_82 : Dv mD_told 82 .iload_n .iload 1 83 := Or.inl ⟨1, by decide +kernel, rfl, rfl⟩
theorem dD_told_83 : Dn mD_told 83 .laload 1 84 := ⟨by decide +kernel, rfl⟩
theorem dD_told_84 : Dn mD_told 84 .lreturn 1 85 := ⟨by decide +kernel, rfl⟩
theorem dD_told_85 : Dv mD_told 85 .aload_n .aload 0 86 := Or.inl ⟨0, by decide +kernel, rfl, rfl⟩
theorem dD_told_86 : Df mD_told 86 .getfield 0 2 89 := ⟨26, ("EstateDesk", eT0, 8), by decide +kernel, rfl, rfl, by decide, rfl, Or.inl (tb1 236 rfl)⟩
theorem dD_told_89 : Df mD_told 89 .getfield 3 12 92 := ⟨178, ("EstateDesk$Clauses", eT3, 13), by decide +kernel, rfl, rfl, by decide, rfl, Or.inr ⟨"EstateDesk", tb1 136 rfl⟩⟩
theorem dD_told_92 : Dv mD_told 92 .iload_n .iload 1 93 := Or.inl ⟨1, by decide +kernel, rfl, rfl⟩
theorem dD_told_93 : Dn mD_told 93 .laload 1 94 := ⟨by decide +kernel, rfl⟩
theorem dD_told_94 : Dn mD_told 94 .lreturn 1 95 := ⟨by decide +kernel, rfl⟩
theorem dD_told_95 : Dv mD_told 95 .aload_n .aload 0 96 := Or.inl ⟨0, by decide +kernel, rfl, rfl⟩
theorem dD_told_96 : Df mD_told 96 .getfield 0 2 99 := ⟨26, ("EstateDesk", eT0, 8), by decide +kernel, rfl, rfl, by decide, rfl, Or.inl (tb1 236 rfl)⟩
theorem dD_told_99 : Df mD_told 99 .getfield 3 6 102 := ⟨179, ("EstateDesk$Clauses", eT3, 13), by decide +kernel, rfl, rfl, by decide, rfl, Or.inr ⟨"EstateDesk", tb1 121 rfl⟩⟩
theorem dD_told_102 : Dv mD_told 102 .iload_n .iload 1 103 := Or.inl ⟨1, by decide +kernel, rfl, rfl⟩
theorem dD_told_103 : Dn mD_told 103 .iaload 1 104 := ⟨by decide +kernel, rfl⟩
theorem dD_told_104 : Dn mD_told 104 .i2l 1 105 := ⟨by decide +kernel, rfl⟩
theorem dD_told_105 : Dn mD_told 105 .lreturn 1 106 := ⟨by decide +kernel, rfl⟩
end
section
theorem dD_paid_0 : Dv mD_paid 0 .iload_n .iload 1 1 := Or.inl ⟨1, by decide +kernel, rfl, rfl⟩
theorem dD_paid_1 : Dn mD_paid 1 .i2l 1 2 := ⟨by decide +kernel, rfl⟩
theorem dD_paid_2 : Dl mD_paid 2 1 3 := Or.inl ⟨1, by decide +kernel, rfl, rfl⟩
theorem dD_paid_3 : Dl mD_paid 3 40 6 := Or.inr ⟨62, by decide +kernel, tb2 130 rfl, rfl⟩
theorem dD_paid_6 : LkS mD_paid 6 9 mD_requireWithin := ⟨48, by decide +kernel, rfl, Or.inl (tb2 29 rfl), tb2 30 rfl⟩
theorem dD_paid_9 : Dv mD_paid 9 .aload_n .aload 0 10 := Or.inl ⟨0, by decide +kernel, rfl, rfl⟩
theorem dD_paid_10 : Df mD_paid 10 .getfield 0 5 13 := ⟨140, ("EstateDesk", eT0, 8), by decide +kernel, rfl, rfl, by decide, rfl, Or.inl (tb1 239 rfl)⟩
theorem dD_paid_13 : LkS mD_paid 13 16 mD_requireState := ⟨74, by decide +kernel, rfl, Or.inl (tb2 101 rfl), tb2 102 rfl⟩
theorem dD_paid_16 : Dv mD_paid 16 .aload_n .aload 0 17 := Or.inl ⟨0, by decide +kernel, rfl, rfl⟩
theorem dD_paid_17 : Df mD_paid 17 .getfield 0 3 20 := ⟨33, ("EstateDesk", eT0, 8), by decide +kernel, rfl, rfl, by decide, rfl, Or.inl (tb1 237 rfl)⟩
theorem dD_paid_20 : Df mD_paid 20 .getfield 4 3 23 := ⟨182, ("EstateDesk$Debts", eT4, 4), by decide +kernel, rfl, rfl, by decide, rfl, Or.inr ⟨"EstateDesk", tb1 180 rfl⟩⟩
theorem dD_paid_23 : Dv mD_paid 23 .iload_n .iload 1 24 := Or.inl ⟨1, by decide +kernel, rfl, rfl⟩
theorem dD_paid_24 : Dn mD_paid 24 .laload 1 25 := ⟨by decide +kernel, rfl⟩
theorem dD_paid_25 : Dn mD_paid 25 .lreturn 1 26 := ⟨by decide +kernel, rfl⟩
theorem dD_sum_0 : Dv mD_sum 0 .iload_n .iload 1 1 := Or.inl ⟨1, by decide +kernel, rfl, rfl⟩
theorem dD_sum_1 : Dn mD_sum 1 .i2l 1 2 := ⟨by decide +kernel, rfl⟩
theorem dD_sum_2 : Dl mD_sum 2 0 3 := Or.inl ⟨0, by decide +kernel, rfl, rfl⟩
theorem dD_sum_3 : Dl mD_sum 3 7 6 := Or.inr ⟨185, by decide +kernel, tb3 166 rfl, rfl⟩
theorem dD_sum_6 : LkS mD_sum 6 9 mD_requireWithin := ⟨48, by decide +kernel, rfl, Or.inl (tb2 29 rfl), tb2 30 rfl⟩
theorem dD_sum_9 : Dv mD_sum 9 .aload_n .aload 0 10 := Or.inl ⟨0, by decide +kernel, rfl, rfl⟩
theorem dD_sum_10 : Df mD_sum 10 .getfield 0 5 13 := ⟨140, ("EstateDesk", eT0, 8), by decide +kernel, rfl, rfl, by decide, rfl, Or.inl (tb1 239 rfl)⟩
theorem dD_sum_13 : LkS mD_sum 13 16 mD_requireState := ⟨74, by decide +kernel, rfl, Or.inl (tb2 101 rfl), tb2 102 rfl⟩
theorem dD_sum_16 : Dv mD_sum 16 .aload_n .aload 0 17 := Or.inl ⟨0, by decide +kernel, rfl, rfl⟩
theorem dD_sum_17 : Df mD_sum 17 .getfield 0 4 20 := ⟨42, ("EstateDesk", eT0, 8), by decide +kernel, rfl, rfl, by decide, rfl, Or.inl (tb1 238 rfl)⟩
theorem dD_sum_20 : Df mD_sum 20 .getfield 5 5 23 := ⟨187, ("EstateDesk$Settling", eT5, 7), by decide +kernel, rfl, rfl, by decide, rfl, Or.inr ⟨"EstateDesk", tb1 216 rfl⟩⟩
theorem dD_sum_23 : Dv mD_sum 23 .iload_n .iload 1 24 := Or.inl ⟨1, by decide +kernel, rfl, rfl⟩
theorem dD_sum_24 : Dn mD_sum 24 .laload 1 25 := ⟨by decide +kernel, rfl⟩
theorem dD_sum_25 : Dn mD_sum 25 .lreturn 1 26 := ⟨by decide +kernel, rfl⟩
theorem dD_close_0 : Dv mD_close 0 .aload_n .aload 0 1 := Or.inl ⟨0, by decide +kernel, rfl, rfl⟩
theorem dD_close_1 : LkV mD_close 1 4 mD_requireOpen := ⟨52, by decide +kernel, rfl, Or.inl (tb2 97 rfl), tb2 99 rfl, ts 1 rfl⟩
theorem dD_close_4 : Dv mD_close 4 .aload_n .aload 0 5 := Or.inl ⟨0, by decide +kernel, rfl, rfl⟩
theorem dD_close_5 : Df mD_close 5 .getfield 0 6 8 := ⟨144, ("EstateDesk", eT0, 8), by decide +kernel, rfl, rfl, by decide, rfl, Or.inl (tb2 0 rfl)⟩
theorem dD_close_8 : LkS mD_close 8 11 mD_requireState := ⟨74, by decide +kernel, rfl, Or.inl (tb2 101 rfl), tb2 102 rfl⟩
theorem dD_close_11 : Dv mD_close 11 .aload_n .aload 0 12 := Or.inl ⟨0, by decide +kernel, rfl, rfl⟩
theorem dD_close_12 : Dk mD_close 12 1 13 := Or.inl ⟨1, by decide +kernel, rfl, rfl⟩
theorem dD_close_13 : Df mD_close 13 .putfield 0 7 16 := ⟨190, ("EstateDesk", eT0, 8), by decide +kernel, rfl, rfl, by decide, rfl, Or.inl (tb2 1 rfl)⟩
theorem dD_close_16 : Dn mD_close 16 .return_ 1 17 := ⟨by decide +kernel, rfl⟩
theorem dD_worth_0 : Dv mD_worth 0 .lload_n .lload 1 1 := Or.inl ⟨1, by decide +kernel, rfl, rfl⟩
theorem dD_worth_1 : Dl mD_worth 1 0 2 := Or.inl ⟨0, by decide +kernel, rfl, rfl⟩
theorem dD_worth_2 : Dl mD_worth 2 1000000000 5 := Or.inr ⟨109, by decide +kernel, tb2 194 rfl, rfl⟩
theorem dD_worth_5 : LkS mD_worth 5 8 mD_requireWithin := ⟨48, by decide +kernel, rfl, Or.inl (tb2 29 rfl), tb2 30 rfl⟩
theorem dD_worth_8 : Dv mD_worth 8 .iload_n .iload 3 9 := Or.inl ⟨3, by decide +kernel, rfl, rfl⟩
theorem dD_worth_9 : Dn mD_worth 9 .i2l 1 10 := ⟨by decide +kernel, rfl⟩
theorem dD_worth_10 : Dl mD_worth 10 0 11 := Or.inl ⟨0, by decide +kernel, rfl, rfl⟩
theorem dD_worth_11 : Dl mD_worth 11 99 14 := Or.inr ⟨111, by decide +kernel, tb2 195 rfl, rfl⟩
theorem dD_worth_14 : LkS mD_worth 14 17 mD_requireWithin := ⟨48, by decide +kernel, rfl, Or.inl (tb2 29 rfl), tb2 30 rfl⟩
theorem dD_worth_17 : Dv mD_worth 17 .lload_n .lload 1 18 := Or.inl ⟨1, by decide +kernel, rfl, rfl⟩
theorem dD_worth_18 : Dv mD_worth 18 .iload_n .iload 3 19 := Or.inl ⟨3, by decide +kernel, rfl, rfl⟩
theorem dD_worth_19 : LkS mD_worth 19 22 mD_annuityValue := ⟨113, by decide +kernel, rfl, Or.inl (tb2 196 rfl), tb2 197 rfl⟩
theorem dD_worth_22 : Dn mD_worth 22 .lreturn 1 23 := ⟨by decide +kernel, rfl⟩
theorem dD_annuityValue_0 : Dl mD_annuityValue 0 1000000 3 := Or.inr ⟨193, by decide +kernel, tb2 199 rfl, rfl⟩
theorem dD_annuityValue_3 : Dv mD_annuityValue 3 .lstore_n .lstore 3 4 := Or.inl ⟨3, by decide +kernel, rfl, rfl⟩
theorem dD_annuityValue_4 : Dl mD_annuityValue 4 0 5 := Or.inl ⟨0, by decide +kernel, rfl, rfl⟩
theorem dD_annuityValue_5 : Dv mD_annuityValue 5 .lstore_n .lstore 5 7 := Or.inr ⟨by decide +kernel, rfl⟩
theorem dD_annuityValue_7 : Dk mD_annuityValue 7 1 8 := Or.inl ⟨1, by decide +kernel, rfl, rfl⟩
theorem dD_annuityValue_8 : Dv mD_annuityValue 8 .istore_n .istore 7 10 := Or.inr ⟨by decide +kernel, rfl⟩
theorem dD_annuityValue_10 : Dv mD_annuityValue 10 .iload_n .iload 7 12 := Or.inr ⟨by decide +kernel, rfl⟩
theorem dD_annuityValue_12 : Dk mD_annuityValue 12 100 14 := Or.inr (Or.inl ⟨100, by decide +kernel, by decide +kernel, rfl⟩)
theorem dD_annuityValue_14 : Dv mD_annuityValue 14 .iload_n .iload 2 15 := Or.inl ⟨2, by decide +kernel, rfl, rfl⟩
theorem dD_annuityValue_15 : Dn mD_annuityValue 15 .isub 1 16 := ⟨by decide +kernel, rfl⟩
theorem dD_annuityValue_16 : Dj mD_annuityValue 16 (.if_icmp .gt) 19 41 := ⟨25, by decide +kernel, rfl, rfl⟩
theorem dD_annuityValue_19 : Dl mD_annuityValue 19 96 22 := Or.inr ⟨195, by decide +kernel, tb2 200 rfl, rfl⟩
theorem dD_annuityValue_22 : Dv mD_annuityValue 22 .lload_n .lload 3 23 := Or.inl ⟨3, by decide +kernel, rfl, rfl⟩
theorem dD_annuityValue_23 : Dn mD_annuityValue 23 .lmul 1 24 := ⟨by decide +kernel, rfl⟩
theorem dD_annuityValue_24 : Dl mD_annuityValue 24 100 27 := Or.inr ⟨197, by decide +kernel, tb2 201 rfl, rfl⟩
theorem dD_annuityValue_27 : Dn mD_annuityValue 27 .ldiv 1 28 := ⟨by decide +kernel, rfl⟩
theorem dD_annuityValue_28 : Dv mD_annuityValue 28 .lstore_n .lstore 3 29 := Or.inl ⟨3, by decide +kernel, rfl, rfl⟩
theorem dD_annuityValue_29 : Dv mD_annuityValue 29 .lload_n .lload 5 31 := Or.inr ⟨by decide +kernel, rfl⟩
theorem dD_annuityValue_31 : Dv mD_annuityValue 31 .lload_n .lload 3 32 := Or.inl ⟨3, by decide +kernel, rfl, rfl⟩
theorem dD_annuityValue_32 : Dn mD_annuityValue 32 .ladd 1 33 := ⟨by decide +kernel, rfl⟩
theorem dD_annuityValue_33 : Dv mD_annuityValue 33 .lstore_n .lstore 5 35 := Or.inr ⟨by decide +kernel, rfl⟩
theorem dD_annuityValue_35 : Dn mD_annuityValue 35 (.iinc 7 1) 3 38 := ⟨by decide +kernel, rfl⟩
theorem dD_annuityValue_38 : Dj mD_annuityValue 38 .goto 41 10 := ⟨-28, by decide +kernel, rfl, rfl⟩
theorem dD_annuityValue_41 : Dv mD_annuityValue 41 .lload_n .lload 0 42 := Or.inl ⟨0, by decide +kernel, rfl, rfl⟩
theorem dD_annuityValue_42 : Dv mD_annuityValue 42 .lload_n .lload 5 44 := Or.inr ⟨by decide +kernel, rfl⟩
theorem dD_annuityValue_44 : Dn mD_annuityValue 44 .lmul 1 45 := ⟨by decide +kernel, rfl⟩
theorem dD_annuityValue_45 : Dl mD_annuityValue 45 1000000 48 := Or.inr ⟨193, by decide +kernel, tb2 199 rfl, rfl⟩
theorem dD_annuityValue_48 : Dn mD_annuityValue 48 .ldiv 1 49 := ⟨by decide +kernel, rfl⟩
theorem dD_annuityValue_49 : Dn mD_annuityValue 49 .lreturn 1 50 := ⟨by decide +kernel, rfl⟩
theorem dD_total_0 : Dl mD_total 0 0 1 := Or.inl ⟨0, by decide +kernel, rfl, rfl⟩
theorem dD_total_1 : Dv mD_total 1 .lstore_n .lstore 1 2 := Or.inl ⟨1, by decide +kernel, rfl, rfl⟩
theorem dD_total_2 : Dk mD_total 2 1 3 := Or.inl ⟨1, by decide +kernel, rfl, rfl⟩
theorem dD_total_3 : Dv mD_total 3 .istore_n .istore 3 4 := Or.inl ⟨3, by decide +kernel, rfl, rfl⟩
theorem dD_total_4 : Dv mD_total 4 .iload_n .iload 3 5 := Or.inl ⟨3, by decide +kernel, rfl, rfl⟩
theorem dD_total_5 : Dk mD_total 5 40 7 := Or.inr (Or.inl ⟨40, by decide +kernel, by decide +kernel, rfl⟩)
theorem dD_total_7 : Dj mD_total 7 (.if_icmp .gt) 10 22 := ⟨15, by decide +kernel, rfl, rfl⟩
theorem dD_total_10 : Dv mD_total 10 .lload_n .lload 1 11 := Or.inl ⟨1, by decide +kernel, rfl, rfl⟩
theorem dD_total_11 : Dv mD_total 11 .aload_n .aload 0 12 := Or.inl ⟨0, by decide +kernel, rfl, rfl⟩
theorem dD_total_12 : Dv mD_total 12 .iload_n .iload 3 13 := Or.inl ⟨3, by decide +kernel, rfl, rfl⟩
theorem dD_total_13 : Dn mD_total 13 .laload 1 14 := ⟨by decide +kernel, rfl⟩
theorem dD_total_14 : Dn mD_total 14 .ladd 1 15 := ⟨by decide +kernel, rfl⟩
theorem dD_total_15 : Dv mD_total 15 .lstore_n .lstore 1 16 := Or.inl ⟨1, by decide +kernel, rfl, rfl⟩
theorem dD_total_16 : Dn mD_total 16 (.iinc 3 1) 3 19 := ⟨by decide +kernel, rfl⟩
theorem dD_total_19 : Dj mD_total 19 .goto 22 4 := ⟨-15, by decide +kernel, rfl, rfl⟩
theorem dD_total_22 : Dv mD_total 22 .lload_n .lload 1 23 := Or.inl ⟨1, by decide +kernel, rfl, rfl⟩
theorem dD_total_23 : Dn mD_total 23 .lreturn 1 24 := ⟨by decide +kernel, rfl⟩
theorem dD_noteFact_0 : Dv mD_noteFact 0 .aload_n .aload 0 1 := Or.inl ⟨0, by decide +kernel, rfl, rfl⟩
theorem dD_noteFact_1 : Dk mD_noteFact 1 0 2 := Or.inl ⟨0, by decide +kernel, rfl, rfl⟩
theorem dD_noteFact_2 : Df mD_noteFact 2 .putfield 0 6 5 := ⟨144, ("EstateDesk", eT0, 8), by decide +kernel, rfl, rfl, by decide, rfl, Or.inl (tb2 0 rfl)⟩
theorem dD_noteFact_5 : Dn mD_noteFact 5 .return_ 1 6 := ⟨by decide +kernel, rfl⟩
theorem dD_requireOpen_0 : Dv mD_requireOpen 0 .aload_n .aload 0 1 := Or.inl ⟨0, by decide +kernel, rfl, rfl⟩
theorem dD_requireOpen_1 : Df mD_requireOpen 1 .getfield 0 7 4 := ⟨190, ("EstateDesk", eT0, 8), by decide +kernel, rfl, rfl, by decide, rfl, Or.inl (tb2 1 rfl)⟩
theorem dD_requireOpen_4 : Dj mD_requireOpen 4 (.ifCond .ne) 7 11 := ⟨7, by decide +kernel, rfl, rfl⟩
theorem dD_requireOpen_7 : Dk mD_requireOpen 7 1 8 := Or.inl ⟨1, by decide +kernel, rfl, rfl⟩
theorem dD_requireOpen_8 : Dj mD_requireOpen 8 .goto 11 12 := ⟨4, by decide +kernel, rfl, rfl⟩
theorem dD_requireOpen_11 : Dk mD_requireOpen 11 0 12 := Or.inl ⟨0, by decide +kernel, rfl, rfl⟩
theorem dD_requireOpen_12 : LkS mD_requireOpen 12 15 mD_requireState := ⟨74, by decide +kernel, rfl, Or.inl (tb2 101 rfl), tb2 102 rfl⟩
theorem dD_requireOpen_15 : Dn mD_requireOpen 15 .return_ 1 16 := ⟨by decide +kernel, rfl⟩
theorem dD_requireAsset_0 : Dv mD_requireAsset 0 .iload_n .iload 1 1 := Or.inl ⟨1, by decide +kernel, rfl, rfl⟩
theorem dD_requireAsset_1 : Dn mD_requireAsset 1 .i2l 1 2 := ⟨by decide +kernel, rfl⟩
theorem dD_requireAsset_2 : Dl mD_requireAsset 2 1 3 := Or.inl ⟨1, by decide +kernel, rfl, rfl⟩
theorem dD_requireAsset_3 : Dl mD_requireAsset 3 40 6 := Or.inr ⟨62, by decide +kernel, tb2 130 rfl, rfl⟩
theorem dD_requireAsset_6 : LkS mD_requireAsset 6 9 mD_requireWithin := ⟨48, by decide +kernel, rfl, Or.inl (tb2 29 rfl), tb2 30 rfl⟩
theorem dD_requireAsset_9 : Dv mD_requireAsset 9 .aload_n .aload 0 10 := Or.inl ⟨0, by decide +kernel, rfl, rfl⟩
theorem dD_requireAsset_10 : Df mD_requireAsset 10 .getfield 0 1 13 := ⟨19, ("EstateDesk", eT0, 8), by decide +kernel, rfl, rfl, by decide, rfl, Or.inl (tb1 235 rfl)⟩
theorem dD_requireAsset_13 : Df mD_requireAsset 13 .getfield 2 0 16 := ⟨70, ("EstateDesk$Assets", eT2, 7), by decide +kernel, rfl, rfl, by decide, rfl, Or.inr ⟨"EstateDesk", tb1 63 rfl⟩⟩
theorem dD_requireAsset_16 : Dv mD_requireAsset 16 .iload_n .iload 1 17 := Or.inl ⟨1, by decide +kernel, rfl, rfl⟩
theorem dD_requireAsset_17 : Dn mD_requireAsset 17 .baload 1 18 := ⟨by decide +kernel, rfl⟩
theorem dD_requireAsset_18 : LkS mD_requireAsset 18 21 mD_requireArgument := ⟨103, by decide +kernel, rfl, Or.inl (tb2 32 rfl), tb2 33 rfl⟩
theorem dD_requireAsset_21 : Dn mD_requireAsset 21 .return_ 1 22 := ⟨by decide +kernel, rfl⟩
theorem dD_requireAssetOrNone_0 : Dv mD_requireAssetOrNone 0 .iload_n .iload 1 1 := Or.inl ⟨1, by decide +kernel, rfl, rfl⟩
theorem dD_requireAssetOrNone_1 : Dj mD_requireAssetOrNone 1 (.ifCond .eq) 4 9 := ⟨8, by decide +kernel, rfl, rfl⟩
theorem dD_requireAssetOrNone_4 : Dv mD_requireAssetOrNone 4 .aload_n .aload 0 5 := Or.inl ⟨0, by decide +kernel, rfl, rfl⟩
theorem dD_requireAssetOrNone_5 : Dv mD_requireAssetOrNone 5 .iload_n .iload 1 6 := Or.inl ⟨1, by decide +kernel, rfl, rfl⟩
theorem dD_requireAssetOrNone_6 : LkV mD_requireAssetOrNone 6 9 mD_requireAsset := ⟨85, by decide +kernel, rfl, Or.inl (tb2 146 rfl), tb2 148 rfl, ts 3 rfl⟩
theorem dD_requireAssetOrNone_9 : Dn mD_requireAssetOrNone 9 .return_ 1 10 := ⟨by decide +kernel, rfl⟩
theorem dD_requireWithin_0 : Dv mD_requireWithin 0 .lload_n .lload 0 1 := Or.inl ⟨0, by decide +kernel, rfl, rfl⟩
theorem dD_requireWithin_1 : Dv mD_requireWithin 1 .lload_n .lload 2 2 := Or.inl ⟨2, by decide +kernel, rfl, rfl⟩
theorem dD_requireWithin_2 : Dn mD_requireWithin 2 .lcmp 1 3 := ⟨by decide +kernel, rfl⟩
theorem dD_requireWithin_3 : Dj mD_requireWithin 3 (.ifCond .lt) 6 17 := ⟨14, by decide +kernel, rfl, rfl⟩
theorem dD_requireWithin_6 : Dv mD_requireWithin 6 .lload_n .lload 0 7 := Or.inl ⟨0, by decide +kernel, rfl, rfl⟩
theorem dD_requireWithin_7 : Dv mD_requireWithin 7 .lload_n .lload 4 9 := Or.inr ⟨by decide +kernel, rfl⟩
theorem dD_requireWithin_9 : Dn mD_requireWithin 9 .lcmp 1 10 := ⟨by decide +kernel, rfl⟩
theorem dD_requireWithin_10 : Dj mD_requireWithin 10 (.ifCond .gt) 13 17 := ⟨7, by decide +kernel, rfl, rfl⟩
theorem dD_requireWithin_13 : Dk mD_requireWithin 13 1 14 := Or.inl ⟨1, by decide +kernel, rfl, rfl⟩
theorem dD_requireWithin_14 : Dj mD_requireWithin 14 .goto 17 18 := ⟨4, by decide +kernel, rfl, rfl⟩
theorem dD_requireWithin_17 : Dk mD_requireWithin 17 0 18 := Or.inl ⟨0, by decide +kernel, rfl, rfl⟩
theorem dD_requireWithin_18 : LkS mD_requireWithin 18 21 mD_requireArgument := ⟨103, by decide +kernel, rfl, Or.inl (tb2 32 rfl), tb2 33 rfl⟩
theorem dD_requireWithin_21 : Dn mD_requireWithin 21 .return_ 1 22 := ⟨by decide +kernel, rfl⟩
theorem dD_requireArgument_0 : Dv mD_requireArgument 0 .iload_n .iload 0 1 := Or.inl ⟨0, by decide +kernel, rfl, rfl⟩
theorem dD_requireArgument_1 : Dj mD_requireArgument 1 (.ifCond .ne) 4 12 := ⟨11, by decide +kernel, rfl, rfl⟩
theorem dD_requireArgument_4 : Dn mD_requireArgument 4 (.new 199) 3 7 := ⟨by decide +kernel, rfl⟩
theorem dD_requireArgument_7 : Dn mD_requireArgument 7 .dup 1 8 := ⟨by decide +kernel, rfl⟩
theorem dD_requireArgument_8 : Dn mD_requireArgument 8 (.invokespecial 201) 3 11 := ⟨by decide +kernel, rfl⟩
theorem dD_requireArgument_11 : Dn mD_requireArgument 11 .athrow 1 12 := ⟨by decide +kernel, rfl⟩
theorem dD_requireArgument_12 : Dn mD_requireArgument 12 .return_ 1 13 := ⟨by decide +kernel, rfl⟩
theorem dD_requireState_0 : Dv mD_requireState 0 .iload_n .iload 0 1 := Or.inl ⟨0, by decide +kernel, rfl, rfl⟩
theorem dD_requireState_1 : Dj mD_requireState 1 (.ifCond .ne) 4 12 := ⟨11, by decide +kernel, rfl, rfl⟩
theorem dD_requireState_4 : Dn mD_requireState 4 (.new 202) 3 7 := ⟨by decide +kernel, rfl⟩
theorem dD_requireState_7 : Dn mD_requireState 7 .dup 1 8 := ⟨by decide +kernel, rfl⟩
theorem dD_requireState_8 : Dn mD_requireState 8 (.invokespecial 204) 3 11 := ⟨by decide +kernel, rfl⟩
theorem dD_requireState_11 : Dn mD_requireState 11 .athrow 1 12 := ⟨by decide +kernel, rfl⟩
theorem dD_requireState_12 : Dn mD_requireState 12 .return_ 1 13 := ⟨by decide +kernel, rfl⟩
end
section
theorem dJ_fillI_0 : Dk mJ_fillI 0 0 1 := Or.inl ⟨0, by decide +kernel, rfl, rfl⟩
theorem dJ_fillI_1 : Dv mJ_fillI 1 .istore_n .istore 2 2 := Or.inl ⟨2, by decide +kernel, rfl, rfl⟩
theorem dJ_fillI_2 : Dv mJ_fillI 2 .aload_n .aload 0 3 := Or.inl ⟨0, by decide +kernel, rfl, rfl⟩
theorem dJ_fillI_3 : Dn mJ_fillI 3 .arraylength 1 4 := ⟨by decide +kernel, rfl⟩
theorem dJ_fillI_4 : Dv mJ_fillI 4 .istore_n .istore 3 5 := Or.inl ⟨3, by decide +kernel, rfl, rfl⟩
theorem dJ_fillI_5 : Dv mJ_fillI 5 .iload_n .iload 2 6 := Or.inl ⟨2, by decide +kernel, rfl, rfl⟩
theorem dJ_fillI_6 : Dv mJ_fillI 6 .iload_n .iload 3 7 := Or.inl ⟨3, by decide +kernel, rfl, rfl⟩
theorem dJ_fillI_7 : Dj mJ_fillI 7 (.if_icmp .ge) 10 20 := ⟨13, by decide +kernel, rfl, rfl⟩
theorem dJ_fillI_10 : Dv mJ_fillI 10 .aload_n .aload 0 11 := Or.inl ⟨0, by decide +kernel, rfl, rfl⟩
theorem dJ_fillI_11 : Dv mJ_fillI 11 .iload_n .iload 2 12 := Or.inl ⟨2, by decide +kernel, rfl, rfl⟩
theorem dJ_fillI_12 : Dv mJ_fillI 12 .iload_n .iload 1 13 := Or.inl ⟨1, by decide +kernel, rfl, rfl⟩
theorem dJ_fillI_13 : Dn mJ_fillI 13 .iastore 1 14 := ⟨by decide +kernel, rfl⟩
theorem dJ_fillI_14 : Dn mJ_fillI 14 (.iinc 2 1) 3 17 := ⟨by decide +kernel, rfl⟩
theorem dJ_fillI_17 : Dj mJ_fillI 17 .goto 20 5 := ⟨-12, by decide +kernel, rfl, rfl⟩
theorem dJ_fillI_20 : Dn mJ_fillI 20 .return_ 1 21 := ⟨by decide +kernel, rfl⟩
theorem dJ_fillL_0 : Dk mJ_fillL 0 0 1 := Or.inl ⟨0, by decide +kernel, rfl, rfl⟩
theorem dJ_fillL_1 : Dv mJ_fillL 1 .istore_n .istore 3 2 := Or.inl ⟨3, by decide +kernel, rfl, rfl⟩
theorem dJ_fillL_2 : Dv mJ_fillL 2 .aload_n .aload 0 3 := Or.inl ⟨0, by decide +kernel, rfl, rfl⟩
theorem dJ_fillL_3 : Dn mJ_fillL 3 .arraylength 1 4 := ⟨by decide +kernel, rfl⟩
theorem dJ_fillL_4 : Dv mJ_fillL 4 .istore_n .istore 4 6 := Or.inr ⟨by decide +kernel, rfl⟩
theorem dJ_fillL_6 : Dv mJ_fillL 6 .iload_n .iload 3 7 := Or.inl ⟨3, by decide +kernel, rfl, rfl⟩
theorem dJ_fillL_7 : Dv mJ_fillL 7 .iload_n .iload 4 9 := Or.inr ⟨by decide +kernel, rfl⟩
theorem dJ_fillL_9 : Dj mJ_fillL 9 (.if_icmp .ge) 12 22 := ⟨13, by decide +kernel, rfl, rfl⟩
theorem dJ_fillL_12 : Dv mJ_fillL 12 .aload_n .aload 0 13 := Or.inl ⟨0, by decide +kernel, rfl, rfl⟩
theorem dJ_fillL_13 : Dv mJ_fillL 13 .iload_n .iload 3 14 := Or.inl ⟨3, by decide +kernel, rfl, rfl⟩
theorem dJ_fillL_14 : Dv mJ_fillL 14 .lload_n .lload 1 15 := Or.inl ⟨1, by decide +kernel, rfl, rfl⟩
theorem dJ_fillL_15 : Dn mJ_fillL 15 .lastore 1 16 := ⟨by decide +kernel, rfl⟩
theorem dJ_fillL_16 : Dn mJ_fillL 16 (.iinc 3 1) 3 19 := ⟨by decide +kernel, rfl⟩
theorem dJ_fillL_19 : Dj mJ_fillL 19 .goto 22 6 := ⟨-13, by decide +kernel, rfl, rfl⟩
theorem dJ_fillL_22 : Dn mJ_fillL 22 .return_ 1 23 := ⟨by decide +kernel, rfl⟩
theorem dJ_max_0 : Dv mJ_max 0 .lload_n .lload 0 1 := Or.inl ⟨0, by decide +kernel, rfl, rfl⟩
theorem dJ_max_1 : Dv mJ_max 1 .lload_n .lload 2 2 := Or.inl ⟨2, by decide +kernel, rfl, rfl⟩
theorem dJ_max_2 : Dn mJ_max 2 .lcmp 1 3 := ⟨by decide +kernel, rfl⟩
theorem dJ_max_3 : Dj mJ_max 3 (.ifCond .lt) 6 10 := ⟨7, by decide +kernel, rfl, rfl⟩
theorem dJ_max_6 : Dv mJ_max 6 .lload_n .lload 0 7 := Or.inl ⟨0, by decide +kernel, rfl, rfl⟩
theorem dJ_max_7 : Dj mJ_max 7 .goto 10 11 := ⟨4, by decide +kernel, rfl, rfl⟩
theorem dJ_max_10 : Dv mJ_max 10 .lload_n .lload 2 11 := Or.inl ⟨2, by decide +kernel, rfl, rfl⟩
theorem dJ_max_11 : Dn mJ_max 11 .lreturn 1 12 := ⟨by decide +kernel, rfl⟩
theorem dJ_min_0 : Dv mJ_min 0 .lload_n .lload 0 1 := Or.inl ⟨0, by decide +kernel, rfl, rfl⟩
theorem dJ_min_1 : Dv mJ_min 1 .lload_n .lload 2 2 := Or.inl ⟨2, by decide +kernel, rfl, rfl⟩
theorem dJ_min_2 : Dn mJ_min 2 .lcmp 1 3 := ⟨by decide +kernel, rfl⟩
theorem dJ_min_3 : Dj mJ_min 3 (.ifCond .gt) 6 10 := ⟨7, by decide +kernel, rfl, rfl⟩
theorem dJ_min_6 : Dv mJ_min 6 .lload_n .lload 0 7 := Or.inl ⟨0, by decide +kernel, rfl, rfl⟩
theorem dJ_min_7 : Dj mJ_min 7 .goto 10 11 := ⟨4, by decide +kernel, rfl, rfl⟩
theorem dJ_min_10 : Dv mJ_min 10 .lload_n .lload 2 11 := Or.inl ⟨2, by decide +kernel, rfl, rfl⟩
theorem dJ_min_11 : Dn mJ_min 11 .lreturn 1 12 := ⟨by decide +kernel, rfl⟩
end
section
theorem dL_testator_0 : Dv mL_testator 0 .aload_n .aload 0 1 := Or.inl ⟨0, by decide +kernel, rfl, rfl⟩
theorem dL_testator_1 : Dv mL_testator 1 .iload_n .iload 1 2 := Or.inl ⟨1, by decide +kernel, rfl, rfl⟩
theorem dL_testator_2 : LkV mL_testator 2 5 mD_testator := ⟨7, by decide +kernel, rfl, Or.inl (tb2 24 rfl), tb2 25 rfl, tb2 26 rfl⟩
theorem dL_testator_5 : Dj mL_testator 5 .goto 8 14 := ⟨9, by decide +kernel, rfl, rfl⟩
theorem dL_testator_8 : Dv mL_testator 8 .astore_n .astore 2 9 := Or.inl ⟨2, by decide +kernel, rfl, rfl⟩
theorem dL_testator_9 : Dk mL_testator 9 1 10 := Or.inl ⟨1, by decide +kernel, rfl, rfl⟩
theorem dL_testator_10 : Dn mL_testator 10 .ireturn 1 11 := ⟨by decide +kernel, rfl⟩
theorem dL_testator_11 : Dv mL_testator 11 .astore_n .astore 2 12 := Or.inl ⟨2, by decide +kernel, rfl, rfl⟩
theorem dL_testator_12 : Dk mL_testator 12 2 13 := Or.inl ⟨2, by decide +kernel, rfl, rfl⟩
theorem dL_testator_13 : Dn mL_testator 13 .ireturn 1 14 := ⟨by decide +kernel, rfl⟩
theorem dL_testator_14 : Dk mL_testator 14 0 15 := Or.inl ⟨0, by decide +kernel, rfl, rfl⟩
theorem dL_testator_15 : Dn mL_testator 15 .ireturn 1 16 := ⟨by decide +kernel, rfl⟩
theorem dL_person_0 : Dv mL_person 0 .aload_n .aload 0 1 := Or.inl ⟨0, by decide +kernel, rfl, rfl⟩
theorem dL_person_1 : Dv mL_person 1 .iload_n .iload 1 2 := Or.inl ⟨1, by decide +kernel, rfl, rfl⟩
theorem dL_person_2 : Dv mL_person 2 .iload_n .iload 2 3 := Or.inl ⟨2, by decide +kernel, rfl, rfl⟩
theorem dL_person_3 : LkV mL_person 3 6 mD_person := ⟨17, by decide +kernel, rfl, Or.inl (tb2 126 rfl), tb2 127 rfl, tb2 128 rfl⟩
theorem dL_person_6 : Dj mL_person 6 .goto 9 15 := ⟨9, by decide +kernel, rfl, rfl⟩
theorem dL_person_9 : Dv mL_person 9 .astore_n .astore 3 10 := Or.inl ⟨3, by decide +kernel, rfl, rfl⟩
theorem dL_person_10 : Dk mL_person 10 1 11 := Or.inl ⟨1, by decide +kernel, rfl, rfl⟩
theorem dL_person_11 : Dn mL_person 11 .ireturn 1 12 := ⟨by decide +kernel, rfl⟩
theorem dL_person_12 : Dv mL_person 12 .astore_n .astore 3 13 := Or.inl ⟨3, by decide +kernel, rfl, rfl⟩
theorem dL_person_13 : Dk mL_person 13 2 14 := Or.inl ⟨2, by decide +kernel, rfl, rfl⟩
theorem dL_person_14 : Dn mL_person 14 .ireturn 1 15 := ⟨by decide +kernel, rfl⟩
theorem dL_person_15 : Dk mL_person 15 0 16 := Or.inl ⟨0, by decide +kernel, rfl, rfl⟩
theorem dL_person_16 : Dn mL_person 16 .ireturn 1 17 := ⟨by decide +kernel, rfl⟩
theorem dL_asset_0 : Dv mL_asset 0 .aload_n .aload 0 1 := Or.inl ⟨0, by decide +kernel, rfl, rfl⟩
theorem dL_asset_1 : Dv mL_asset 1 .iload_n .iload 1 2 := Or.inl ⟨1, by decide +kernel, rfl, rfl⟩
theorem dL_asset_2 : Dv mL_asset 2 .lload_n .lload 2 3 := Or.inl ⟨2, by decide +kernel, rfl, rfl⟩
theorem dL_asset_3 : Dv mL_asset 3 .iload_n .iload 4 5 := Or.inr ⟨by decide +kernel, rfl⟩
theorem dL_asset_5 : LkV mL_asset 5 8 mD_asset := ⟨21, by decide +kernel, rfl, Or.inl (tb2 134 rfl), tb2 135 rfl, tb2 136 rfl⟩
theorem dL_asset_8 : Dj mL_asset 8 .goto 11 19 := ⟨11, by decide +kernel, rfl, rfl⟩
theorem dL_asset_11 : Dv mL_asset 11 .astore_n .astore 5 13 := Or.inr ⟨by decide +kernel, rfl⟩
theorem dL_asset_13 : Dk mL_asset 13 1 14 := Or.inl ⟨1, by decide +kernel, rfl, rfl⟩
theorem dL_asset_14 : Dn mL_asset 14 .ireturn 1 15 := ⟨by decide +kernel, rfl⟩
theorem dL_asset_15 : Dv mL_asset 15 .astore_n .astore 5 17 := Or.inr ⟨by decide +kernel, rfl⟩
theorem dL_asset_17 : Dk mL_asset 17 2 18 := Or.inl ⟨2, by decide +kernel, rfl, rfl⟩
theorem dL_asset_18 : Dn mL_asset 18 .ireturn 1 19 := ⟨by decide +kernel, rfl⟩
theorem dL_asset_19 : Dk mL_asset 19 0 20 := Or.inl ⟨0, by decide +kernel, rfl, rfl⟩
theorem dL_asset_20 : Dn mL_asset 20 .ireturn 1 21 := ⟨by decide +kernel, rfl⟩
theorem dL_revalue_0 : Dv mL_revalue 0 .aload_n .aload 4 2 := Or.inr ⟨by decide +kernel, rfl⟩
theorem dL_revalue_2 : Dk mL_revalue 2 0 3 := Or.inl ⟨0, by decide +kernel, rfl, rfl⟩
theorem dL_revalue_3 : Dv mL_revalue 3 .aload_n .aload 0 4 := Or.inl ⟨0, by decide +kernel, rfl, rfl⟩
theorem dL_revalue_4 : Dv mL_revalue 4 .iload_n .iload 1 5 := Or.inl ⟨1, by decide +kernel, rfl, rfl⟩
theorem dL_revalue_5 : Dv mL_revalue 5 .lload_n .lload 2 6 := Or.inl ⟨2, by decide +kernel, rfl, rfl⟩
theorem dL_revalue_6 : LkV mL_revalue 6 9 mD_revalue := ⟨25, by decide +kernel, rfl, Or.inl (tb2 142 rfl), tb2 143 rfl, tb2 144 rfl⟩
theorem dL_revalue_9 : Dn mL_revalue 9 .lastore 1 10 := ⟨by decide +kernel, rfl⟩
theorem dL_revalue_10 : Dj mL_revalue 10 .goto 13 21 := ⟨11, by decide +kernel, rfl, rfl⟩
theorem dL_revalue_13 : Dv mL_revalue 13 .astore_n .astore 5 15 := Or.inr ⟨by decide +kernel, rfl⟩
theorem dL_revalue_15 : Dk mL_revalue 15 1 16 := Or.inl ⟨1, by decide +kernel, rfl, rfl⟩
theorem dL_revalue_16 : Dn mL_revalue 16 .ireturn 1 17 := ⟨by decide +kernel, rfl⟩
theorem dL_revalue_17 : Dv mL_revalue 17 .astore_n .astore 5 19 := Or.inr ⟨by decide +kernel, rfl⟩
theorem dL_revalue_19 : Dk mL_revalue 19 2 20 := Or.inl ⟨2, by decide +kernel, rfl, rfl⟩
theorem dL_revalue_20 : Dn mL_revalue 20 .ireturn 1 21 := ⟨by decide +kernel, rfl⟩
theorem dL_revalue_21 : Dk mL_revalue 21 0 22 := Or.inl ⟨0, by decide +kernel, rfl, rfl⟩
theorem dL_revalue_22 : Dn mL_revalue 22 .ireturn 1 23 := ⟨by decide +kernel, rfl⟩
theorem dL_gone_0 : Dv mL_gone 0 .aload_n .aload 0 1 := Or.inl ⟨0, by decide +kernel, rfl, rfl⟩
theorem dL_gone_1 : Dv mL_gone 1 .iload_n .iload 1 2 := Or.inl ⟨1, by decide +kernel, rfl, rfl⟩
theorem dL_gone_2 : LkV mL_gone 2 5 mD_gone := ⟨29, by decide +kernel, rfl, Or.inl (tb2 153 rfl), tb2 154 rfl, tb2 155 rfl⟩
theorem dL_gone_5 : Dj mL_gone 5 .goto 8 14 := ⟨9, by decide +kernel, rfl, rfl⟩
theorem dL_gone_8 : Dv mL_gone 8 .astore_n .astore 2 9 := Or.inl ⟨2, by decide +kernel, rfl, rfl⟩
theorem dL_gone_9 : Dk mL_gone 9 1 10 := Or.inl ⟨1, by decide +kernel, rfl, rfl⟩
theorem dL_gone_10 : Dn mL_gone 10 .ireturn 1 11 := ⟨by decide +kernel, rfl⟩
theorem dL_gone_11 : Dv mL_gone 11 .astore_n .astore 2 12 := Or.inl ⟨2, by decide +kernel, rfl, rfl⟩
theorem dL_gone_12 : Dk mL_gone 12 2 13 := Or.inl ⟨2, by decide +kernel, rfl, rfl⟩
theorem dL_gone_13 : Dn mL_gone 13 .ireturn 1 14 := ⟨by decide +kernel, rfl⟩
theorem dL_gone_14 : Dk mL_gone 14 0 15 := Or.inl ⟨0, by decide +kernel, rfl, rfl⟩
theorem dL_gone_15 : Dn mL_gone 15 .ireturn 1 16 := ⟨by decide +kernel, rfl⟩
theorem dL_gift_0 : Dv mL_gift 0 .aload_n .aload 0 1 := Or.inl ⟨0, by decide +kernel, rfl, rfl⟩
theorem dL_gift_1 : Dv mL_gift 1 .iload_n .iload 1 2 := Or.inl ⟨1, by decide +kernel, rfl, rfl⟩
theorem dL_gift_2 : Dv mL_gift 2 .iload_n .iload 2 3 := Or.inl ⟨2, by decide +kernel, rfl, rfl⟩
theorem dL_gift_3 : LkV mL_gift 3 6 mD_gift := ⟨32, by decide +kernel, rfl, Or.inl (tb2 160 rfl), tb2 161 rfl, tb2 162 rfl⟩
theorem dL_gift_6 : Dj mL_gift 6 .goto 9 15 := ⟨9, by decide +kernel, rfl, rfl⟩
theorem dL_gift_9 : Dv mL_gift 9 .astore_n .astore 3 10 := Or.inl ⟨3, by decide +kernel, rfl, rfl⟩
theorem dL_gift_10 : Dk mL_gift 10 1 11 := Or.inl ⟨1, by decide +kernel, rfl, rfl⟩
theorem dL_gift_11 : Dn mL_gift 11 .ireturn 1 12 := ⟨by decide +kernel, rfl⟩
theorem dL_gift_12 : Dv mL_gift 12 .astore_n .astore 3 13 := Or.inl ⟨3, by decide +kernel, rfl, rfl⟩
theorem dL_gift_13 : Dk mL_gift 13 2 14 := Or.inl ⟨2, by decide +kernel, rfl, rfl⟩
theorem dL_gift_14 : Dn mL_gift 14 .ireturn 1 15 := ⟨by decide +kernel, rfl⟩
theorem dL_gift_15 : Dk mL_gift 15 0 16 := Or.inl ⟨0, by decide +kernel, rfl, rfl⟩
theorem dL_gift_16 : Dn mL_gift 16 .ireturn 1 17 := ⟨by decide +kernel, rfl⟩
theorem dL_legacy_0 : Dv mL_legacy 0 .aload_n .aload 0 1 := Or.inl ⟨0, by decide +kernel, rfl, rfl⟩
theorem dL_legacy_1 : Dv mL_legacy 1 .iload_n .iload 1 2 := Or.inl ⟨1, by decide +kernel, rfl, rfl⟩
theorem dL_legacy_2 : Dv mL_legacy 2 .lload_n .lload 2 3 := Or.inl ⟨2, by decide +kernel, rfl, rfl⟩
theorem dL_legacy_3 : Dv mL_legacy 3 .iload_n .iload 4 5 := Or.inr ⟨by decide +kernel, rfl⟩
theorem dL_legacy_5 : LkV mL_legacy 5 8 mD_legacy := ⟨35, by decide +kernel, rfl, Or.inl (tb2 175 rfl), tb2 176 rfl, tb2 177 rfl⟩
theorem dL_legacy_8 : Dj mL_legacy 8 .goto 11 19 := ⟨11, by decide +kernel, rfl, rfl⟩
theorem dL_legacy_11 : Dv mL_legacy 11 .astore_n .astore 5 13 := Or.inr ⟨by decide +kernel, rfl⟩
theorem dL_legacy_13 : Dk mL_legacy 13 1 14 := Or.inl ⟨1, by decide +kernel, rfl, rfl⟩
theorem dL_legacy_14 : Dn mL_legacy 14 .ireturn 1 15 := ⟨by decide +kernel, rfl⟩
theorem dL_legacy_15 : Dv mL_legacy 15 .astore_n .astore 5 17 := Or.inr ⟨by decide +kernel, rfl⟩
theorem dL_legacy_17 : Dk mL_legacy 17 2 18 := Or.inl ⟨2, by decide +kernel, rfl, rfl⟩
theorem dL_legacy_18 : Dn mL_legacy 18 .ireturn 1 19 := ⟨by decide +kernel, rfl⟩
theorem dL_legacy_19 : Dk mL_legacy 19 0 20 := Or.inl ⟨0, by decide +kernel, rfl, rfl⟩
theorem dL_legacy_20 : Dn mL_legacy 20 .ireturn 1 21 := ⟨by decide +kernel, rfl⟩
theorem dL_annuity_0 : Dv mL_annuity 0 .aload_n .aload 0 1 := Or.inl ⟨0, by decide +kernel, rfl, rfl⟩
theorem dL_annuity_1 : Dv mL_annuity 1 .iload_n .iload 1 2 := Or.inl ⟨1, by decide +kernel, rfl, rfl⟩
theorem dL_annuity_2 : Dv mL_annuity 2 .lload_n .lload 2 3 := Or.inl ⟨2, by decide +kernel, rfl, rfl⟩
theorem dL_annuity_3 : Dv mL_annuity 3 .iload_n .iload 4 5 := Or.inr ⟨by decide +kernel, rfl⟩
theorem dL_annuity_5 : LkV mL_annuity 5 8 mD_annuity := ⟨39, by decide +kernel, rfl, Or.inl (tb2 190 rfl), tb2 191 rfl, tb2 192 rfl⟩
theorem dL_annuity_8 : Dj mL_annuity 8 .goto 11 19 := ⟨11, by decide +kernel, rfl, rfl⟩
theorem dL_annuity_11 : Dv mL_annuity 11 .astore_n .astore 5 13 := Or.inr ⟨by decide +kernel, rfl⟩
theorem dL_annuity_13 : Dk mL_annuity 13 1 14 := Or.inl ⟨1, by decide +kernel, rfl, rfl⟩
theorem dL_annuity_14 : Dn mL_annuity 14 .ireturn 1 15 := ⟨by decide +kernel, rfl⟩
theorem dL_annuity_15 : Dv mL_annuity 15 .astore_n .astore 5 17 := Or.inr ⟨by decide +kernel, rfl⟩
theorem dL_annuity_17 : Dk mL_annuity 17 2 18 := Or.inl ⟨2, by decide +kernel, rfl, rfl⟩
theorem dL_annuity_18 : Dn mL_annuity 18 .ireturn 1 19 := ⟨by decide +kernel, rfl⟩
theorem dL_annuity_19 : Dk mL_annuity 19 0 20 := Or.inl ⟨0, by decide +kernel, rfl, rfl⟩
theorem dL_annuity_20 : Dn mL_annuity 20 .ireturn 1 21 := ⟨by decide +kernel, rfl⟩
theorem dL_residue_0 : Dv mL_residue 0 .aload_n .aload 0 1 := Or.inl ⟨0, by decide +kernel, rfl, rfl⟩
theorem dL_residue_1 : Dv mL_residue 1 .iload_n .iload 1 2 := Or.inl ⟨1, by decide +kernel, rfl, rfl⟩
theorem dL_residue_2 : Dv mL_residue 2 .iload_n .iload 2 3 := Or.inl ⟨2, by decide +kernel, rfl, rfl⟩
theorem dL_residue_3 : LkV mL_residue 3 6 mD_residue := ⟨42, by decide +kernel, rfl, Or.inl (tb2 205 rfl), tb2 206 rfl, tb2 207 rfl⟩
theorem dL_residue_6 : Dj mL_residue 6 .goto 9 15 := ⟨9, by decide +kernel, rfl, rfl⟩
theorem dL_residue_9 : Dv mL_residue 9 .astore_n .astore 3 10 := Or.inl ⟨3, by decide +kernel, rfl, rfl⟩
theorem dL_residue_10 : Dk mL_residue 10 1 11 := Or.inl ⟨1, by decide +kernel, rfl, rfl⟩
theorem dL_residue_11 : Dn mL_residue 11 .ireturn 1 12 := ⟨by decide +kernel, rfl⟩
theorem dL_residue_12 : Dv mL_residue 12 .astore_n .astore 3 13 := Or.inl ⟨3, by decide +kernel, rfl, rfl⟩
theorem dL_residue_13 : Dk mL_residue 13 2 14 := Or.inl ⟨2, by decide +kernel, rfl, rfl⟩
theorem dL_residue_14 : Dn mL_residue 14 .ireturn 1 15 := ⟨by decide +kernel, rfl⟩
theorem dL_residue_15 : Dk mL_residue 15 0 16 := Or.inl ⟨0, by decide +kernel, rfl, rfl⟩
theorem dL_residue_16 : Dn mL_residue 16 .ireturn 1 17 := ⟨by decide +kernel, rfl⟩
theorem dL_strike_0 : Dv mL_strike 0 .aload_n .aload 0 1 := Or.inl ⟨0, by decide +kernel, rfl, rfl⟩
theorem dL_strike_1 : Dv mL_strike 1 .iload_n .iload 1 2 := Or.inl ⟨1, by decide +kernel, rfl, rfl⟩
theorem dL_strike_2 : LkV mL_strike 2 5 mD_strike := ⟨45, by decide +kernel, rfl, Or.inl (tb2 213 rfl), tb2 214 rfl, tb2 215 rfl⟩
theorem dL_strike_5 : Dj mL_strike 5 .goto 8 14 := ⟨9, by decide +kernel, rfl, rfl⟩
theorem dL_strike_8 : Dv mL_strike 8 .astore_n .astore 2 9 := Or.inl ⟨2, by decide +kernel, rfl, rfl⟩
theorem dL_strike_9 : Dk mL_strike 9 1 10 := Or.inl ⟨1, by decide +kernel, rfl, rfl⟩
theorem dL_strike_10 : Dn mL_strike 10 .ireturn 1 11 := ⟨by decide +kernel, rfl⟩
theorem dL_strike_11 : Dv mL_strike 11 .astore_n .astore 2 12 := Or.inl ⟨2, by decide +kernel, rfl, rfl⟩
theorem dL_strike_12 : Dk mL_strike 12 2 13 := Or.inl ⟨2, by decide +kernel, rfl, rfl⟩
theorem dL_strike_13 : Dn mL_strike 13 .ireturn 1 14 := ⟨by decide +kernel, rfl⟩
theorem dL_strike_14 : Dk mL_strike 14 0 15 := Or.inl ⟨0, by decide +kernel, rfl, rfl⟩
theorem dL_strike_15 : Dn mL_strike 15 .ireturn 1 16 := ⟨by decide +kernel, rfl⟩
theorem dL_taker_0 : Dv mL_taker 0 .aload_n .aload 0 1 := Or.inl ⟨0, by decide +kernel, rfl, rfl⟩
theorem dL_taker_1 : Dv mL_taker 1 .iload_n .iload 1 2 := Or.inl ⟨1, by decide +kernel, rfl, rfl⟩
theorem dL_taker_2 : Dv mL_taker 2 .iload_n .iload 2 3 := Or.inl ⟨2, by decide +kernel, rfl, rfl⟩
theorem dL_taker_3 : Dv mL_taker 3 .iload_n .iload 3 4 := Or.inl ⟨3, by decide +kernel, rfl, rfl⟩
theorem dL_taker_4 : LkV mL_taker 4 7 mD_taker := ⟨48, by decide +kernel, rfl, Or.inl (tb2 220 rfl), tb2 221 rfl, tb2 222 rfl⟩
theorem dL_taker_7 : Dj mL_taker 7 .goto 10 18 := ⟨11, by decide +kernel, rfl, rfl⟩
theorem dL_taker_10 : Dv mL_taker 10 .astore_n .astore 4 12 := Or.inr ⟨by decide +kernel, rfl⟩
theorem dL_taker_12 : Dk mL_taker 12 1 13 := Or.inl ⟨1, by decide +kernel, rfl, rfl⟩
theorem dL_taker_13 : Dn mL_taker 13 .ireturn 1 14 := ⟨by decide +kernel, rfl⟩
theorem dL_taker_14 : Dv mL_taker 14 .astore_n .astore 4 16 := Or.inr ⟨by decide +kernel, rfl⟩
theorem dL_taker_16 : Dk mL_taker 16 2 17 := Or.inl ⟨2, by decide +kernel, rfl, rfl⟩
theorem dL_taker_17 : Dn mL_taker 17 .ireturn 1 18 := ⟨by decide +kernel, rfl⟩
theorem dL_taker_18 : Dk mL_taker 18 0 19 := Or.inl ⟨0, by decide +kernel, rfl, rfl⟩
theorem dL_taker_19 : Dn mL_taker 19 .ireturn 1 20 := ⟨by decide +kernel, rfl⟩
theorem dL_charge_0 : Dv mL_charge 0 .aload_n .aload 0 1 := Or.inl ⟨0, by decide +kernel, rfl, rfl⟩
theorem dL_charge_1 : Dv mL_charge 1 .iload_n .iload 1 2 := Or.inl ⟨1, by decide +kernel, rfl, rfl⟩
theorem dL_charge_2 : Dv mL_charge 2 .iload_n .iload 2 3 := Or.inl ⟨2, by decide +kernel, rfl, rfl⟩
theorem dL_charge_3 : LkV mL_charge 3 6 mD_charge := ⟨52, by decide +kernel, rfl, Or.inl (tb2 228 rfl), tb2 229 rfl, tb2 230 rfl⟩
theorem dL_charge_6 : Dj mL_charge 6 .goto 9 15 := ⟨9, by decide +kernel, rfl, rfl⟩
theorem dL_charge_9 : Dv mL_charge 9 .astore_n .astore 3 10 := Or.inl ⟨3, by decide +kernel, rfl, rfl⟩
theorem dL_charge_10 : Dk mL_charge 10 1 11 := Or.inl ⟨1, by decide +kernel, rfl, rfl⟩
theorem dL_charge_11 : Dn mL_charge 11 .ireturn 1 12 := ⟨by decide +kernel, rfl⟩
theorem dL_charge_12 : Dv mL_charge 12 .astore_n .astore 3 13 := Or.inl ⟨3, by decide +kernel, rfl, rfl⟩
theorem dL_charge_13 : Dk mL_charge 13 2 14 := Or.inl ⟨2, by decide +kernel, rfl, rfl⟩
theorem dL_charge_14 : Dn mL_charge 14 .ireturn 1 15 := ⟨by decide +kernel, rfl⟩
theorem dL_charge_15 : Dk mL_charge 15 0 16 := Or.inl ⟨0, by decide +kernel, rfl, rfl⟩
theorem dL_charge_16 : Dn mL_charge 16 .ireturn 1 17 := ⟨by decide +kernel, rfl⟩
theorem dL_debt_0 : Dv mL_debt 0 .aload_n .aload 0 1 := Or.inl ⟨0, by decide +kernel, rfl, rfl⟩
theorem dL_debt_1 : Dv mL_debt 1 .iload_n .iload 1 2 := Or.inl ⟨1, by decide +kernel, rfl, rfl⟩
theorem dL_debt_2 : Dv mL_debt 2 .lload_n .lload 2 3 := Or.inl ⟨2, by decide +kernel, rfl, rfl⟩
theorem dL_debt_3 : Dv mL_debt 3 .iload_n .iload 4 5 := Or.inr ⟨by decide +kernel, rfl⟩
theorem dL_debt_5 : LkV mL_debt 5 8 mD_debt := ⟨56, by decide +kernel, rfl, Or.inl (tb2 235 rfl), tb2 236 rfl, tb2 237 rfl⟩
theorem dL_debt_8 : Dj mL_debt 8 .goto 11 19 := ⟨11, by decide +kernel, rfl, rfl⟩
theorem dL_debt_11 : Dv mL_debt 11 .astore_n .astore 5 13 := Or.inr ⟨by decide +kernel, rfl⟩
theorem dL_debt_13 : Dk mL_debt 13 1 14 := Or.inl ⟨1, by decide +kernel, rfl, rfl⟩
theorem dL_debt_14 : Dn mL_debt 14 .ireturn 1 15 := ⟨by decide +kernel, rfl⟩
theorem dL_debt_15 : Dv mL_debt 15 .astore_n .astore 5 17 := Or.inr ⟨by decide +kernel, rfl⟩
theorem dL_debt_17 : Dk mL_debt 17 2 18 := Or.inl ⟨2, by decide +kernel, rfl, rfl⟩
theorem dL_debt_18 : Dn mL_debt 18 .ireturn 1 19 := ⟨by decide +kernel, rfl⟩
theorem dL_debt_19 : Dk mL_debt 19 0 20 := Or.inl ⟨0, by decide +kernel, rfl, rfl⟩
theorem dL_debt_20 : Dn mL_debt 20 .ireturn 1 21 := ⟨by decide +kernel, rfl⟩
theorem dL_settle_0 : Dv mL_settle 0 .aload_n .aload 1 1 := Or.inl ⟨1, by decide +kernel, rfl, rfl⟩
theorem dL_settle_1 : Dk mL_settle 1 0 2 := Or.inl ⟨0, by decide +kernel, rfl, rfl⟩
theorem dL_settle_2 : Dv mL_settle 2 .aload_n .aload 0 3 := Or.inl ⟨0, by decide +kernel, rfl, rfl⟩
theorem dL_settle_3 : LkV mL_settle 3 6 mD_settle := ⟨59, by decide +kernel, rfl, Or.inl (tb3 2 rfl), tb3 3 rfl, tb3 4 rfl⟩
theorem dL_settle_6 : Dn mL_settle 6 .lastore 1 7 := ⟨by decide +kernel, rfl⟩
theorem dL_settle_7 : Dj mL_settle 7 .goto 10 13 := ⟨6, by decide +kernel, rfl, rfl⟩
theorem dL_settle_10 : Dv mL_settle 10 .astore_n .astore 2 11 := Or.inl ⟨2, by decide +kernel, rfl, rfl⟩
theorem dL_settle_11 : Dk mL_settle 11 1 12 := Or.inl ⟨1, by decide +kernel, rfl, rfl⟩
theorem dL_settle_12 : Dn mL_settle 12 .ireturn 1 13 := ⟨by decide +kernel, rfl⟩
theorem dL_settle_13 : Dk mL_settle 13 0 14 := Or.inl ⟨0, by decide +kernel, rfl, rfl⟩
theorem dL_settle_14 : Dn mL_settle 14 .ireturn 1 15 := ⟨by decide +kernel, rfl⟩
theorem dL_gets_0 : Dv mL_gets 0 .aload_n .aload 3 1 := Or.inl ⟨3, by decide +kernel, rfl, rfl⟩
theorem dL_gets_1 : Dk mL_gets 1 0 2 := Or.inl ⟨0, by decide +kernel, rfl, rfl⟩
theorem dL_gets_2 : Dv mL_gets 2 .aload_n .aload 0 3 := Or.inl ⟨0, by decide +kernel, rfl, rfl⟩
theorem dL_gets_3 : Dv mL_gets 3 .iload_n .iload 1 4 := Or.inl ⟨1, by decide +kernel, rfl, rfl⟩
theorem dL_gets_4 : Dv mL_gets 4 .iload_n .iload 2 5 := Or.inl ⟨2, by decide +kernel, rfl, rfl⟩
theorem dL_gets_5 : LkV mL_gets 5 8 mD_gets := ⟨63, by decide +kernel, rfl, Or.inl (tb3 125 rfl), tb3 126 rfl, tb3 127 rfl⟩
theorem dL_gets_8 : Dn mL_gets 8 .lastore 1 9 := ⟨by decide +kernel, rfl⟩
theorem dL_gets_9 : Dj mL_gets 9 .goto 12 20 := ⟨11, by decide +kernel, rfl, rfl⟩
theorem dL_gets_12 : Dv mL_gets 12 .astore_n .astore 4 14 := Or.inr ⟨by decide +kernel, rfl⟩
theorem dL_gets_14 : Dk mL_gets 14 1 15 := Or.inl ⟨1, by decide +kernel, rfl, rfl⟩
theorem dL_gets_15 : Dn mL_gets 15 .ireturn 1 16 := ⟨by decide +kernel, rfl⟩
theorem dL_gets_16 : Dv mL_gets 16 .astore_n .astore 4 18 := Or.inr ⟨by decide +kernel, rfl⟩
theorem dL_gets_18 : Dk mL_gets 18 2 19 := Or.inl ⟨2, by decide +kernel, rfl, rfl⟩
theorem dL_gets_19 : Dn mL_gets 19 .ireturn 1 20 := ⟨by decide +kernel, rfl⟩
theorem dL_gets_20 : Dk mL_gets 20 0 21 := Or.inl ⟨0, by decide +kernel, rfl, rfl⟩
theorem dL_gets_21 : Dn mL_gets 21 .ireturn 1 22 := ⟨by decide +kernel, rfl⟩
theorem dL_assetTo_0 : Dv mL_assetTo 0 .aload_n .aload 2 1 := Or.inl ⟨2, by decide +kernel, rfl, rfl⟩
theorem dL_assetTo_1 : Dk mL_assetTo 1 0 2 := Or.inl ⟨0, by decide +kernel, rfl, rfl⟩
theorem dL_assetTo_2 : Dv mL_assetTo 2 .aload_n .aload 0 3 := Or.inl ⟨0, by decide +kernel, rfl, rfl⟩
theorem dL_assetTo_3 : Dv mL_assetTo 3 .iload_n .iload 1 4 := Or.inl ⟨1, by decide +kernel, rfl, rfl⟩
theorem dL_assetTo_4 : LkV mL_assetTo 4 7 mD_assetTo := ⟨67, by decide +kernel, rfl, Or.inl (tb3 133 rfl), tb3 134 rfl, tb3 135 rfl⟩
theorem dL_assetTo_7 : Dn mL_assetTo 7 .i2l 1 8 := ⟨by decide +kernel, rfl⟩
theorem dL_assetTo_8 : Dn mL_assetTo 8 .lastore 1 9 := ⟨by decide +kernel, rfl⟩
theorem dL_assetTo_9 : Dj mL_assetTo 9 .goto 12 18 := ⟨9, by decide +kernel, rfl, rfl⟩
theorem dL_assetTo_12 : Dv mL_assetTo 12 .astore_n .astore 3 13 := Or.inl ⟨3, by decide +kernel, rfl, rfl⟩
theorem dL_assetTo_13 : Dk mL_assetTo 13 1 14 := Or.inl ⟨1, by decide +kernel, rfl, rfl⟩
theorem dL_assetTo_14 : Dn mL_assetTo 14 .ireturn 1 15 := ⟨by decide +kernel, rfl⟩
theorem dL_assetTo_15 : Dv mL_assetTo 15 .astore_n .astore 3 16 := Or.inl ⟨3, by decide +kernel, rfl, rfl⟩
theorem dL_assetTo_16 : Dk mL_assetTo 16 2 17 := Or.inl ⟨2, by decide +kernel, rfl, rfl⟩
theorem dL_assetTo_17 : Dn mL_assetTo 17 .ireturn 1 18 := ⟨by decide +kernel, rfl⟩
theorem dL_assetTo_18 : Dk mL_assetTo 18 0 19 := Or.inl ⟨0, by decide +kernel, rfl, rfl⟩
theorem dL_assetTo_19 : Dn mL_assetTo 19 .ireturn 1 20 := ⟨by decide +kernel, rfl⟩
theorem dL_clauseState_0 : Dv mL_clauseState 0 .aload_n .aload 2 1 := Or.inl ⟨2, by decide +kernel, rfl, rfl⟩
theorem dL_clauseState_1 : Dk mL_clauseState 1 0 2 := Or.inl ⟨0, by decide +kernel, rfl, rfl⟩
theorem dL_clauseState_2 : Dv mL_clauseState 2 .aload_n .aload 0 3 := Or.inl ⟨0, by decide +kernel, rfl, rfl⟩
theorem dL_clauseState_3 : Dv mL_clauseState 3 .iload_n .iload 1 4 := Or.inl ⟨1, by decide +kernel, rfl, rfl⟩
theorem dL_clauseState_4 : LkV mL_clauseState 4 7 mD_clauseState := ⟨71, by decide +kernel, rfl, Or.inl (tb3 140 rfl), tb3 141 rfl, tb3 142 rfl⟩
theorem dL_clauseState_7 : Dn mL_clauseState 7 .i2l 1 8 := ⟨by decide +kernel, rfl⟩
theorem dL_clauseState_8 : Dn mL_clauseState 8 .lastore 1 9 := ⟨by decide +kernel, rfl⟩
theorem dL_clauseState_9 : Dj mL_clauseState 9 .goto 12 18 := ⟨9, by decide +kernel, rfl, rfl⟩
theorem dL_clauseState_12 : Dv mL_clauseState 12 .astore_n .astore 3 13 := Or.inl ⟨3, by decide +kernel, rfl, rfl⟩
theorem dL_clauseState_13 : Dk mL_clauseState 13 1 14 := Or.inl ⟨1, by decide +kernel, rfl, rfl⟩
theorem dL_clauseState_14 : Dn mL_clauseState 14 .ireturn 1 15 := ⟨by decide +kernel, rfl⟩
theorem dL_clauseState_15 : Dv mL_clauseState 15 .astore_n .astore 3 16 := Or.inl ⟨3, by decide +kernel, rfl, rfl⟩
theorem dL_clauseState_16 : Dk mL_clauseState 16 2 17 := Or.inl ⟨2, by decide +kernel, rfl, rfl⟩
theorem dL_clauseState_17 : Dn mL_clauseState 17 .ireturn 1 18 := ⟨by decide +kernel, rfl⟩
theorem dL_clauseState_18 : Dk mL_clauseState 18 0 19 := Or.inl ⟨0, by decide +kernel, rfl, rfl⟩
theorem dL_clauseState_19 : Dn mL_clauseState 19 .ireturn 1 20 := ⟨by decide +kernel, rfl⟩
theorem dL_told_0 : Dv mL_told 0 .aload_n .aload 3 1 := Or.inl ⟨3, by decide +kernel, rfl, rfl⟩
theorem dL_told_1 : Dk mL_told 1 0 2 := Or.inl ⟨0, by decide +kernel, rfl, rfl⟩
theorem dL_told_2 : Dv mL_told 2 .aload_n .aload 0 3 := Or.inl ⟨0, by decide +kernel, rfl, rfl⟩
theorem dL_told_3 : Dv mL_told 3 .iload_n .iload 1 4 := Or.inl ⟨1, by decide +kernel, rfl, rfl⟩
theorem dL_told_4 : Dv mL_told 4 .iload_n .iload 2 5 := Or.inl ⟨2, by decide +kernel, rfl, rfl⟩
theorem dL_told_5 : LkV mL_told 5 8 mD_told := ⟨74, by decide +kernel, rfl, Or.inl (tb3 147 rfl), tb3 148 rfl, tb3 149 rfl⟩
theorem dL_told_8 : Dn mL_told 8 .lastore 1 9 := ⟨by decide +kernel, rfl⟩
theorem dL_told_9 : Dj mL_told 9 .goto 12 20 := ⟨11, by decide +kernel, rfl, rfl⟩
theorem dL_told_12 : Dv mL_told 12 .astore_n .astore 4 14 := Or.inr ⟨by decide +kernel, rfl⟩
theorem dL_told_14 : Dk mL_told 14 1 15 := Or.inl ⟨1, by decide +kernel, rfl, rfl⟩
theorem dL_told_15 : Dn mL_told 15 .ireturn 1 16 := ⟨by decide +kernel, rfl⟩
theorem dL_told_16 : Dv mL_told 16 .astore_n .astore 4 18 := Or.inr ⟨by decide +kernel, rfl⟩
theorem dL_told_18 : Dk mL_told 18 2 19 := Or.inl ⟨2, by decide +kernel, rfl, rfl⟩
theorem dL_told_19 : Dn mL_told 19 .ireturn 1 20 := ⟨by decide +kernel, rfl⟩
theorem dL_told_20 : Dk mL_told 20 0 21 := Or.inl ⟨0, by decide +kernel, rfl, rfl⟩
theorem dL_told_21 : Dn mL_told 21 .ireturn 1 22 := ⟨by decide +kernel, rfl⟩
theorem dL_paid_0 : Dv mL_paid 0 .aload_n .aload 2 1 := Or.inl ⟨2, by decide +kernel, rfl, rfl⟩
theorem dL_paid_1 : Dk mL_paid 1 0 2 := Or.inl ⟨0, by decide +kernel, rfl, rfl⟩
theorem dL_paid_2 : Dv mL_paid 2 .aload_n .aload 0 3 := Or.inl ⟨0, by decide +kernel, rfl, rfl⟩
theorem dL_paid_3 : Dv mL_paid 3 .iload_n .iload 1 4 := Or.inl ⟨1, by decide +kernel, rfl, rfl⟩
theorem dL_paid_4 : LkV mL_paid 4 7 mD_paid := ⟨77, by decide +kernel, rfl, Or.inl (tb3 155 rfl), tb3 156 rfl, tb3 157 rfl⟩
theorem dL_paid_7 : Dn mL_paid 7 .lastore 1 8 := ⟨by decide +kernel, rfl⟩
theorem dL_paid_8 : Dj mL_paid 8 .goto 11 17 := ⟨9, by decide +kernel, rfl, rfl⟩
theorem dL_paid_11 : Dv mL_paid 11 .astore_n .astore 3 12 := Or.inl ⟨3, by decide +kernel, rfl, rfl⟩
theorem dL_paid_12 : Dk mL_paid 12 1 13 := Or.inl ⟨1, by decide +kernel, rfl, rfl⟩
theorem dL_paid_13 : Dn mL_paid 13 .ireturn 1 14 := ⟨by decide +kernel, rfl⟩
theorem dL_paid_14 : Dv mL_paid 14 .astore_n .astore 3 15 := Or.inl ⟨3, by decide +kernel, rfl, rfl⟩
theorem dL_paid_15 : Dk mL_paid 15 2 16 := Or.inl ⟨2, by decide +kernel, rfl, rfl⟩
theorem dL_paid_16 : Dn mL_paid 16 .ireturn 1 17 := ⟨by decide +kernel, rfl⟩
theorem dL_paid_17 : Dk mL_paid 17 0 18 := Or.inl ⟨0, by decide +kernel, rfl, rfl⟩
theorem dL_paid_18 : Dn mL_paid 18 .ireturn 1 19 := ⟨by decide +kernel, rfl⟩
theorem dL_sum_0 : Dv mL_sum 0 .aload_n .aload 2 1 := Or.inl ⟨2, by decide +kernel, rfl, rfl⟩
theorem dL_sum_1 : Dk mL_sum 1 0 2 := Or.inl ⟨0, by decide +kernel, rfl, rfl⟩
theorem dL_sum_2 : Dv mL_sum 2 .aload_n .aload 0 3 := Or.inl ⟨0, by decide +kernel, rfl, rfl⟩
theorem dL_sum_3 : Dv mL_sum 3 .iload_n .iload 1 4 := Or.inl ⟨1, by decide +kernel, rfl, rfl⟩
theorem dL_sum_4 : LkV mL_sum 4 7 mD_sum := ⟨81, by decide +kernel, rfl, Or.inl (tb3 162 rfl), tb3 163 rfl, tb3 164 rfl⟩
theorem dL_sum_7 : Dn mL_sum 7 .lastore 1 8 := ⟨by decide +kernel, rfl⟩
theorem dL_sum_8 : Dj mL_sum 8 .goto 11 17 := ⟨9, by decide +kernel, rfl, rfl⟩
theorem dL_sum_11 : Dv mL_sum 11 .astore_n .astore 3 12 := Or.inl ⟨3, by decide +kernel, rfl, rfl⟩
theorem dL_sum_12 : Dk mL_sum 12 1 13 := Or.inl ⟨1, by decide +kernel, rfl, rfl⟩
theorem dL_sum_13 : Dn mL_sum 13 .ireturn 1 14 := ⟨by decide +kernel, rfl⟩
theorem dL_sum_14 : Dv mL_sum 14 .astore_n .astore 3 15 := Or.inl ⟨3, by decide +kernel, rfl, rfl⟩
theorem dL_sum_15 : Dk mL_sum 15 2 16 := Or.inl ⟨2, by decide +kernel, rfl, rfl⟩
theorem dL_sum_16 : Dn mL_sum 16 .ireturn 1 17 := ⟨by decide +kernel, rfl⟩
theorem dL_sum_17 : Dk mL_sum 17 0 18 := Or.inl ⟨0, by decide +kernel, rfl, rfl⟩
theorem dL_sum_18 : Dn mL_sum 18 .ireturn 1 19 := ⟨by decide +kernel, rfl⟩
theorem dL_close_0 : Dv mL_close 0 .aload_n .aload 0 1 := Or.inl ⟨0, by decide +kernel, rfl, rfl⟩
theorem dL_close_1 : LkV mL_close 1 4 mD_close := ⟨84, by decide +kernel, rfl, Or.inl (tb3 170 rfl), tb3 171 rfl, tb3 172 rfl⟩
theorem dL_close_4 : Dj mL_close 4 .goto 7 10 := ⟨6, by decide +kernel, rfl, rfl⟩
theorem dL_close_7 : Dv mL_close 7 .astore_n .astore 1 8 := Or.inl ⟨1, by decide +kernel, rfl, rfl⟩
theorem dL_close_8 : Dk mL_close 8 1 9 := Or.inl ⟨1, by decide +kernel, rfl, rfl⟩
theorem dL_close_9 : Dn mL_close 9 .ireturn 1 10 := ⟨by decide +kernel, rfl⟩
theorem dL_close_10 : Dk mL_close 10 0 11 := Or.inl ⟨0, by decide +kernel, rfl, rfl⟩
theorem dL_close_11 : Dn mL_close 11 .ireturn 1 12 := ⟨by decide +kernel, rfl⟩
theorem dL_worth_0 : Dv mL_worth 0 .aload_n .aload 4 2 := Or.inr ⟨by decide +kernel, rfl⟩
theorem dL_worth_2 : Dk mL_worth 2 0 3 := Or.inl ⟨0, by decide +kernel, rfl, rfl⟩
theorem dL_worth_3 : Dv mL_worth 3 .aload_n .aload 0 4 := Or.inl ⟨0, by decide +kernel, rfl, rfl⟩
theorem dL_worth_4 : Dv mL_worth 4 .lload_n .lload 1 5 := Or.inl ⟨1, by decide +kernel, rfl, rfl⟩
theorem dL_worth_5 : Dv mL_worth 5 .iload_n .iload 3 6 := Or.inl ⟨3, by decide +kernel, rfl, rfl⟩
theorem dL_worth_6 : LkV mL_worth 6 9 mD_worth := ⟨87, by decide +kernel, rfl, Or.inl (tb3 177 rfl), tb3 178 rfl, tb3 179 rfl⟩
theorem dL_worth_9 : Dn mL_worth 9 .lastore 1 10 := ⟨by decide +kernel, rfl⟩
theorem dL_worth_10 : Dj mL_worth 10 .goto 13 17 := ⟨7, by decide +kernel, rfl, rfl⟩
theorem dL_worth_13 : Dv mL_worth 13 .astore_n .astore 5 15 := Or.inr ⟨by decide +kernel, rfl⟩
theorem dL_worth_15 : Dk mL_worth 15 1 16 := Or.inl ⟨1, by decide +kernel, rfl, rfl⟩
theorem dL_worth_16 : Dn mL_worth 16 .ireturn 1 17 := ⟨by decide +kernel, rfl⟩
theorem dL_worth_17 : Dk mL_worth 17 0 18 := Or.inl ⟨0, by decide +kernel, rfl, rfl⟩
theorem dL_worth_18 : Dn mL_worth 18 .ireturn 1 19 := ⟨by decide +kernel, rfl⟩
end
section
theorem dM_init_0 : Dv mM_init 0 .aload_n .aload 0 1 := Or.inl ⟨0, by decide +kernel, rfl, rfl⟩
theorem dM_init_1 : Dn mM_init 1 (.invokespecial 1) 3 4 := ⟨by decide +kernel, rfl⟩
theorem dM_init_4 : Dv mM_init 4 .aload_n .aload 0 5 := Or.inl ⟨0, by decide +kernel, rfl, rfl⟩
theorem dM_init_5 : Dk mM_init 5 41 7 := Or.inr (Or.inl ⟨41, by decide +kernel, by decide +kernel, rfl⟩)
theorem dM_init_7 : Dn mM_init 7 (.newarray .int) 2 9 := ⟨by decide +kernel, rfl⟩
theorem dM_init_9 : Dfp mM_init 9 7 5 12 := ⟨7, ("EstateDeskModel", eT7, 37), by decide +kernel, rfl, rfl, by decide, rfl, tb3 192 rfl⟩
theorem dM_init_12 : Dv mM_init 12 .aload_n .aload 0 13 := Or.inl ⟨0, by decide +kernel, rfl, rfl⟩
theorem dM_init_13 : Dk mM_init 13 41 15 := Or.inr (Or.inl ⟨41, by decide +kernel, by decide +kernel, rfl⟩)
theorem dM_init_15 : Dn mM_init 15 (.newarray .boolean) 2 17 := ⟨by decide +kernel, rfl⟩
theorem dM_init_17 : Dfp mM_init 17 7 6 20 := ⟨13, ("EstateDeskModel", eT7, 37), by decide +kernel, rfl, rfl, by decide, rfl, tb3 193 rfl⟩
theorem dM_init_20 : Dv mM_init 20 .aload_n .aload 0 21 := Or.inl ⟨0, by decide +kernel, rfl, rfl⟩
theorem dM_init_21 : Dk mM_init 21 41 23 := Or.inr (Or.inl ⟨41, by decide +kernel, by decide +kernel, rfl⟩)
theorem dM_init_23 : Dn mM_init 23 (.newarray .long) 2 25 := ⟨by decide +kernel, rfl⟩
theorem dM_init_25 : Dfp mM_init 25 7 7 28 := ⟨17, ("EstateDeskModel", eT7, 37), by decide +kernel, rfl, rfl, by decide, rfl, tb3 194 rfl⟩
theorem dM_init_28 : Dv mM_init 28 .aload_n .aload 0 29 := Or.inl ⟨0, by decide +kernel, rfl, rfl⟩
theorem dM_init_29 : Dk mM_init 29 41 31 := Or.inr (Or.inl ⟨41, by decide +kernel, by decide +kernel, rfl⟩)
theorem dM_init_31 : Dn mM_init 31 (.newarray .boolean) 2 33 := ⟨by decide +kernel, rfl⟩
theorem dM_init_33 : Dfp mM_init 33 7 8 36 := ⟨21, ("EstateDeskModel", eT7, 37), by decide +kernel, rfl, rfl, by decide, rfl, tb3 195 rfl⟩
theorem dM_init_36 : Dv mM_init 36 .aload_n .aload 0 37 := Or.inl ⟨0, by decide +kernel, rfl, rfl⟩
theorem dM_init_37 : Dk mM_init 37 41 39 := Or.inr (Or.inl ⟨41, by decide +kernel, by decide +kernel, rfl⟩)
theorem dM_init_39 : Dn mM_init 39 (.newarray .boolean) 2 41 := ⟨by decide +kernel, rfl⟩
theorem dM_init_41 : Dfp mM_init 41 7 9 44 := ⟨24, ("EstateDeskModel", eT7, 37), by decide +kernel, rfl, rfl, by decide, rfl, tb3 196 rfl⟩
theorem dM_init_44 : Dv mM_init 44 .aload_n .aload 0 45 := Or.inl ⟨0, by decide +kernel, rfl, rfl⟩
theorem dM_init_45 : Dk mM_init 45 41 47 := Or.inr (Or.inl ⟨41, by decide +kernel, by decide +kernel, rfl⟩)
theorem dM_init_47 : Dn mM_init 47 (.newarray .int) 2 49 := ⟨by decide +kernel, rfl⟩
theorem dM_init_49 : Dfp mM_init 49 7 10 52 := ⟨27, ("EstateDeskModel", eT7, 37), by decide +kernel, rfl, rfl, by decide, rfl, tb3 197 rfl⟩
theorem dM_init_52 : Dv mM_init 52 .aload_n .aload 0 53 := Or.inl ⟨0, by decide +kernel, rfl, rfl⟩
theorem dM_init_53 : Dk mM_init 53 41 55 := Or.inr (Or.inl ⟨41, by decide +kernel, by decide +kernel, rfl⟩)
theorem dM_init_55 : Dn mM_init 55 (.newarray .int) 2 57 := ⟨by decide +kernel, rfl⟩
theorem dM_init_57 : Dfp mM_init 57 7 11 60 := ⟨30, ("EstateDeskModel", eT7, 37), by decide +kernel, rfl, rfl, by decide, rfl, tb3 198 rfl⟩
theorem dM_init_60 : Dv mM_init 60 .aload_n .aload 0 61 := Or.inl ⟨0, by decide +kernel, rfl, rfl⟩
theorem dM_init_61 : Dk mM_init 61 41 63 := Or.inr (Or.inl ⟨41, by decide +kernel, by decide +kernel, rfl⟩)
theorem dM_init_63 : Dn mM_init 63 (.newarray .long) 2 65 := ⟨by decide +kernel, rfl⟩
theorem dM_init_65 : Dfp mM_init 65 7 12 68 := ⟨33, ("EstateDeskModel", eT7, 37), by decide +kernel, rfl, rfl, by decide, rfl, tb3 199 rfl⟩
theorem dM_init_68 : Dv mM_init 68 .aload_n .aload 0 69 := Or.inl ⟨0, by decide +kernel, rfl, rfl⟩
theorem dM_init_69 : Dk mM_init 69 41 71 := Or.inr (Or.inl ⟨41, by decide +kernel, by decide +kernel, rfl⟩)
theorem dM_init_71 : Dn mM_init 71 (.newarray .int) 2 73 := ⟨by decide +kernel, rfl⟩
theorem dM_init_73 : Dfp mM_init 73 7 13 76 := ⟨36, ("EstateDeskModel", eT7, 37), by decide +kernel, rfl, rfl, by decide, rfl, tb3 200 rfl⟩
theorem dM_init_76 : Dv mM_init 76 .aload_n .aload 0 77 := Or.inl ⟨0, by decide +kernel, rfl, rfl⟩
theorem dM_init_77 : Dk mM_init 77 41 79 := Or.inr (Or.inl ⟨41, by decide +kernel, by decide +kernel, rfl⟩)
theorem dM_init_79 : Dn mM_init 79 (.newarray .boolean) 2 81 := ⟨by decide +kernel, rfl⟩
theorem dM_init_81 : Dfp mM_init 81 7 14 84 := ⟨39, ("EstateDeskModel", eT7, 37), by decide +kernel, rfl, rfl, by decide, rfl, tb3 201 rfl⟩
theorem dM_init_84 : Dv mM_init 84 .aload_n .aload 0 85 := Or.inl ⟨0, by decide +kernel, rfl, rfl⟩
theorem dM_init_85 : Dk mM_init 85 205 88 := Or.inr (Or.inr (Or.inl ⟨205, by decide +kernel, by decide +kernel, rfl⟩))
theorem dM_init_88 : Dn mM_init 88 (.newarray .int) 2 90 := ⟨by decide +kernel, rfl⟩
theorem dM_init_90 : Dfp mM_init 90 7 15 93 := ⟨42, ("EstateDeskModel", eT7, 37), by decide +kernel, rfl, rfl, by decide, rfl, tb3 202 rfl⟩
theorem dM_init_93 : Dv mM_init 93 .aload_n .aload 0 94 := Or.inl ⟨0, by decide +kernel, rfl, rfl⟩
theorem dM_init_94 : Dk mM_init 94 41 96 := Or.inr (Or.inl ⟨41, by decide +kernel, by decide +kernel, rfl⟩)
theorem dM_init_96 : Dn mM_init 96 (.newarray .boolean) 2 98 := ⟨by decide +kernel, rfl⟩
theorem dM_init_98 : Dfp mM_init 98 7 16 101 := ⟨45, ("EstateDeskModel", eT7, 37), by decide +kernel, rfl, rfl, by decide, rfl, tb3 203 rfl⟩
theorem dM_init_101 : Dv mM_init 101 .aload_n .aload 0 102 := Or.inl ⟨0, by decide +kernel, rfl, rfl⟩
theorem dM_init_102 : Dk mM_init 102 41 104 := Or.inr (Or.inl ⟨41, by decide +kernel, by decide +kernel, rfl⟩)
theorem dM_init_104 : Dn mM_init 104 (.newarray .long) 2 106 := ⟨by decide +kernel, rfl⟩
theorem dM_init_106 : Dfp mM_init 106 7 17 109 := ⟨48, ("EstateDeskModel", eT7, 37), by decide +kernel, rfl, rfl, by decide, rfl, tb3 204 rfl⟩
theorem dM_init_109 : Dv mM_init 109 .aload_n .aload 0 110 := Or.inl ⟨0, by decide +kernel, rfl, rfl⟩
theorem dM_init_110 : Dk mM_init 110 41 112 := Or.inr (Or.inl ⟨41, by decide +kernel, by decide +kernel, rfl⟩)
theorem dM_init_112 : Dn mM_init 112 (.newarray .int) 2 114 := ⟨by decide +kernel, rfl⟩
theorem dM_init_114 : Dfp mM_init 114 7 18 117 := ⟨51, ("EstateDeskModel", eT7, 37), by decide +kernel, rfl, rfl, by decide, rfl, tb3 205 rfl⟩
theorem dM_init_117 : Dv mM_init 117 .aload_n .aload 0 118 := Or.inl ⟨0, by decide +kernel, rfl, rfl⟩
theorem dM_init_118 : Dk mM_init 118 41 120 := Or.inr (Or.inl ⟨41, by decide +kernel, by decide +kernel, rfl⟩)
theorem dM_init_120 : Dn mM_init 120 (.newarray .int) 2 122 := ⟨by decide +kernel, rfl⟩
theorem dM_init_122 : Dfp mM_init 122 7 19 125 := ⟨54, ("EstateDeskModel", eT7, 37), by decide +kernel, rfl, rfl, by decide, rfl, tb3 206 rfl⟩
theorem dM_init_125 : Dv mM_init 125 .aload_n .aload 0 126 := Or.inl ⟨0, by decide +kernel, rfl, rfl⟩
theorem dM_init_126 : Dk mM_init 126 41 128 := Or.inr (Or.inl ⟨41, by decide +kernel, by decide +kernel, rfl⟩)
theorem dM_init_128 : Dn mM_init 128 (.newarray .int) 2 130 := ⟨by decide +kernel, rfl⟩
theorem dM_init_130 : Dfp mM_init 130 7 20 133 := ⟨57, ("EstateDeskModel", eT7, 37), by decide +kernel, rfl, rfl, by decide, rfl, tb3 207 rfl⟩
theorem dM_init_133 : Dv mM_init 133 .aload_n .aload 0 134 := Or.inl ⟨0, by decide +kernel, rfl, rfl⟩
theorem dM_init_134 : Dk mM_init 134 41 136 := Or.inr (Or.inl ⟨41, by decide +kernel, by decide +kernel, rfl⟩)
theorem dM_init_136 : Dn mM_init 136 (.newarray .long) 2 138 := ⟨by decide +kernel, rfl⟩
theorem dM_init_138 : Dfp mM_init 138 7 21 141 := ⟨60, ("EstateDeskModel", eT7, 37), by decide +kernel, rfl, rfl, by decide, rfl, tb3 208 rfl⟩
theorem dM_init_141 : Dv mM_init 141 .aload_n .aload 0 142 := Or.inl ⟨0, by decide +kernel, rfl, rfl⟩
theorem dM_init_142 : Dk mM_init 142 41 144 := Or.inr (Or.inl ⟨41, by decide +kernel, by decide +kernel, rfl⟩)
theorem dM_init_144 : Dn mM_init 144 (.newarray .long) 2 146 := ⟨by decide +kernel, rfl⟩
theorem dM_init_146 : Dfp mM_init 146 7 22 149 := ⟨63, ("EstateDeskModel", eT7, 37), by decide +kernel, rfl, rfl, by decide, rfl, tb3 209 rfl⟩
theorem dM_init_149 : Dv mM_init 149 .aload_n .aload 0 150 := Or.inl ⟨0, by decide +kernel, rfl, rfl⟩
theorem dM_init_150 : Dk mM_init 150 41 152 := Or.inr (Or.inl ⟨41, by decide +kernel, by decide +kernel, rfl⟩)
theorem dM_init_152 : Dn mM_init 152 (.newarray .long) 2 154 := ⟨by decide +kernel, rfl⟩
theorem dM_init_154 : Dfp mM_init 154 7 23 157 := ⟨66, ("EstateDeskModel", eT7, 37), by decide +kernel, rfl, rfl, by decide, rfl, tb3 210 rfl⟩
theorem dM_init_157 : Dv mM_init 157 .aload_n .aload 0 158 := Or.inl ⟨0, by decide +kernel, rfl, rfl⟩
theorem dM_init_158 : Dk mM_init 158 41 160 := Or.inr (Or.inl ⟨41, by decide +kernel, by decide +kernel, rfl⟩)
theorem dM_init_160 : Dn mM_init 160 (.newarray .long) 2 162 := ⟨by decide +kernel, rfl⟩
theorem dM_init_162 : Dfp mM_init 162 7 24 165 := ⟨69, ("EstateDeskModel", eT7, 37), by decide +kernel, rfl, rfl, by decide, rfl, tb3 211 rfl⟩
theorem dM_init_165 : Dv mM_init 165 .aload_n .aload 0 166 := Or.inl ⟨0, by decide +kernel, rfl, rfl⟩
theorem dM_init_166 : Dk mM_init 166 41 168 := Or.inr (Or.inl ⟨41, by decide +kernel, by decide +kernel, rfl⟩)
theorem dM_init_168 : Dn mM_init 168 (.newarray .long) 2 170 := ⟨by decide +kernel, rfl⟩
theorem dM_init_170 : Dfp mM_init 170 7 25 173 := ⟨72, ("EstateDeskModel", eT7, 37), by decide +kernel, rfl, rfl, by decide, rfl, tb3 212 rfl⟩
theorem dM_init_173 : Dv mM_init 173 .aload_n .aload 0 174 := Or.inl ⟨0, by decide +kernel, rfl, rfl⟩
theorem dM_init_174 : Dk mM_init 174 41 176 := Or.inr (Or.inl ⟨41, by decide +kernel, by decide +kernel, rfl⟩)
theorem dM_init_176 : Dn mM_init 176 (.newarray .long) 2 178 := ⟨by decide +kernel, rfl⟩
theorem dM_init_178 : Dfp mM_init 178 7 26 181 := ⟨75, ("EstateDeskModel", eT7, 37), by decide +kernel, rfl, rfl, by decide, rfl, tb3 213 rfl⟩
theorem dM_init_181 : Dv mM_init 181 .aload_n .aload 0 182 := Or.inl ⟨0, by decide +kernel, rfl, rfl⟩
theorem dM_init_182 : Dk mM_init 182 41 184 := Or.inr (Or.inl ⟨41, by decide +kernel, by decide +kernel, rfl⟩)
theorem dM_init_184 : Dn mM_init 184 (.newarray .long) 2 186 := ⟨by decide +kernel, rfl⟩
theorem dM_init_186 : Dfp mM_init 186 7 27 189 := ⟨78, ("EstateDeskModel", eT7, 37), by decide +kernel, rfl, rfl, by decide, rfl, tb3 214 rfl⟩
theorem dM_init_189 : Dv mM_init 189 .aload_n .aload 0 190 := Or.inl ⟨0, by decide +kernel, rfl, rfl⟩
theorem dM_init_190 : Dk mM_init 190 41 192 := Or.inr (Or.inl ⟨41, by decide +kernel, by decide +kernel, rfl⟩)
theorem dM_init_192 : Dn mM_init 192 (.newarray .long) 2 194 := ⟨by decide +kernel, rfl⟩
theorem dM_init_194 : Dfp mM_init 194 7 28 197 := ⟨81, ("EstateDeskModel", eT7, 37), by decide +kernel, rfl, rfl, by decide, rfl, tb3 215 rfl⟩
theorem dM_init_197 : Dv mM_init 197 .aload_n .aload 0 198 := Or.inl ⟨0, by decide +kernel, rfl, rfl⟩
theorem dM_init_198 : Dk mM_init 198 41 200 := Or.inr (Or.inl ⟨41, by decide +kernel, by decide +kernel, rfl⟩)
theorem dM_init_200 : Dn mM_init 200 (.newarray .long) 2 202 := ⟨by decide +kernel, rfl⟩
theorem dM_init_202 : Dfp mM_init 202 7 29 205 := ⟨84, ("EstateDeskModel", eT7, 37), by decide +kernel, rfl, rfl, by decide, rfl, tb3 216 rfl⟩
theorem dM_init_205 : Dv mM_init 205 .aload_n .aload 0 206 := Or.inl ⟨0, by decide +kernel, rfl, rfl⟩
theorem dM_init_206 : Dk mM_init 206 41 208 := Or.inr (Or.inl ⟨41, by decide +kernel, by decide +kernel, rfl⟩)
theorem dM_init_208 : Dn mM_init 208 (.newarray .long) 2 210 := ⟨by decide +kernel, rfl⟩
theorem dM_init_210 : Dfp mM_init 210 7 30 213 := ⟨87, ("EstateDeskModel", eT7, 37), by decide +kernel, rfl, rfl, by decide, rfl, tb3 217 rfl⟩
theorem dM_init_213 : Dv mM_init 213 .aload_n .aload 0 214 := Or.inl ⟨0, by decide +kernel, rfl, rfl⟩
theorem dM_init_214 : Dk mM_init 214 41 216 := Or.inr (Or.inl ⟨41, by decide +kernel, by decide +kernel, rfl⟩)
theorem dM_init_216 : Dn mM_init 216 (.newarray .long) 2 218 := ⟨by decide +kernel, rfl⟩
theorem dM_init_218 : Dfp mM_init 218 7 31 221 := ⟨90, ("EstateDeskModel", eT7, 37), by decide +kernel, rfl, rfl, by decide, rfl, tb3 218 rfl⟩
theorem dM_init_221 : Dv mM_init 221 .aload_n .aload 0 222 := Or.inl ⟨0, by decide +kernel, rfl, rfl⟩
theorem dM_init_222 : Dk mM_init 222 41 224 := Or.inr (Or.inl ⟨41, by decide +kernel, by decide +kernel, rfl⟩)
theorem dM_init_224 : Dn mM_init 224 (.newarray .int) 2 226 := ⟨by decide +kernel, rfl⟩
theorem dM_init_226 : Dfp mM_init 226 7 32 229 := ⟨93, ("EstateDeskModel", eT7, 37), by decide +kernel, rfl, rfl, by decide, rfl, tb3 219 rfl⟩
theorem dM_init_229 : Dv mM_init 229 .aload_n .aload 0 230 := Or.inl ⟨0, by decide +kernel, rfl, rfl⟩
theorem dM_init_230 : Dk mM_init 230 8 232 := Or.inr (Or.inl ⟨8, by decide +kernel, by decide +kernel, rfl⟩)
theorem dM_init_232 : Dn mM_init 232 (.newarray .long) 2 234 := ⟨by decide +kernel, rfl⟩
theorem dM_init_234 : Dfp mM_init 234 7 33 237 := ⟨96, ("EstateDeskModel", eT7, 37), by decide +kernel, rfl, rfl, by decide, rfl, tb3 220 rfl⟩
theorem dM_init_237 : Dv mM_init 237 .aload_n .aload 0 238 := Or.inl ⟨0, by decide +kernel, rfl, rfl⟩
theorem dM_init_238 : Dk mM_init 238 41 240 := Or.inr (Or.inl ⟨41, by decide +kernel, by decide +kernel, rfl⟩)
theorem dM_init_240 : Dn mM_init 240 (.newarray .long) 2 242 := ⟨by decide +kernel, rfl⟩
theorem dM_init_242 : Dfp mM_init 242 7 34 245 := ⟨99, ("EstateDeskModel", eT7, 37), by decide +kernel, rfl, rfl, by decide, rfl, tb3 221 rfl⟩
theorem dM_init_245 : Dv mM_init 245 .aload_n .aload 0 246 := Or.inl ⟨0, by decide +kernel, rfl, rfl⟩
theorem dM_init_246 : Dk mM_init 246 41 248 := Or.inr (Or.inl ⟨41, by decide +kernel, by decide +kernel, rfl⟩)
theorem dM_init_248 : Dn mM_init 248 (.newarray .long) 2 250 := ⟨by decide +kernel, rfl⟩
theorem dM_init_250 : Dfp mM_init 250 7 35 253 := ⟨102, ("EstateDeskModel", eT7, 37), by decide +kernel, rfl, rfl, by decide, rfl, tb3 222 rfl⟩
theorem dM_init_253 : Dv mM_init 253 .aload_n .aload 0 254 := Or.inl ⟨0, by decide +kernel, rfl, rfl⟩
theorem dM_init_254 : Dk mM_init 254 41 256 := Or.inr (Or.inl ⟨41, by decide +kernel, by decide +kernel, rfl⟩)
theorem dM_init_256 : Dn mM_init 256 (.newarray .long) 2 258 := ⟨by decide +kernel, rfl⟩
theorem dM_init_258 : Dfp mM_init 258 7 36 261 := ⟨105, ("EstateDeskModel", eT7, 37), by decide +kernel, rfl, rfl, by decide, rfl, tb3 223 rfl⟩
theorem dM_init_261 : Dn mM_init 261 .return_ 1 262 := ⟨by decide +kernel, rfl⟩
theorem dM_thrown_0 : Dv mM_thrown 0 .aload_n .aload 0 1 := Or.inl ⟨0, by decide +kernel, rfl, rfl⟩
theorem dM_thrown_1 : Df mM_thrown 1 .getfield 7 0 4 := ⟨108, ("EstateDeskModel", eT7, 37), by decide +kernel, rfl, rfl, by decide, rfl, Or.inl (tb3 187 rfl)⟩
theorem dM_thrown_4 : Dn mM_thrown 4 .ireturn 1 5 := ⟨by decide +kernel, rfl⟩
theorem dM_refused_0 : Dv mM_refused 0 .aload_n .aload 0 1 := Or.inl ⟨0, by decide +kernel, rfl, rfl⟩
theorem dM_refused_1 : Dv mM_refused 1 .iload_n .iload 1 2 := Or.inl ⟨1, by decide +kernel, rfl, rfl⟩
theorem dM_refused_2 : Df mM_refused 2 .putfield 7 0 5 := ⟨108, ("EstateDeskModel", eT7, 37), by decide +kernel, rfl, rfl, by decide, rfl, Or.inl (tb3 187 rfl)⟩
theorem dM_refused_5 : Dv mM_refused 5 .iload_n .iload 1 6 := Or.inl ⟨1, by decide +kernel, rfl, rfl⟩
theorem dM_refused_6 : Dj mM_refused 6 (.ifCond .le) 9 13 := ⟨7, by decide +kernel, rfl, rfl⟩
theorem dM_refused_9 : Dk mM_refused 9 1 10 := Or.inl ⟨1, by decide +kernel, rfl, rfl⟩
theorem dM_refused_10 : Dj mM_refused 10 .goto 13 14 := ⟨4, by decide +kernel, rfl, rfl⟩
theorem dM_refused_13 : Dk mM_refused 13 0 14 := Or.inl ⟨0, by decide +kernel, rfl, rfl⟩
theorem dM_refused_14 : Dn mM_refused 14 .ireturn 1 15 := ⟨by decide +kernel, rfl⟩
theorem dM_isIn_0 : Dv mM_isIn 0 .lload_n .lload 0 1 := Or.inl ⟨0, by decide +kernel, rfl, rfl⟩
theorem dM_isIn_1 : Dv mM_isIn 1 .lload_n .lload 2 2 := Or.inl ⟨2, by decide +kernel, rfl, rfl⟩
theorem dM_isIn_2 : Dn mM_isIn 2 .lcmp 1 3 := ⟨by decide +kernel, rfl⟩
theorem dM_isIn_3 : Dj mM_isIn 3 (.ifCond .lt) 6 17 := ⟨14, by decide +kernel, rfl, rfl⟩
theorem dM_isIn_6 : Dv mM_isIn 6 .lload_n .lload 0 7 := Or.inl ⟨0, by decide +kernel, rfl, rfl⟩
theorem dM_isIn_7 : Dv mM_isIn 7 .lload_n .lload 4 9 := Or.inr ⟨by decide +kernel, rfl⟩
theorem dM_isIn_9 : Dn mM_isIn 9 .lcmp 1 10 := ⟨by decide +kernel, rfl⟩
theorem dM_isIn_10 : Dj mM_isIn 10 (.ifCond .gt) 13 17 := ⟨7, by decide +kernel, rfl, rfl⟩
theorem dM_isIn_13 : Dk mM_isIn 13 1 14 := Or.inl ⟨1, by decide +kernel, rfl, rfl⟩
theorem dM_isIn_14 : Dj mM_isIn 14 .goto 17 18 := ⟨4, by decide +kernel, rfl, rfl⟩
theorem dM_isIn_17 : Dk mM_isIn 17 0 18 := Or.inl ⟨0, by decide +kernel, rfl, rfl⟩
theorem dM_isIn_18 : Dn mM_isIn 18 .ireturn 1 19 := ⟨by decide +kernel, rfl⟩
theorem dM_isId_0 : Dv mM_isId 0 .iload_n .iload 0 1 := Or.inl ⟨0, by decide +kernel, rfl, rfl⟩
theorem dM_isId_1 : Dn mM_isId 1 .i2l 1 2 := ⟨by decide +kernel, rfl⟩
theorem dM_isId_2 : Dl mM_isId 2 1 3 := Or.inl ⟨1, by decide +kernel, rfl, rfl⟩
theorem dM_isId_3 : Dl mM_isId 3 40 6 := Or.inr ⟨112, by decide +kernel, tb4 86 rfl, rfl⟩
theorem dM_isId_6 : LkS mM_isId 6 9 mM_isIn := ⟨114, by decide +kernel, rfl, Or.inl (tb4 68 rfl), tb4 69 rfl⟩
theorem dM_isId_9 : Dn mM_isId 9 .ireturn 1 10 := ⟨by decide +kernel, rfl⟩
theorem dM_isCents_0 : Dv mM_isCents 0 .lload_n .lload 0 1 := Or.inl ⟨0, by decide +kernel, rfl, rfl⟩
theorem dM_isCents_1 : Dl mM_isCents 1 0 2 := Or.inl ⟨0, by decide +kernel, rfl, rfl⟩
theorem dM_isCents_2 : Dl mM_isCents 2 1000000000000 5 := Or.inr ⟨118, by decide +kernel, tb4 94 rfl, rfl⟩
theorem dM_isCents_5 : LkS mM_isCents 5 8 mM_isIn := ⟨114, by decide +kernel, rfl, Or.inl (tb4 68 rfl), tb4 69 rfl⟩
theorem dM_isCents_8 : Dn mM_isCents 8 .ireturn 1 9 := ⟨by decide +kernel, rfl⟩
theorem dM_isBarred_0 : Dv mM_isBarred 0 .aload_n .aload 0 1 := Or.inl ⟨0, by decide +kernel, rfl, rfl⟩
theorem dM_isBarred_1 : Dv mM_isBarred 1 .iload_n .iload 1 2 := Or.inl ⟨1, by decide +kernel, rfl, rfl⟩
theorem dM_isBarred_2 : Dj mM_isBarred 2 (.ifCond .ne) 5 9 := ⟨7, by decide +kernel, rfl, rfl⟩
theorem dM_isBarred_5 : Dk mM_isBarred 5 1 6 := Or.inl ⟨1, by decide +kernel, rfl, rfl⟩
theorem dM_isBarred_6 : Dj mM_isBarred 6 .goto 9 25 := ⟨19, by decide +kernel, rfl, rfl⟩
theorem dM_isBarred_9 : Dv mM_isBarred 9 .aload_n .aload 0 10 := Or.inl ⟨0, by decide +kernel, rfl, rfl⟩
theorem dM_isBarred_10 : Df mM_isBarred 10 .getfield 7 2 13 := ⟨120, ("EstateDeskModel", eT7, 37), by decide +kernel, rfl, rfl, by decide, rfl, Or.inl (tb3 189 rfl)⟩
theorem dM_isBarred_13 : Dj mM_isBarred 13 (.ifCond .ne) 16 20 := ⟨7, by decide +kernel, rfl, rfl⟩
theorem dM_isBarred_16 : Dv mM_isBarred 16 .iload_n .iload 2 17 := Or.inl ⟨2, by decide +kernel, rfl, rfl⟩
theorem dM_isBarred_17 : Dj mM_isBarred 17 (.ifCond .ne) 20 24 := ⟨7, by decide +kernel, rfl, rfl⟩
theorem dM_isBarred_20 : Dk mM_isBarred 20 2 21 := Or.inl ⟨2, by decide +kernel, rfl, rfl⟩
theorem dM_isBarred_21 : Dj mM_isBarred 21 .goto 24 25 := ⟨4, by decide +kernel, rfl, rfl⟩
theorem dM_isBarred_24 : Dk mM_isBarred 24 0 25 := Or.inl ⟨0, by decide +kernel, rfl, rfl⟩
theorem dM_isBarred_25 : LkV mM_isBarred 25 28 mM_refused := ⟨124, by decide +kernel, rfl, Or.inl (tb4 75 rfl), tb4 77 rfl, ts 20 rfl⟩
theorem dM_isBarred_28 : Dj mM_isBarred 28 (.ifCond .eq) 31 33 := ⟨5, by decide +kernel, rfl, rfl⟩
theorem dM_isBarred_31 : Dk mM_isBarred 31 1 32 := Or.inl ⟨1, by decide +kernel, rfl, rfl⟩
theorem dM_isBarred_32 : Dn mM_isBarred 32 .ireturn 1 33 := ⟨by decide +kernel, rfl⟩
theorem dM_isBarred_33 : Dv mM_isBarred 33 .aload_n .aload 0 34 := Or.inl ⟨0, by decide +kernel, rfl, rfl⟩
theorem dM_isBarred_34 : Dk mM_isBarred 34 0 35 := Or.inl ⟨0, by decide +kernel, rfl, rfl⟩
theorem dM_isBarred_35 : Df mM_isBarred 35 .putfield 7 4 38 := ⟨128, ("EstateDeskModel", eT7, 37), by decide +kernel, rfl, rfl, by decide, rfl, Or.inl (tb3 191 rfl)⟩
theorem dM_isBarred_38 : Dk mM_isBarred 38 0 39 := Or.inl ⟨0, by decide +kernel, rfl, rfl⟩
theorem dM_isBarred_39 : Dn mM_isBarred 39 .ireturn 1 40 := ⟨by decide +kernel, rfl⟩
theorem dM_testator_0 : Dv mM_testator 0 .aload_n .aload 0 1 := Or.inl ⟨0, by decide +kernel, rfl, rfl⟩
theorem dM_testator_1 : Dv mM_testator 1 .iload_n .iload 1 2 := Or.inl ⟨1, by decide +kernel, rfl, rfl⟩
theorem dM_testator_2 : Dn mM_testator 2 .i2l 1 3 := ⟨by decide +kernel, rfl⟩
theorem dM_testator_3 : Dl mM_testator 3 1 4 := Or.inl ⟨1, by decide +kernel, rfl, rfl⟩
theorem dM_testator_4 : Dl mM_testator 4 100000 7 := Or.inr ⟨131, by decide +kernel, tb4 67 rfl, rfl⟩
theorem dM_testator_7 : LkS mM_testator 7 10 mM_isIn := ⟨114, by decide +kernel, rfl, Or.inl (tb4 68 rfl), tb4 69 rfl⟩
theorem dM_testator_10 : Dk mM_testator 10 1 11 := Or.inl ⟨1, by decide +kernel, rfl, rfl⟩
theorem dM_testator_11 : LkV mM_testator 11 14 mM_isBarred := ⟨133, by decide +kernel, rfl, Or.inl (tb4 71 rfl), tb4 73 rfl, ts 19 rfl⟩
theorem dM_testator_14 : Dj mM_testator 14 (.ifCond .ne) 17 22 := ⟨8, by decide +kernel, rfl, rfl⟩
theorem dM_testator_17 : Dv mM_testator 17 .aload_n .aload 0 18 := Or.inl ⟨0, by decide +kernel, rfl, rfl⟩
theorem dM_testator_18 : Dv mM_testator 18 .iload_n .iload 1 19 := Or.inl ⟨1, by decide +kernel, rfl, rfl⟩
theorem dM_testator_19 : Df mM_testator 19 .putfield 7 1 22 := ⟨137, ("EstateDeskModel", eT7, 37), by decide +kernel, rfl, rfl, by decide, rfl, Or.inl (tb3 188 rfl)⟩
theorem dM_testator_22 : Dn mM_testator 22 .return_ 1 23 := ⟨by decide +kernel, rfl⟩
theorem dM_person_0 : Dv mM_person 0 .aload_n .aload 0 1 := Or.inl ⟨0, by decide +kernel, rfl, rfl⟩
theorem dM_person_1 : Dv mM_person 1 .iload_n .iload 1 2 := Or.inl ⟨1, by decide +kernel, rfl, rfl⟩
theorem dM_person_2 : LkS mM_person 2 5 mM_isId := ⟨140, by decide +kernel, rfl, Or.inl (tb4 83 rfl), tb4 84 rfl⟩
theorem dM_person_5 : Dj mM_person 5 (.ifCond .eq) 8 24 := ⟨19, by decide +kernel, rfl, rfl⟩
theorem dM_person_8 : Dv mM_person 8 .iload_n .iload 2 9 := Or.inl ⟨2, by decide +kernel, rfl, rfl⟩
theorem dM_person_9 : Dn mM_person 9 .i2l 1 10 := ⟨by decide +kernel, rfl⟩
theorem dM_person_10 : Dl mM_person 10 0 11 := Or.inl ⟨0, by decide +kernel, rfl, rfl⟩
theorem dM_person_11 : Dl mM_person 11 100000 14 := Or.inr ⟨131, by decide +kernel, tb4 67 rfl, rfl⟩
theorem dM_person_14 : LkS mM_person 14 17 mM_isIn := ⟨114, by decide +kernel, rfl, Or.inl (tb4 68 rfl), tb4 69 rfl⟩
theorem dM_person_17 : Dj mM_person 17 (.ifCond .eq) 20 24 := ⟨7, by decide +kernel, rfl, rfl⟩
theorem dM_person_20 : Dk mM_person 20 1 21 := Or.inl ⟨1, by decide +kernel, rfl, rfl⟩
theorem dM_person_21 : Dj mM_person 21 .goto 24 25 := ⟨4, by decide +kernel, rfl, rfl⟩
theorem dM_person_24 : Dk mM_person 24 0 25 := Or.inl ⟨0, by decide +kernel, rfl, rfl⟩
theorem dM_person_25 : Dk mM_person 25 1 26 := Or.inl ⟨1, by decide +kernel, rfl, rfl⟩
theorem dM_person_26 : LkV mM_person 26 29 mM_isBarred := ⟨133, by decide +kernel, rfl, Or.inl (tb4 71 rfl), tb4 73 rfl, ts 19 rfl⟩
theorem dM_person_29 : Dj mM_person 29 (.ifCond .ne) 32 39 := ⟨10, by decide +kernel, rfl, rfl⟩
theorem dM_person_32 : Dv mM_person 32 .aload_n .aload 0 33 := Or.inl ⟨0, by decide +kernel, rfl, rfl⟩
theorem dM_person_33 : Df mM_person 33 .getfield 7 5 36 := ⟨7, ("EstateDeskModel", eT7, 37), by decide +kernel, rfl, rfl, by decide, rfl, Or.inl (tb3 192 rfl)⟩
theorem dM_person_36 : Dv mM_person 36 .iload_n .iload 1 37 := Or.inl ⟨1, by decide +kernel, rfl, rfl⟩
theorem dM_person_37 : Dv mM_person 37 .iload_n .iload 2 38 := Or.inl ⟨2, by decide +kernel, rfl, rfl⟩
theorem dM_person_38 : Dn mM_person 38 .iastore 1 39 := ⟨by decide +kernel, rfl⟩
theorem dM_person_39 : Dn mM_person 39 .return_ 1 40 := ⟨by decide +kernel, rfl⟩
theorem dM_asset_0 : Dv mM_asset 0 .iload_n .iload 1 1 := Or.inl ⟨1, by decide +kernel, rfl, rfl⟩
theorem dM_asset_1 : LkS mM_asset 1 4 mM_isId := ⟨140, by decide +kernel, rfl, Or.inl (tb4 83 rfl), tb4 84 rfl⟩
theorem dM_asset_4 : Dj mM_asset 4 (.ifCond .eq) 7 18 := ⟨14, by decide +kernel, rfl, rfl⟩
theorem dM_asset_7 : Dv mM_asset 7 .lload_n .lload 2 8 := Or.inl ⟨2, by decide +kernel, rfl, rfl⟩
theorem dM_asset_8 : LkS mM_asset 8 11 mM_isCents := ⟨143, by decide +kernel, rfl, Or.inl (tb4 91 rfl), tb4 92 rfl⟩
theorem dM_asset_11 : Dj mM_asset 11 (.ifCond .eq) 14 18 := ⟨7, by decide +kernel, rfl, rfl⟩
theorem dM_asset_14 : Dk mM_asset 14 1 15 := Or.inl ⟨1, by decide +kernel, rfl, rfl⟩
theorem dM_asset_15 : Dj mM_asset 15 .goto 18 19 := ⟨4, by decide +kernel, rfl, rfl⟩
theorem dM_asset_18 : Dk mM_asset 18 0 19 := Or.inl ⟨0, by decide +kernel, rfl, rfl⟩
theorem dM_asset_19 : Dv mM_asset 19 .istore_n .istore 5 21 := Or.inr ⟨by decide +kernel, rfl⟩
theorem dM_asset_21 : Dv mM_asset 21 .aload_n .aload 0 22 := Or.inl ⟨0, by decide +kernel, rfl, rfl⟩
theorem dM_asset_22 : Dv mM_asset 22 .iload_n .iload 5 24 := Or.inr ⟨by decide +kernel, rfl⟩
theorem dM_asset_24 : Dv mM_asset 24 .iload_n .iload 5 26 := Or.inr ⟨by decide +kernel, rfl⟩
theorem dM_asset_26 : Dj mM_asset 26 (.ifCond .eq) 29 42 := ⟨16, by decide +kernel, rfl, rfl⟩
theorem dM_asset_29 : Dv mM_asset 29 .aload_n .aload 0 30 := Or.inl ⟨0, by decide +kernel, rfl, rfl⟩
theorem dM_asset_30 : Df mM_asset 30 .getfield 7 6 33 := ⟨13, ("EstateDeskModel", eT7, 37), by decide +kernel, rfl, rfl, by decide, rfl, Or.inl (tb3 193 rfl)⟩
theorem dM_asset_33 : Dv mM_asset 33 .iload_n .iload 1 34 := Or.inl ⟨1, by decide +kernel, rfl, rfl⟩
theorem dM_asset_34 : Dn mM_asset 34 .baload 1 35 := ⟨by decide +kernel, rfl⟩
theorem dM_asset_35 : Dj mM_asset 35 (.ifCond .ne) 38 42 := ⟨7, by decide +kernel, rfl, rfl⟩
theorem dM_asset_38 : Dk mM_asset 38 1 39 := Or.inl ⟨1, by decide +kernel, rfl, rfl⟩
theorem dM_asset_39 : Dj mM_asset 39 .goto 42 43 := ⟨4, by decide +kernel, rfl, rfl⟩
theorem dM_asset_42 : Dk mM_asset 42 0 43 := Or.inl ⟨0, by decide +kernel, rfl, rfl⟩
theorem dM_asset_43 : LkV mM_asset 43 46 mM_isBarred := ⟨133, by decide +kernel, rfl, Or.inl (tb4 71 rfl), tb4 73 rfl, ts 19 rfl⟩
theorem dM_asset_46 : Dj mM_asset 46 (.ifCond .ne) 49 78 := ⟨32, by decide +kernel, rfl, rfl⟩
theorem dM_asset_49 : Dv mM_asset 49 .aload_n .aload 0 50 := Or.inl ⟨0, by decide +kernel, rfl, rfl⟩
theorem dM_asset_50 : Df mM_asset 50 .getfield 7 6 53 := ⟨13, ("EstateDeskModel", eT7, 37), by decide +kernel, rfl, rfl, by decide, rfl, Or.inl (tb3 193 rfl)⟩
theorem dM_asset_53 : Dv mM_asset 53 .iload_n .iload 1 54 := Or.inl ⟨1, by decide +kernel, rfl, rfl⟩
theorem dM_asset_54 : Dk mM_asset 54 1 55 := Or.inl ⟨1, by decide +kernel, rfl, rfl⟩
theorem dM_asset_55 : Dn mM_asset 55 .bastore 1 56 := ⟨by decide +kernel, rfl⟩
theorem dM_asset_56 : Dv mM_asset 56 .aload_n .aload 0 57 := Or.inl ⟨0, by decide +kernel, rfl, rfl⟩
theorem dM_asset_57 : Df mM_asset 57 .getfield 7 7 60 := ⟨17, ("EstateDeskModel", eT7, 37), by decide +kernel, rfl, rfl, by decide, rfl, Or.inl (tb3 194 rfl)⟩
theorem dM_asset_60 : Dv mM_asset 60 .iload_n .iload 1 61 := Or.inl ⟨1, by decide +kernel, rfl, rfl⟩
theorem dM_asset_61 : Dv mM_asset 61 .lload_n .lload 2 62 := Or.inl ⟨2, by decide +kernel, rfl, rfl⟩
theorem dM_asset_62 : Dn mM_asset 62 .lastore 1 63 := ⟨by decide +kernel, rfl⟩
theorem dM_asset_63 : Dv mM_asset 63 .aload_n .aload 0 64 := Or.inl ⟨0, by decide +kernel, rfl, rfl⟩
theorem dM_asset_64 : Df mM_asset 64 .getfield 7 8 67 := ⟨21, ("EstateDeskModel", eT7, 37), by decide +kernel, rfl, rfl, by decide, rfl, Or.inl (tb3 195 rfl)⟩
theorem dM_asset_67 : Dv mM_asset 67 .iload_n .iload 1 68 := Or.inl ⟨1, by decide +kernel, rfl, rfl⟩
theorem dM_asset_68 : Dv mM_asset 68 .iload_n .iload 4 70 := Or.inr ⟨by decide +kernel, rfl⟩
theorem dM_asset_70 : Dn mM_asset 70 .bastore 1 71 := ⟨by decide +kernel, rfl⟩
theorem dM_asset_71 : Dv mM_asset 71 .aload_n .aload 0 72 := Or.inl ⟨0, by decide +kernel, rfl, rfl⟩
theorem dM_asset_72 : Df mM_asset 72 .getfield 7 9 75 := ⟨24, ("EstateDeskModel", eT7, 37), by decide +kernel, rfl, rfl, by decide, rfl, Or.inl (tb3 196 rfl)⟩
theorem dM_asset_75 : Dv mM_asset 75 .iload_n .iload 1 76 := Or.inl ⟨1, by decide +kernel, rfl, rfl⟩
theorem dM_asset_76 : Dk mM_asset 76 0 77 := Or.inl ⟨0, by decide +kernel, rfl, rfl⟩
theorem dM_asset_77 : Dn mM_asset 77 .bastore 1 78 := ⟨by decide +kernel, rfl⟩
theorem dM_asset_78 : Dn mM_asset 78 .return_ 1 79 := ⟨by decide +kernel, rfl⟩
theorem dM_hasAsset_0 : Dv mM_hasAsset 0 .iload_n .iload 1 1 := Or.inl ⟨1, by decide +kernel, rfl, rfl⟩
theorem dM_hasAsset_1 : LkS mM_hasAsset 1 4 mM_isId := ⟨140, by decide +kernel, rfl, Or.inl (tb4 83 rfl), tb4 84 rfl⟩
theorem dM_hasAsset_4 : Dj mM_hasAsset 4 (.ifCond .eq) 7 20 := ⟨16, by decide +kernel, rfl, rfl⟩
theorem dM_hasAsset_7 : Dv mM_hasAsset 7 .aload_n .aload 0 8 := Or.inl ⟨0, by decide +kernel, rfl, rfl⟩
theorem dM_hasAsset_8 : Df mM_hasAsset 8 .getfield 7 6 11 := ⟨13, ("EstateDeskModel", eT7, 37), by decide +kernel, rfl, rfl, by decide, rfl, Or.inl (tb3 193 rfl)⟩
theorem dM_hasAsset_11 : Dv mM_hasAsset 11 .iload_n .iload 1 12 := Or.inl ⟨1, by decide +kernel, rfl, rfl⟩
theorem dM_hasAsset_12 : Dn mM_hasAsset 12 .baload 1 13 := ⟨by decide +kernel, rfl⟩
theorem dM_hasAsset_13 : Dj mM_hasAsset 13 (.ifCond .eq) 16 20 := ⟨7, by decide +kernel, rfl, rfl⟩
theorem dM_hasAsset_16 : Dk mM_hasAsset 16 1 17 := Or.inl ⟨1, by decide +kernel, rfl, rfl⟩
theorem dM_hasAsset_17 : Dj mM_hasAsset 17 .goto 20 21 := ⟨4, by decide +kernel, rfl, rfl⟩
theorem dM_hasAsset_20 : Dk mM_hasAsset 20 0 21 := Or.inl ⟨0, by decide +kernel, rfl, rfl⟩
theorem dM_hasAsset_21 : Dn mM_hasAsset 21 .ireturn 1 22 := ⟨by decide +kernel, rfl⟩
theorem dM_revalue_0 : Dv mM_revalue 0 .aload_n .aload 0 1 := Or.inl ⟨0, by decide +kernel, rfl, rfl⟩
theorem dM_revalue_1 : Dv mM_revalue 1 .aload_n .aload 0 2 := Or.inl ⟨0, by decide +kernel, rfl, rfl⟩
theorem dM_revalue_2 : Dv mM_revalue 2 .iload_n .iload 1 3 := Or.inl ⟨1, by decide +kernel, rfl, rfl⟩
theorem dM_revalue_3 : LkV mM_revalue 3 6 mM_hasAsset := ⟨147, by decide +kernel, rfl, Or.inl (tb4 99 rfl), tb4 101 rfl, ts 21 rfl⟩
theorem dM_revalue_6 : Dj mM_revalue 6 (.ifCond .eq) 9 20 := ⟨14, by decide +kernel, rfl, rfl⟩
theorem dM_revalue_9 : Dv mM_revalue 9 .lload_n .lload 2 10 := Or.inl ⟨2, by decide +kernel, rfl, rfl⟩
theorem dM_revalue_10 : LkS mM_revalue 10 13 mM_isCents := ⟨143, by decide +kernel, rfl, Or.inl (tb4 91 rfl), tb4 92 rfl⟩
theorem dM_revalue_13 : Dj mM_revalue 13 (.ifCond .eq) 16 20 := ⟨7, by decide +kernel, rfl, rfl⟩
theorem dM_revalue_16 : Dk mM_revalue 16 1 17 := Or.inl ⟨1, by decide +kernel, rfl, rfl⟩
theorem dM_revalue_17 : Dj mM_revalue 17 .goto 20 21 := ⟨4, by decide +kernel, rfl, rfl⟩
theorem dM_revalue_20 : Dk mM_revalue 20 0 21 := Or.inl ⟨0, by decide +kernel, rfl, rfl⟩
theorem dM_revalue_21 : Dk mM_revalue 21 1 22 := Or.inl ⟨1, by decide +kernel, rfl, rfl⟩
theorem dM_revalue_22 : LkV mM_revalue 22 25 mM_isBarred := ⟨133, by decide +kernel, rfl, Or.inl (tb4 71 rfl), tb4 73 rfl, ts 19 rfl⟩
theorem dM_revalue_25 : Dj mM_revalue 25 (.ifCond .eq) 28 30 := ⟨5, by decide +kernel, rfl, rfl⟩
theorem dM_revalue_28 : Dl mM_revalue 28 0 29 := Or.inl ⟨0, by decide +kernel, rfl, rfl⟩
theorem dM_revalue_29 : Dn mM_revalue 29 .lreturn 1 30 := ⟨by decide +kernel, rfl⟩
theorem dM_revalue_30 : Dv mM_revalue 30 .aload_n .aload 0 31 := Or.inl ⟨0, by decide +kernel, rfl, rfl⟩
theorem dM_revalue_31 : Df mM_revalue 31 .getfield 7 7 34 := ⟨17, ("EstateDeskModel", eT7, 37), by decide +kernel, rfl, rfl, by decide, rfl, Or.inl (tb3 194 rfl)⟩
theorem dM_revalue_34 : Dv mM_revalue 34 .iload_n .iload 1 35 := Or.inl ⟨1, by decide +kernel, rfl, rfl⟩
theorem dM_revalue_35 : Dn mM_revalue 35 .laload 1 36 := ⟨by decide +kernel, rfl⟩
theorem dM_revalue_36 : Dv mM_revalue 36 .lstore_n .lstore 4 38 := Or.inr ⟨by decide +kernel, rfl⟩
theorem dM_revalue_38 : Dv mM_revalue 38 .aload_n .aload 0 39 := Or.inl ⟨0, by decide +kernel, rfl, rfl⟩
theorem dM_revalue_39 : Df mM_revalue 39 .getfield 7 7 42 := ⟨17, ("EstateDeskModel", eT7, 37), by decide +kernel, rfl, rfl, by decide, rfl, Or.inl (tb3 194 rfl)⟩
theorem dM_revalue_42 : Dv mM_revalue 42 .iload_n .iload 1 43 := Or.inl ⟨1, by decide +kernel, rfl, rfl⟩
theorem dM_revalue_43 : Dv mM_revalue 43 .lload_n .lload 2 44 := Or.inl ⟨2, by decide +kernel, rfl, rfl⟩
theorem dM_revalue_44 : Dn mM_revalue 44 .lastore 1 45 := ⟨by decide +kernel, rfl⟩
theorem dM_revalue_45 : Dv mM_revalue 45 .lload_n .lload 4 47 := Or.inr ⟨by decide +kernel, rfl⟩
theorem dM_revalue_47 : Dn mM_revalue 47 .lreturn 1 48 := ⟨by decide +kernel, rfl⟩
theorem dM_gone_0 : Dv mM_gone 0 .aload_n .aload 0 1 := Or.inl ⟨0, by decide +kernel, rfl, rfl⟩
theorem dM_gone_1 : Dv mM_gone 1 .aload_n .aload 0 2 := Or.inl ⟨0, by decide +kernel, rfl, rfl⟩
theorem dM_gone_2 : Dv mM_gone 2 .iload_n .iload 1 3 := Or.inl ⟨1, by decide +kernel, rfl, rfl⟩
theorem dM_gone_3 : LkV mM_gone 3 6 mM_hasAsset := ⟨147, by decide +kernel, rfl, Or.inl (tb4 99 rfl), tb4 101 rfl, ts 21 rfl⟩
theorem dM_gone_6 : Dk mM_gone 6 1 7 := Or.inl ⟨1, by decide +kernel, rfl, rfl⟩
theorem dM_gone_7 : LkV mM_gone 7 10 mM_isBarred := ⟨133, by decide +kernel, rfl, Or.inl (tb4 71 rfl), tb4 73 rfl, ts 19 rfl⟩
theorem dM_gone_10 : Dj mM_gone 10 (.ifCond .ne) 13 20 := ⟨10, by decide +kernel, rfl, rfl⟩
theorem dM_gone_13 : Dv mM_gone 13 .aload_n .aload 0 14 := Or.inl ⟨0, by decide +kernel, rfl, rfl⟩
theorem dM_gone_14 : Df mM_gone 14 .getfield 7 9 17 := ⟨24, ("EstateDeskModel", eT7, 37), by decide +kernel, rfl, rfl, by decide, rfl, Or.inl (tb3 196 rfl)⟩
theorem dM_gone_17 : Dv mM_gone 17 .iload_n .iload 1 18 := Or.inl ⟨1, by decide +kernel, rfl, rfl⟩
theorem dM_gone_18 : Dk mM_gone 18 1 19 := Or.inl ⟨1, by decide +kernel, rfl, rfl⟩
theorem dM_gone_19 : Dn mM_gone 19 .bastore 1 20 := ⟨by decide +kernel, rfl⟩
theorem dM_gone_20 : Dn mM_gone 20 .return_ 1 21 := ⟨by decide +kernel, rfl⟩
theorem dM_isHad_0 : Dk mM_isHad 0 0 1 := Or.inl ⟨0, by decide +kernel, rfl, rfl⟩
theorem dM_isHad_1 : Dv mM_isHad 1 .istore_n .istore 4 3 := Or.inr ⟨by decide +kernel, rfl⟩
theorem dM_isHad_3 : Dk mM_isHad 3 1 4 := Or.inl ⟨1, by decide +kernel, rfl, rfl⟩
theorem dM_isHad_4 : Dv mM_isHad 4 .istore_n .istore 5 6 := Or.inr ⟨by decide +kernel, rfl⟩
theorem dM_isHad_6 : Dv mM_isHad 6 .iload_n .iload 5 8 := Or.inr ⟨by decide +kernel, rfl⟩
theorem dM_isHad_8 : Dk mM_isHad 8 41 10 := Or.inr (Or.inl ⟨41, by decide +kernel, by decide +kernel, rfl⟩)
theorem dM_isHad_10 : Dj mM_isHad 10 (.if_icmp .ge) 13 90 := ⟨80, by decide +kernel, rfl, rfl⟩
theorem dM_isHad_13 : Dv mM_isHad 13 .aload_n .aload 0 14 := Or.inl ⟨0, by decide +kernel, rfl, rfl⟩
theorem dM_isHad_14 : Df mM_isHad 14 .getfield 7 10 17 := ⟨27, ("EstateDeskModel", eT7, 37), by decide +kernel, rfl, rfl, by decide, rfl, Or.inl (tb3 197 rfl)⟩
theorem dM_isHad_17 : Dv mM_isHad 17 .iload_n .iload 5 19 := Or.inr ⟨by decide +kernel, rfl⟩
theorem dM_isHad_19 : Dn mM_isHad 19 .iaload 1 20 := ⟨by decide +kernel, rfl⟩
theorem dM_isHad_20 : Dk mM_isHad 20 1 21 := Or.inl ⟨1, by decide +kernel, rfl, rfl⟩
theorem dM_isHad_21 : Dj mM_isHad 21 (.if_icmp .eq) 24 39 := ⟨18, by decide +kernel, rfl, rfl⟩
theorem dM_isHad_24 : Dv mM_isHad 24 .iload_n .iload 3 25 := Or.inl ⟨3, by decide +kernel, rfl, rfl⟩
theorem dM_isHad_25 : Dj mM_isHad 25 (.ifCond .eq) 28 43 := ⟨18, by decide +kernel, rfl, rfl⟩
theorem dM_isHad_28 : Dv mM_isHad 28 .aload_n .aload 0 29 := Or.inl ⟨0, by decide +kernel, rfl, rfl⟩
theorem dM_isHad_29 : Df mM_isHad 29 .getfield 7 10 32 := ⟨27, ("EstateDeskModel", eT7, 37), by decide +kernel, rfl, rfl, by decide, rfl, Or.inl (tb3 197 rfl)⟩
theorem dM_isHad_32 : Dv mM_isHad 32 .iload_n .iload 5 34 := Or.inr ⟨by decide +kernel, rfl⟩
theorem dM_isHad_34 : Dn mM_isHad 34 .iaload 1 35 := ⟨by decide +kernel, rfl⟩
theorem dM_isHad_35 : Dk mM_isHad 35 2 36 := Or.inl ⟨2, by decide +kernel, rfl, rfl⟩
theorem dM_isHad_36 : Dj mM_isHad 36 (.if_icmp .ne) 39 43 := ⟨7, by decide +kernel, rfl, rfl⟩
theorem dM_isHad_39 : Dk mM_isHad 39 1 40 := Or.inl ⟨1, by decide +kernel, rfl, rfl⟩
theorem dM_isHad_40 : Dj mM_isHad 40 .goto 43 44 := ⟨4, by decide +kernel, rfl, rfl⟩
theorem dM_isHad_43 : Dk mM_isHad 43 0 44 := Or.inl ⟨0, by decide +kernel, rfl, rfl⟩
theorem dM_isHad_44 : Dv mM_isHad 44 .istore_n .istore 6 46 := Or.inr ⟨by decide +kernel, rfl⟩
theorem dM_isHad_46 : Dv mM_isHad 46 .iload_n .iload 4 48 := Or.inr ⟨by decide +kernel, rfl⟩
theorem dM_isHad_48 : Dj mM_isHad 48 (.ifCond .ne) 51 77 := ⟨29, by decide +kernel, rfl, rfl⟩
theorem dM_isHad_51 : Dv mM_isHad 51 .iload_n .iload 5 53 := Or.inr ⟨by decide +kernel, rfl⟩
theorem dM_isHad_53 : Dv mM_isHad 53 .iload_n .iload 1 54 := Or.inl ⟨1, by decide +kernel, rfl, rfl⟩
theorem dM_isHad_54 : Dj mM_isHad 54 (.if_icmp .eq) 57 81 := ⟨27, by decide +kernel, rfl, rfl⟩
theorem dM_isHad_57 : Dv mM_isHad 57 .iload_n .iload 6 59 := Or.inr ⟨by decide +kernel, rfl⟩
theorem dM_isHad_59 : Dj mM_isHad 59 (.ifCond .eq) 62 81 := ⟨22, by decide +kernel, rfl, rfl⟩
theorem dM_isHad_62 : Dv mM_isHad 62 .aload_n .aload 0 63 := Or.inl ⟨0, by decide +kernel, rfl, rfl⟩
theorem dM_isHad_63 : Df mM_isHad 63 .getfield 7 11 66 := ⟨30, ("EstateDeskModel", eT7, 37), by decide +kernel, rfl, rfl, by decide, rfl, Or.inl (tb3 198 rfl)⟩
theorem dM_isHad_66 : Dv mM_isHad 66 .iload_n .iload 5 68 := Or.inr ⟨by decide +kernel, rfl⟩
theorem dM_isHad_68 : Dn mM_isHad 68 .iaload 1 69 := ⟨by decide +kernel, rfl⟩
theorem dM_isHad_69 : Dv mM_isHad 69 .iload_n .iload 2 70 := Or.inl ⟨2, by decide +kernel, rfl, rfl⟩
theorem dM_isHad_70 : Dj mM_isHad 70 (.if_icmp .ne) 73 81 := ⟨11, by decide +kernel, rfl, rfl⟩
theorem dM_isHad_73 : Dv mM_isHad 73 .iload_n .iload 2 74 := Or.inl ⟨2, by decide +kernel, rfl, rfl⟩
theorem dM_isHad_74 : Dj mM_isHad 74 (.ifCond .le) 77 81 := ⟨7, by decide +kernel, rfl, rfl⟩
theorem dM_isHad_77 : Dk mM_isHad 77 1 78 := Or.inl ⟨1, by decide +kernel, rfl, rfl⟩
theorem dM_isHad_78 : Dj mM_isHad 78 .goto 81 82 := ⟨4, by decide +kernel, rfl, rfl⟩
theorem dM_isHad_81 : Dk mM_isHad 81 0 82 := Or.inl ⟨0, by decide +kernel, rfl, rfl⟩
theorem dM_isHad_82 : Dv mM_isHad 82 .istore_n .istore 4 84 := Or.inr ⟨by decide +kernel, rfl⟩
theorem dM_isHad_84 : Dn mM_isHad 84 (.iinc 5 1) 3 87 := ⟨by decide +kernel, rfl⟩
theorem dM_isHad_87 : Dj mM_isHad 87 .goto 90 6 := ⟨-81, by decide +kernel, rfl, rfl⟩
theorem dM_isHad_90 : Dv mM_isHad 90 .iload_n .iload 4 92 := Or.inr ⟨by decide +kernel, rfl⟩
theorem dM_isHad_92 : Dn mM_isHad 92 .ireturn 1 93 := ⟨by decide +kernel, rfl⟩
theorem dM_tell_0 : Dv mM_tell 0 .aload_n .aload 0 1 := Or.inl ⟨0, by decide +kernel, rfl, rfl⟩
theorem dM_tell_1 : Df mM_tell 1 .getfield 7 10 4 := ⟨27, ("EstateDeskModel", eT7, 37), by decide +kernel, rfl, rfl, by decide, rfl, Or.inl (tb3 197 rfl)⟩
theorem dM_tell_4 : Dv mM_tell 4 .iload_n .iload 1 5 := Or.inl ⟨1, by decide +kernel, rfl, rfl⟩
theorem dM_tell_5 : Dv mM_tell 5 .iload_n .iload 2 6 := Or.inl ⟨2, by decide +kernel, rfl, rfl⟩
theorem dM_tell_6 : Dn mM_tell 6 .iastore 1 7 := ⟨by decide +kernel, rfl⟩
theorem dM_tell_7 : Dv mM_tell 7 .aload_n .aload 0 8 := Or.inl ⟨0, by decide +kernel, rfl, rfl⟩
theorem dM_tell_8 : Df mM_tell 8 .getfield 7 11 11 := ⟨30, ("EstateDeskModel", eT7, 37), by decide +kernel, rfl, rfl, by decide, rfl, Or.inl (tb3 198 rfl)⟩
theorem dM_tell_11 : Dv mM_tell 11 .iload_n .iload 1 12 := Or.inl ⟨1, by decide +kernel, rfl, rfl⟩
theorem dM_tell_12 : Dv mM_tell 12 .iload_n .iload 3 13 := Or.inl ⟨3, by decide +kernel, rfl, rfl⟩
theorem dM_tell_13 : Dn mM_tell 13 .iastore 1 14 := ⟨by decide +kernel, rfl⟩
theorem dM_tell_14 : Dv mM_tell 14 .aload_n .aload 0 15 := Or.inl ⟨0, by decide +kernel, rfl, rfl⟩
theorem dM_tell_15 : Df mM_tell 15 .getfield 7 12 18 := ⟨33, ("EstateDeskModel", eT7, 37), by decide +kernel, rfl, rfl, by decide, rfl, Or.inl (tb3 199 rfl)⟩
theorem dM_tell_18 : Dv mM_tell 18 .iload_n .iload 1 19 := Or.inl ⟨1, by decide +kernel, rfl, rfl⟩
theorem dM_tell_19 : Dv mM_tell 19 .lload_n .lload 4 21 := Or.inr ⟨by decide +kernel, rfl⟩
theorem dM_tell_21 : Dn mM_tell 21 .lastore 1 22 := ⟨by decide +kernel, rfl⟩
theorem dM_tell_22 : Dv mM_tell 22 .aload_n .aload 0 23 := Or.inl ⟨0, by decide +kernel, rfl, rfl⟩
theorem dM_tell_23 : Df mM_tell 23 .getfield 7 13 26 := ⟨36, ("EstateDeskModel", eT7, 37), by decide +kernel, rfl, rfl, by decide, rfl, Or.inl (tb3 200 rfl)⟩
theorem dM_tell_26 : Dv mM_tell 26 .iload_n .iload 1 27 := Or.inl ⟨1, by decide +kernel, rfl, rfl⟩
theorem dM_tell_27 : Dv mM_tell 27 .iload_n .iload 6 29 := Or.inr ⟨by decide +kernel, rfl⟩
theorem dM_tell_29 : Dn mM_tell 29 .iastore 1 30 := ⟨by decide +kernel, rfl⟩
theorem dM_tell_30 : Dv mM_tell 30 .aload_n .aload 0 31 := Or.inl ⟨0, by decide +kernel, rfl, rfl⟩
theorem dM_tell_31 : Df mM_tell 31 .getfield 7 14 34 := ⟨39, ("EstateDeskModel", eT7, 37), by decide +kernel, rfl, rfl, by decide, rfl, Or.inl (tb3 201 rfl)⟩
theorem dM_tell_34 : Dv mM_tell 34 .iload_n .iload 1 35 := Or.inl ⟨1, by decide +kernel, rfl, rfl⟩
theorem dM_tell_35 : Dk mM_tell 35 1 36 := Or.inl ⟨1, by decide +kernel, rfl, rfl⟩
theorem dM_tell_36 : Dn mM_tell 36 .bastore 1 37 := ⟨by decide +kernel, rfl⟩
theorem dM_tell_37 : Dn mM_tell 37 .return_ 1 38 := ⟨by decide +kernel, rfl⟩
theorem dM_gift_0 : Dv mM_gift 0 .iload_n .iload 1 1 := Or.inl ⟨1, by decide +kernel, rfl, rfl⟩
theorem dM_gift_1 : LkS mM_gift 1 4 mM_isId := ⟨140, by decide +kernel, rfl, Or.inl (tb4 83 rfl), tb4 84 rfl⟩
theorem dM_gift_4 : Dj mM_gift 4 (.ifCond .eq) 7 19 := ⟨15, by decide +kernel, rfl, rfl⟩
theorem dM_gift_7 : Dv mM_gift 7 .aload_n .aload 0 8 := Or.inl ⟨0, by decide +kernel, rfl, rfl⟩
theorem dM_gift_8 : Dv mM_gift 8 .iload_n .iload 2 9 := Or.inl ⟨2, by decide +kernel, rfl, rfl⟩
theorem dM_gift_9 : LkV mM_gift 9 12 mM_hasAsset := ⟨147, by decide +kernel, rfl, Or.inl (tb4 99 rfl), tb4 101 rfl, ts 21 rfl⟩
theorem dM_gift_12 : Dj mM_gift 12 (.ifCond .eq) 15 19 := ⟨7, by decide +kernel, rfl, rfl⟩
theorem dM_gift_15 : Dk mM_gift 15 1 16 := Or.inl ⟨1, by decide +kernel, rfl, rfl⟩
theorem dM_gift_16 : Dj mM_gift 16 .goto 19 20 := ⟨4, by decide +kernel, rfl, rfl⟩
theorem dM_gift_19 : Dk mM_gift 19 0 20 := Or.inl ⟨0, by decide +kernel, rfl, rfl⟩
theorem dM_gift_20 : Dv mM_gift 20 .istore_n .istore 3 21 := Or.inl ⟨3, by decide +kernel, rfl, rfl⟩
theorem dM_gift_21 : Dv mM_gift 21 .aload_n .aload 0 22 := Or.inl ⟨0, by decide +kernel, rfl, rfl⟩
theorem dM_gift_22 : Dv mM_gift 22 .iload_n .iload 3 23 := Or.inl ⟨3, by decide +kernel, rfl, rfl⟩
theorem dM_gift_23 : Dv mM_gift 23 .iload_n .iload 3 24 := Or.inl ⟨3, by decide +kernel, rfl, rfl⟩
theorem dM_gift_24 : Dj mM_gift 24 (.ifCond .eq) 27 41 := ⟨17, by decide +kernel, rfl, rfl⟩
theorem dM_gift_27 : Dv mM_gift 27 .aload_n .aload 0 28 := Or.inl ⟨0, by decide +kernel, rfl, rfl⟩
theorem dM_gift_28 : Dv mM_gift 28 .iload_n .iload 1 29 := Or.inl ⟨1, by decide +kernel, rfl, rfl⟩
theorem dM_gift_29 : Dv mM_gift 29 .iload_n .iload 2 30 := Or.inl ⟨2, by decide +kernel, rfl, rfl⟩
theorem dM_gift_30 : Dk mM_gift 30 1 31 := Or.inl ⟨1, by decide +kernel, rfl, rfl⟩
theorem dM_gift_31 : LkV mM_gift 31 34 mM_isHad := ⟨150, by decide +kernel, rfl, Or.inl (tb4 111 rfl), tb4 113 rfl, ts 22 rfl⟩
theorem dM_gift_34 : Dj mM_gift 34 (.ifCond .ne) 37 41 := ⟨7, by decide +kernel, rfl, rfl⟩
theorem dM_gift_37 : Dk mM_gift 37 1 38 := Or.inl ⟨1, by decide +kernel, rfl, rfl⟩
theorem dM_gift_38 : Dj mM_gift 38 .goto 41 42 := ⟨4, by decide +kernel, rfl, rfl⟩
theorem dM_gift_41 : Dk mM_gift 41 0 42 := Or.inl ⟨0, by decide +kernel, rfl, rfl⟩
theorem dM_gift_42 : LkV mM_gift 42 45 mM_isBarred := ⟨133, by decide +kernel, rfl, Or.inl (tb4 71 rfl), tb4 73 rfl, ts 19 rfl⟩
theorem dM_gift_45 : Dj mM_gift 45 (.ifCond .ne) 48 57 := ⟨12, by decide +kernel, rfl, rfl⟩
theorem dM_gift_48 : Dv mM_gift 48 .aload_n .aload 0 49 := Or.inl ⟨0, by decide +kernel, rfl, rfl⟩
theorem dM_gift_49 : Dv mM_gift 49 .iload_n .iload 1 50 := Or.inl ⟨1, by decide +kernel, rfl, rfl⟩
theorem dM_gift_50 : Dk mM_gift 50 1 51 := Or.inl ⟨1, by decide +kernel, rfl, rfl⟩
theorem dM_gift_51 : Dv mM_gift 51 .iload_n .iload 2 52 := Or.inl ⟨2, by decide +kernel, rfl, rfl⟩
theorem dM_gift_52 : Dl mM_gift 52 0 53 := Or.inl ⟨0, by decide +kernel, rfl, rfl⟩
theorem dM_gift_53 : Dk mM_gift 53 0 54 := Or.inl ⟨0, by decide +kernel, rfl, rfl⟩
theorem dM_gift_54 : LkV mM_gift 54 57 mM_tell := ⟨154, by decide +kernel, rfl, Or.inl (tb4 115 rfl), tb4 117 rfl, ts 23 rfl⟩
theorem dM_gift_57 : Dn mM_gift 57 .return_ 1 58 := ⟨by decide +kernel, rfl⟩
theorem dM_legacy_0 : Dv mM_legacy 0 .iload_n .iload 1 1 := Or.inl ⟨1, by decide +kernel, rfl, rfl⟩
theorem dM_legacy_1 : LkS mM_legacy 1 4 mM_isId := ⟨140, by decide +kernel, rfl, Or.inl (tb4 83 rfl), tb4 84 rfl⟩
theorem dM_legacy_4 : Dj mM_legacy 4 (.ifCond .eq) 7 42 := ⟨38, by decide +kernel, rfl, rfl⟩
theorem dM_legacy_7 : Dv mM_legacy 7 .lload_n .lload 2 8 := Or.inl ⟨2, by decide +kernel, rfl, rfl⟩
theorem dM_legacy_8 : LkS mM_legacy 8 11 mM_isCents := ⟨143, by decide +kernel, rfl, Or.inl (tb4 91 rfl), tb4 92 rfl⟩
theorem dM_legacy_11 : Dj mM_legacy 11 (.ifCond .eq) 14 42 := ⟨31, by decide +kernel, rfl, rfl⟩
theorem dM_legacy_14 : Dv mM_legacy 14 .iload_n .iload 4 16 := Or.inr ⟨by decide +kernel, rfl⟩
theorem dM_legacy_16 : Dj mM_legacy 16 (.ifCond .eq) 19 38 := ⟨22, by decide +kernel, rfl, rfl⟩
theorem dM_legacy_19 : Dv mM_legacy 19 .aload_n .aload 0 20 := Or.inl ⟨0, by decide +kernel, rfl, rfl⟩
theorem dM_legacy_20 : Dv mM_legacy 20 .iload_n .iload 4 22 := Or.inr ⟨by decide +kernel, rfl⟩
theorem dM_legacy_22 : LkV mM_legacy 22 25 mM_hasAsset := ⟨147, by decide +kernel, rfl, Or.inl (tb4 99 rfl), tb4 101 rfl, ts 21 rfl⟩
theorem dM_legacy_25 : Dj mM_legacy 25 (.ifCond .eq) 28 42 := ⟨17, by decide +kernel, rfl, rfl⟩
theorem dM_legacy_28 : Dv mM_legacy 28 .aload_n .aload 0 29 := Or.inl ⟨0, by decide +kernel, rfl, rfl⟩
theorem dM_legacy_29 : Df mM_legacy 29 .getfield 7 8 32 := ⟨21, ("EstateDeskModel", eT7, 37), by decide +kernel, rfl, rfl, by decide, rfl, Or.inl (tb3 195 rfl)⟩
theorem dM_legacy_32 : Dv mM_legacy 32 .iload_n .iload 4 34 := Or.inr ⟨by decide +kernel, rfl⟩
theorem dM_legacy_34 : Dn mM_legacy 34 .baload 1 35 := ⟨by decide +kernel, rfl⟩
theorem dM_legacy_35 : Dj mM_legacy 35 (.ifCond .eq) 38 42 := ⟨7, by decide +kernel, rfl, rfl⟩
theorem dM_legacy_38 : Dk mM_legacy 38 1 39 := Or.inl ⟨1, by decide +kernel, rfl, rfl⟩
theorem dM_legacy_39 : Dj mM_legacy 39 .goto 42 43 := ⟨4, by decide +kernel, rfl, rfl⟩
theorem dM_legacy_42 : Dk mM_legacy 42 0 43 := Or.inl ⟨0, by decide +kernel, rfl, rfl⟩
theorem dM_legacy_43 : Dv mM_legacy 43 .istore_n .istore 5 45 := Or.inr ⟨by decide +kernel, rfl⟩
theorem dM_legacy_45 : Dv mM_legacy 45 .aload_n .aload 0 46 := Or.inl ⟨0, by decide +kernel, rfl, rfl⟩
theorem dM_legacy_46 : Dv mM_legacy 46 .iload_n .iload 5 48 := Or.inr ⟨by decide +kernel, rfl⟩
theorem dM_legacy_48 : Dv mM_legacy 48 .iload_n .iload 5 50 := Or.inr ⟨by decide +kernel, rfl⟩
theorem dM_legacy_50 : Dj mM_legacy 50 (.ifCond .eq) 53 68 := ⟨18, by decide +kernel, rfl, rfl⟩
theorem dM_legacy_53 : Dv mM_legacy 53 .aload_n .aload 0 54 := Or.inl ⟨0, by decide +kernel, rfl, rfl⟩
theorem dM_legacy_54 : Dv mM_legacy 54 .iload_n .iload 1 55 := Or.inl ⟨1, by decide +kernel, rfl, rfl⟩
theorem dM_legacy_55 : Dv mM_legacy 55 .iload_n .iload 4 57 := Or.inr ⟨by decide +kernel, rfl⟩
theorem dM_legacy_57 : Dk mM_legacy 57 0 58 := Or.inl ⟨0, by decide +kernel, rfl, rfl⟩
theorem dM_legacy_58 : LkV mM_legacy 58 61 mM_isHad := ⟨150, by decide +kernel, rfl, Or.inl (tb4 111 rfl), tb4 113 rfl, ts 22 rfl⟩
theorem dM_legacy_61 : Dj mM_legacy 61 (.ifCond .ne) 64 68 := ⟨7, by decide +kernel, rfl, rfl⟩
theorem dM_legacy_64 : Dk mM_legacy 64 1 65 := Or.inl ⟨1, by decide +kernel, rfl, rfl⟩
theorem dM_legacy_65 : Dj mM_legacy 65 .goto 68 69 := ⟨4, by decide +kernel, rfl, rfl⟩
theorem dM_legacy_68 : Dk mM_legacy 68 0 69 := Or.inl ⟨0, by decide +kernel, rfl, rfl⟩
theorem dM_legacy_69 : LkV mM_legacy 69 72 mM_isBarred := ⟨133, by decide +kernel, rfl, Or.inl (tb4 71 rfl), tb4 73 rfl, ts 19 rfl⟩
theorem dM_legacy_72 : Dj mM_legacy 72 (.ifCond .ne) 75 85 := ⟨13, by decide +kernel, rfl, rfl⟩
theorem dM_legacy_75 : Dv mM_legacy 75 .aload_n .aload 0 76 := Or.inl ⟨0, by decide +kernel, rfl, rfl⟩
theorem dM_legacy_76 : Dv mM_legacy 76 .iload_n .iload 1 77 := Or.inl ⟨1, by decide +kernel, rfl, rfl⟩
theorem dM_legacy_77 : Dk mM_legacy 77 2 78 := Or.inl ⟨2, by decide +kernel, rfl, rfl⟩
theorem dM_legacy_78 : Dv mM_legacy 78 .iload_n .iload 4 80 := Or.inr ⟨by decide +kernel, rfl⟩
theorem dM_legacy_80 : Dv mM_legacy 80 .lload_n .lload 2 81 := Or.inl ⟨2, by decide +kernel, rfl, rfl⟩
theorem dM_legacy_81 : Dk mM_legacy 81 0 82 := Or.inl ⟨0, by decide +kernel, rfl, rfl⟩
theorem dM_legacy_82 : LkV mM_legacy 82 85 mM_tell := ⟨154, by decide +kernel, rfl, Or.inl (tb4 115 rfl), tb4 117 rfl, ts 23 rfl⟩
theorem dM_legacy_85 : Dn mM_legacy 85 .return_ 1 86 := ⟨by decide +kernel, rfl⟩
theorem dM_annuity_0 : Dv mM_annuity 0 .aload_n .aload 0 1 := Or.inl ⟨0, by decide +kernel, rfl, rfl⟩
theorem dM_annuity_1 : Dv mM_annuity 1 .iload_n .iload 1 2 := Or.inl ⟨1, by decide +kernel, rfl, rfl⟩
theorem dM_annuity_2 : LkS mM_annuity 2 5 mM_isId := ⟨140, by decide +kernel, rfl, Or.inl (tb4 83 rfl), tb4 84 rfl⟩
theorem dM_annuity_5 : Dj mM_annuity 5 (.ifCond .eq) 8 36 := ⟨31, by decide +kernel, rfl, rfl⟩
theorem dM_annuity_8 : Dv mM_annuity 8 .lload_n .lload 2 9 := Or.inl ⟨2, by decide +kernel, rfl, rfl⟩
theorem dM_annuity_9 : Dl mM_annuity 9 0 10 := Or.inl ⟨0, by decide +kernel, rfl, rfl⟩
theorem dM_annuity_10 : Dl mM_annuity 10 1000000000 13 := Or.inr ⟨158, by decide +kernel, tb4 127 rfl, rfl⟩
theorem dM_annuity_13 : LkS mM_annuity 13 16 mM_isIn := ⟨114, by decide +kernel, rfl, Or.inl (tb4 68 rfl), tb4 69 rfl⟩
theorem dM_annuity_16 : Dj mM_annuity 16 (.ifCond .eq) 19 36 := ⟨20, by decide +kernel, rfl, rfl⟩
theorem dM_annuity_19 : Dv mM_annuity 19 .iload_n .iload 4 21 := Or.inr ⟨by decide +kernel, rfl⟩
theorem dM_annuity_21 : Dn mM_annuity 21 .i2l 1 22 := ⟨by decide +kernel, rfl⟩
theorem dM_annuity_22 : Dl mM_annuity 22 0 23 := Or.inl ⟨0, by decide +kernel, rfl, rfl⟩
theorem dM_annuity_23 : Dl mM_annuity 23 99 26 := Or.inr ⟨160, by decide +kernel, tb4 128 rfl, rfl⟩
theorem dM_annuity_26 : LkS mM_annuity 26 29 mM_isIn := ⟨114, by decide +kernel, rfl, Or.inl (tb4 68 rfl), tb4 69 rfl⟩
theorem dM_annuity_29 : Dj mM_annuity 29 (.ifCond .eq) 32 36 := ⟨7, by decide +kernel, rfl, rfl⟩
theorem dM_annuity_32 : Dk mM_annuity 32 1 33 := Or.inl ⟨1, by decide +kernel, rfl, rfl⟩
theorem dM_annuity_33 : Dj mM_annuity 33 .goto 36 37 := ⟨4, by decide +kernel, rfl, rfl⟩
theorem dM_annuity_36 : Dk mM_annuity 36 0 37 := Or.inl ⟨0, by decide +kernel, rfl, rfl⟩
theorem dM_annuity_37 : Dk mM_annuity 37 1 38 := Or.inl ⟨1, by decide +kernel, rfl, rfl⟩
theorem dM_annuity_38 : LkV mM_annuity 38 41 mM_isBarred := ⟨133, by decide +kernel, rfl, Or.inl (tb4 71 rfl), tb4 73 rfl, ts 19 rfl⟩
theorem dM_annuity_41 : Dj mM_annuity 41 (.ifCond .ne) 44 54 := ⟨13, by decide +kernel, rfl, rfl⟩
theorem dM_annuity_44 : Dv mM_annuity 44 .aload_n .aload 0 45 := Or.inl ⟨0, by decide +kernel, rfl, rfl⟩
theorem dM_annuity_45 : Dv mM_annuity 45 .iload_n .iload 1 46 := Or.inl ⟨1, by decide +kernel, rfl, rfl⟩
theorem dM_annuity_46 : Dk mM_annuity 46 3 47 := Or.inl ⟨3, by decide +kernel, rfl, rfl⟩
theorem dM_annuity_47 : Dk mM_annuity 47 0 48 := Or.inl ⟨0, by decide +kernel, rfl, rfl⟩
theorem dM_annuity_48 : Dv mM_annuity 48 .lload_n .lload 2 49 := Or.inl ⟨2, by decide +kernel, rfl, rfl⟩
theorem dM_annuity_49 : Dv mM_annuity 49 .iload_n .iload 4 51 := Or.inr ⟨by decide +kernel, rfl⟩
theorem dM_annuity_51 : LkV mM_annuity 51 54 mM_tell := ⟨154, by decide +kernel, rfl, Or.inl (tb4 115 rfl), tb4 117 rfl, ts 23 rfl⟩
theorem dM_annuity_54 : Dn mM_annuity 54 .return_ 1 55 := ⟨by decide +kernel, rfl⟩
end
section
theorem dM_residue_0 : Dv mM_residue 0 .aload_n .aload 0 1 := Or.inl ⟨0, by decide +kernel, rfl, rfl⟩
theorem dM_residue_1 : Dv mM_residue 1 .iload_n .iload 1 2 := Or.inl ⟨1, by decide +kernel, rfl, rfl⟩
theorem dM_residue_2 : LkS mM_residue 2 5 mM_isId := ⟨140, by decide +kernel, rfl, Or.inl (tb4 83 rfl), tb4 84 rfl⟩
theorem dM_residue_5 : Dj mM_residue 5 (.ifCond .eq) 8 24 := ⟨19, by decide +kernel, rfl, rfl⟩
theorem dM_residue_8 : Dv mM_residue 8 .iload_n .iload 2 9 := Or.inl ⟨2, by decide +kernel, rfl, rfl⟩
theorem dM_residue_9 : Dn mM_residue 9 .i2l 1 10 := ⟨by decide +kernel, rfl⟩
theorem dM_residue_10 : Dl mM_residue 10 1 11 := Or.inl ⟨1, by decide +kernel, rfl, rfl⟩
theorem dM_residue_11 : Dl mM_residue 11 1000 14 := Or.inr ⟨162, by decide +kernel, tb4 133 rfl, rfl⟩
theorem dM_residue_14 : LkS mM_residue 14 17 mM_isIn := ⟨114, by decide +kernel, rfl, Or.inl (tb4 68 rfl), tb4 69 rfl⟩
theorem dM_residue_17 : Dj mM_residue 17 (.ifCond .eq) 20 24 := ⟨7, by decide +kernel, rfl, rfl⟩
theorem dM_residue_20 : Dk mM_residue 20 1 21 := Or.inl ⟨1, by decide +kernel, rfl, rfl⟩
theorem dM_residue_21 : Dj mM_residue 21 .goto 24 25 := ⟨4, by decide +kernel, rfl, rfl⟩
theorem dM_residue_24 : Dk mM_residue 24 0 25 := Or.inl ⟨0, by decide +kernel, rfl, rfl⟩
theorem dM_residue_25 : Dk mM_residue 25 1 26 := Or.inl ⟨1, by decide +kernel, rfl, rfl⟩
theorem dM_residue_26 : LkV mM_residue 26 29 mM_isBarred := ⟨133, by decide +kernel, rfl, Or.inl (tb4 71 rfl), tb4 73 rfl, ts 19 rfl⟩
theorem dM_residue_29 : Dj mM_residue 29 (.ifCond .ne) 32 41 := ⟨12, by decide +kernel, rfl, rfl⟩
theorem dM_residue_32 : Dv mM_residue 32 .aload_n .aload 0 33 := Or.inl ⟨0, by decide +kernel, rfl, rfl⟩
theorem dM_residue_33 : Dv mM_residue 33 .iload_n .iload 1 34 := Or.inl ⟨1, by decide +kernel, rfl, rfl⟩
theorem dM_residue_34 : Dk mM_residue 34 4 35 := Or.inl ⟨4, by decide +kernel, rfl, rfl⟩
theorem dM_residue_35 : Dk mM_residue 35 0 36 := Or.inl ⟨0, by decide +kernel, rfl, rfl⟩
theorem dM_residue_36 : Dl mM_residue 36 0 37 := Or.inl ⟨0, by decide +kernel, rfl, rfl⟩
theorem dM_residue_37 : Dv mM_residue 37 .iload_n .iload 2 38 := Or.inl ⟨2, by decide +kernel, rfl, rfl⟩
theorem dM_residue_38 : LkV mM_residue 38 41 mM_tell := ⟨154, by decide +kernel, rfl, Or.inl (tb4 115 rfl), tb4 117 rfl, ts 23 rfl⟩
theorem dM_residue_41 : Dn mM_residue 41 .return_ 1 42 := ⟨by decide +kernel, rfl⟩
theorem dM_strike_0 : Dv mM_strike 0 .aload_n .aload 0 1 := Or.inl ⟨0, by decide +kernel, rfl, rfl⟩
theorem dM_strike_1 : Dv mM_strike 1 .iload_n .iload 1 2 := Or.inl ⟨1, by decide +kernel, rfl, rfl⟩
theorem dM_strike_2 : LkS mM_strike 2 5 mM_isId := ⟨140, by decide +kernel, rfl, Or.inl (tb4 83 rfl), tb4 84 rfl⟩
theorem dM_strike_5 : Dk mM_strike 5 1 6 := Or.inl ⟨1, by decide +kernel, rfl, rfl⟩
theorem dM_strike_6 : LkV mM_strike 6 9 mM_isBarred := ⟨133, by decide +kernel, rfl, Or.inl (tb4 71 rfl), tb4 73 rfl, ts 19 rfl⟩
theorem dM_strike_9 : Dj mM_strike 9 (.ifCond .ne) 12 19 := ⟨10, by decide +kernel, rfl, rfl⟩
theorem dM_strike_12 : Dv mM_strike 12 .aload_n .aload 0 13 := Or.inl ⟨0, by decide +kernel, rfl, rfl⟩
theorem dM_strike_13 : Df mM_strike 13 .getfield 7 10 16 := ⟨27, ("EstateDeskModel", eT7, 37), by decide +kernel, rfl, rfl, by decide, rfl, Or.inl (tb3 197 rfl)⟩
theorem dM_strike_16 : Dv mM_strike 16 .iload_n .iload 1 17 := Or.inl ⟨1, by decide +kernel, rfl, rfl⟩
theorem dM_strike_17 : Dk mM_strike 17 0 18 := Or.inl ⟨0, by decide +kernel, rfl, rfl⟩
theorem dM_strike_18 : Dn mM_strike 18 .iastore 1 19 := ⟨by decide +kernel, rfl⟩
theorem dM_strike_19 : Dn mM_strike 19 .return_ 1 20 := ⟨by decide +kernel, rfl⟩
theorem dM_taker_0 : Dv mM_taker 0 .aload_n .aload 0 1 := Or.inl ⟨0, by decide +kernel, rfl, rfl⟩
theorem dM_taker_1 : Dv mM_taker 1 .iload_n .iload 1 2 := Or.inl ⟨1, by decide +kernel, rfl, rfl⟩
theorem dM_taker_2 : LkS mM_taker 2 5 mM_isId := ⟨140, by decide +kernel, rfl, Or.inl (tb4 83 rfl), tb4 84 rfl⟩
theorem dM_taker_5 : Dj mM_taker 5 (.ifCond .eq) 8 36 := ⟨31, by decide +kernel, rfl, rfl⟩
theorem dM_taker_8 : Dv mM_taker 8 .iload_n .iload 2 9 := Or.inl ⟨2, by decide +kernel, rfl, rfl⟩
theorem dM_taker_9 : Dn mM_taker 9 .i2l 1 10 := ⟨by decide +kernel, rfl⟩
theorem dM_taker_10 : Dl mM_taker 10 1 11 := Or.inl ⟨1, by decide +kernel, rfl, rfl⟩
theorem dM_taker_11 : Dl mM_taker 11 4 14 := Or.inr ⟨164, by decide +kernel, tb4 142 rfl, rfl⟩
theorem dM_taker_14 : LkS mM_taker 14 17 mM_isIn := ⟨114, by decide +kernel, rfl, Or.inl (tb4 68 rfl), tb4 69 rfl⟩
theorem dM_taker_17 : Dj mM_taker 17 (.ifCond .eq) 20 36 := ⟨19, by decide +kernel, rfl, rfl⟩
theorem dM_taker_20 : Dv mM_taker 20 .iload_n .iload 3 21 := Or.inl ⟨3, by decide +kernel, rfl, rfl⟩
theorem dM_taker_21 : Dn mM_taker 21 .i2l 1 22 := ⟨by decide +kernel, rfl⟩
theorem dM_taker_22 : Dl mM_taker 22 0 23 := Or.inl ⟨0, by decide +kernel, rfl, rfl⟩
theorem dM_taker_23 : Dl mM_taker 23 40 26 := Or.inr ⟨112, by decide +kernel, tb4 86 rfl, rfl⟩
theorem dM_taker_26 : LkS mM_taker 26 29 mM_isIn := ⟨114, by decide +kernel, rfl, Or.inl (tb4 68 rfl), tb4 69 rfl⟩
theorem dM_taker_29 : Dj mM_taker 29 (.ifCond .eq) 32 36 := ⟨7, by decide +kernel, rfl, rfl⟩
theorem dM_taker_32 : Dk mM_taker 32 1 33 := Or.inl ⟨1, by decide +kernel, rfl, rfl⟩
theorem dM_taker_33 : Dj mM_taker 33 .goto 36 37 := ⟨4, by decide +kernel, rfl, rfl⟩
theorem dM_taker_36 : Dk mM_taker 36 0 37 := Or.inl ⟨0, by decide +kernel, rfl, rfl⟩
theorem dM_taker_37 : Dk mM_taker 37 1 38 := Or.inl ⟨1, by decide +kernel, rfl, rfl⟩
theorem dM_taker_38 : LkV mM_taker 38 41 mM_isBarred := ⟨133, by decide +kernel, rfl, Or.inl (tb4 71 rfl), tb4 73 rfl, ts 19 rfl⟩
theorem dM_taker_41 : Dj mM_taker 41 (.ifCond .ne) 44 55 := ⟨14, by decide +kernel, rfl, rfl⟩
theorem dM_taker_44 : Dv mM_taker 44 .aload_n .aload 0 45 := Or.inl ⟨0, by decide +kernel, rfl, rfl⟩
theorem dM_taker_45 : Df mM_taker 45 .getfield 7 15 48 := ⟨42, ("EstateDeskModel", eT7, 37), by decide +kernel, rfl, rfl, by decide, rfl, Or.inl (tb3 202 rfl)⟩
theorem dM_taker_48 : Dk mM_taker 48 5 49 := Or.inl ⟨5, by decide +kernel, rfl, rfl⟩
theorem dM_taker_49 : Dv mM_taker 49 .iload_n .iload 1 50 := Or.inl ⟨1, by decide +kernel, rfl, rfl⟩
theorem dM_taker_50 : Dn mM_taker 50 .imul 1 51 := ⟨by decide +kernel, rfl⟩
theorem dM_taker_51 : Dv mM_taker 51 .iload_n .iload 2 52 := Or.inl ⟨2, by decide +kernel, rfl, rfl⟩
theorem dM_taker_52 : Dn mM_taker 52 .iadd 1 53 := ⟨by decide +kernel, rfl⟩
theorem dM_taker_53 : Dv mM_taker 53 .iload_n .iload 3 54 := Or.inl ⟨3, by decide +kernel, rfl, rfl⟩
theorem dM_taker_54 : Dn mM_taker 54 .iastore 1 55 := ⟨by decide +kernel, rfl⟩
theorem dM_taker_55 : Dn mM_taker 55 .return_ 1 56 := ⟨by decide +kernel, rfl⟩
theorem dM_charge_0 : Dv mM_charge 0 .aload_n .aload 0 1 := Or.inl ⟨0, by decide +kernel, rfl, rfl⟩
theorem dM_charge_1 : Dv mM_charge 1 .iload_n .iload 1 2 := Or.inl ⟨1, by decide +kernel, rfl, rfl⟩
theorem dM_charge_2 : LkS mM_charge 2 5 mM_isId := ⟨140, by decide +kernel, rfl, Or.inl (tb4 83 rfl), tb4 84 rfl⟩
theorem dM_charge_5 : Dj mM_charge 5 (.ifCond .eq) 8 22 := ⟨17, by decide +kernel, rfl, rfl⟩
theorem dM_charge_8 : Dv mM_charge 8 .aload_n .aload 0 9 := Or.inl ⟨0, by decide +kernel, rfl, rfl⟩
theorem dM_charge_9 : Df mM_charge 9 .getfield 7 10 12 := ⟨27, ("EstateDeskModel", eT7, 37), by decide +kernel, rfl, rfl, by decide, rfl, Or.inl (tb3 197 rfl)⟩
theorem dM_charge_12 : Dv mM_charge 12 .iload_n .iload 1 13 := Or.inl ⟨1, by decide +kernel, rfl, rfl⟩
theorem dM_charge_13 : Dn mM_charge 13 .iaload 1 14 := ⟨by decide +kernel, rfl⟩
theorem dM_charge_14 : Dk mM_charge 14 1 15 := Or.inl ⟨1, by decide +kernel, rfl, rfl⟩
theorem dM_charge_15 : Dj mM_charge 15 (.if_icmp .ne) 18 22 := ⟨7, by decide +kernel, rfl, rfl⟩
theorem dM_charge_18 : Dk mM_charge 18 1 19 := Or.inl ⟨1, by decide +kernel, rfl, rfl⟩
theorem dM_charge_19 : Dj mM_charge 19 .goto 22 23 := ⟨4, by decide +kernel, rfl, rfl⟩
theorem dM_charge_22 : Dk mM_charge 22 0 23 := Or.inl ⟨0, by decide +kernel, rfl, rfl⟩
theorem dM_charge_23 : Dk mM_charge 23 1 24 := Or.inl ⟨1, by decide +kernel, rfl, rfl⟩
theorem dM_charge_24 : LkV mM_charge 24 27 mM_isBarred := ⟨133, by decide +kernel, rfl, Or.inl (tb4 71 rfl), tb4 73 rfl, ts 19 rfl⟩
theorem dM_charge_27 : Dj mM_charge 27 (.ifCond .ne) 30 37 := ⟨10, by decide +kernel, rfl, rfl⟩
theorem dM_charge_30 : Dv mM_charge 30 .aload_n .aload 0 31 := Or.inl ⟨0, by decide +kernel, rfl, rfl⟩
theorem dM_charge_31 : Df mM_charge 31 .getfield 7 14 34 := ⟨39, ("EstateDeskModel", eT7, 37), by decide +kernel, rfl, rfl, by decide, rfl, Or.inl (tb3 201 rfl)⟩
theorem dM_charge_34 : Dv mM_charge 34 .iload_n .iload 1 35 := Or.inl ⟨1, by decide +kernel, rfl, rfl⟩
theorem dM_charge_35 : Dv mM_charge 35 .iload_n .iload 2 36 := Or.inl ⟨2, by decide +kernel, rfl, rfl⟩
theorem dM_charge_36 : Dn mM_charge 36 .bastore 1 37 := ⟨by decide +kernel, rfl⟩
theorem dM_charge_37 : Dn mM_charge 37 .return_ 1 38 := ⟨by decide +kernel, rfl⟩
theorem dM_debt_0 : Dv mM_debt 0 .aload_n .aload 0 1 := Or.inl ⟨0, by decide +kernel, rfl, rfl⟩
theorem dM_debt_1 : Dv mM_debt 1 .iload_n .iload 1 2 := Or.inl ⟨1, by decide +kernel, rfl, rfl⟩
theorem dM_debt_2 : LkS mM_debt 2 5 mM_isId := ⟨140, by decide +kernel, rfl, Or.inl (tb4 83 rfl), tb4 84 rfl⟩
theorem dM_debt_5 : Dj mM_debt 5 (.ifCond .eq) 8 33 := ⟨28, by decide +kernel, rfl, rfl⟩
theorem dM_debt_8 : Dv mM_debt 8 .lload_n .lload 2 9 := Or.inl ⟨2, by decide +kernel, rfl, rfl⟩
theorem dM_debt_9 : LkS mM_debt 9 12 mM_isCents := ⟨143, by decide +kernel, rfl, Or.inl (tb4 91 rfl), tb4 92 rfl⟩
theorem dM_debt_12 : Dj mM_debt 12 (.ifCond .eq) 15 33 := ⟨21, by decide +kernel, rfl, rfl⟩
theorem dM_debt_15 : Dv mM_debt 15 .iload_n .iload 4 17 := Or.inr ⟨by decide +kernel, rfl⟩
theorem dM_debt_17 : Dj mM_debt 17 (.ifCond .eq) 20 29 := ⟨12, by decide +kernel, rfl, rfl⟩
theorem dM_debt_20 : Dv mM_debt 20 .aload_n .aload 0 21 := Or.inl ⟨0, by decide +kernel, rfl, rfl⟩
theorem dM_debt_21 : Dv mM_debt 21 .iload_n .iload 4 23 := Or.inr ⟨by decide +kernel, rfl⟩
theorem dM_debt_23 : LkV mM_debt 23 26 mM_hasAsset := ⟨147, by decide +kernel, rfl, Or.inl (tb4 99 rfl), tb4 101 rfl, ts 21 rfl⟩
theorem dM_debt_26 : Dj mM_debt 26 (.ifCond .eq) 29 33 := ⟨7, by decide +kernel, rfl, rfl⟩
theorem dM_debt_29 : Dk mM_debt 29 1 30 := Or.inl ⟨1, by decide +kernel, rfl, rfl⟩
theorem dM_debt_30 : Dj mM_debt 30 .goto 33 34 := ⟨4, by decide +kernel, rfl, rfl⟩
theorem dM_debt_33 : Dk mM_debt 33 0 34 := Or.inl ⟨0, by decide +kernel, rfl, rfl⟩
theorem dM_debt_34 : Dk mM_debt 34 1 35 := Or.inl ⟨1, by decide +kernel, rfl, rfl⟩
theorem dM_debt_35 : LkV mM_debt 35 38 mM_isBarred := ⟨133, by decide +kernel, rfl, Or.inl (tb4 71 rfl), tb4 73 rfl, ts 19 rfl⟩
theorem dM_debt_38 : Dj mM_debt 38 (.ifCond .ne) 41 63 := ⟨25, by decide +kernel, rfl, rfl⟩
theorem dM_debt_41 : Dv mM_debt 41 .aload_n .aload 0 42 := Or.inl ⟨0, by decide +kernel, rfl, rfl⟩
theorem dM_debt_42 : Df mM_debt 42 .getfield 7 16 45 := ⟨45, ("EstateDeskModel", eT7, 37), by decide +kernel, rfl, rfl, by decide, rfl, Or.inl (tb3 203 rfl)⟩
theorem dM_debt_45 : Dv mM_debt 45 .iload_n .iload 1 46 := Or.inl ⟨1, by decide +kernel, rfl, rfl⟩
theorem dM_debt_46 : Dk mM_debt 46 1 47 := Or.inl ⟨1, by decide +kernel, rfl, rfl⟩
theorem dM_debt_47 : Dn mM_debt 47 .bastore 1 48 := ⟨by decide +kernel, rfl⟩
theorem dM_debt_48 : Dv mM_debt 48 .aload_n .aload 0 49 := Or.inl ⟨0, by decide +kernel, rfl, rfl⟩
theorem dM_debt_49 : Df mM_debt 49 .getfield 7 17 52 := ⟨48, ("EstateDeskModel", eT7, 37), by decide +kernel, rfl, rfl, by decide, rfl, Or.inl (tb3 204 rfl)⟩
theorem dM_debt_52 : Dv mM_debt 52 .iload_n .iload 1 53 := Or.inl ⟨1, by decide +kernel, rfl, rfl⟩
theorem dM_debt_53 : Dv mM_debt 53 .lload_n .lload 2 54 := Or.inl ⟨2, by decide +kernel, rfl, rfl⟩
theorem dM_debt_54 : Dn mM_debt 54 .lastore 1 55 := ⟨by decide +kernel, rfl⟩
theorem dM_debt_55 : Dv mM_debt 55 .aload_n .aload 0 56 := Or.inl ⟨0, by decide +kernel, rfl, rfl⟩
theorem dM_debt_56 : Df mM_debt 56 .getfield 7 18 59 := ⟨51, ("EstateDeskModel", eT7, 37), by decide +kernel, rfl, rfl, by decide, rfl, Or.inl (tb3 205 rfl)⟩
theorem dM_debt_59 : Dv mM_debt 59 .iload_n .iload 1 60 := Or.inl ⟨1, by decide +kernel, rfl, rfl⟩
theorem dM_debt_60 : Dv mM_debt 60 .iload_n .iload 4 62 := Or.inr ⟨by decide +kernel, rfl⟩
theorem dM_debt_62 : Dn mM_debt 62 .iastore 1 63 := ⟨by decide +kernel, rfl⟩
theorem dM_debt_63 : Dn mM_debt 63 .return_ 1 64 := ⟨by decide +kernel, rfl⟩
theorem dM_split_0 : Dl mM_split 0 0 1 := Or.inl ⟨0, by decide +kernel, rfl, rfl⟩
theorem dM_split_1 : Dv mM_split 1 .lstore_n .lstore 3 2 := Or.inl ⟨3, by decide +kernel, rfl, rfl⟩
theorem dM_split_2 : Dk mM_split 2 0 3 := Or.inl ⟨0, by decide +kernel, rfl, rfl⟩
theorem dM_split_3 : Dv mM_split 3 .istore_n .istore 5 5 := Or.inr ⟨by decide +kernel, rfl⟩
theorem dM_split_5 : Dv mM_split 5 .iload_n .iload 5 7 := Or.inr ⟨by decide +kernel, rfl⟩
theorem dM_split_7 : Dk mM_split 7 41 9 := Or.inr (Or.inl ⟨41, by decide +kernel, by decide +kernel, rfl⟩)
theorem dM_split_9 : Dj mM_split 9 (.if_icmp .ge) 12 46 := ⟨37, by decide +kernel, rfl, rfl⟩
theorem dM_split_12 : Dv mM_split 12 .lload_n .lload 3 13 := Or.inl ⟨3, by decide +kernel, rfl, rfl⟩
theorem dM_split_13 : Dv mM_split 13 .aload_n .aload 0 14 := Or.inl ⟨0, by decide +kernel, rfl, rfl⟩
theorem dM_split_14 : Df mM_split 14 .getfield 7 34 17 := ⟨99, ("EstateDeskModel", eT7, 37), by decide +kernel, rfl, rfl, by decide, rfl, Or.inl (tb3 221 rfl)⟩
theorem dM_split_17 : Dv mM_split 17 .iload_n .iload 5 19 := Or.inr ⟨by decide +kernel, rfl⟩
theorem dM_split_19 : Dn mM_split 19 .laload 1 20 := ⟨by decide +kernel, rfl⟩
theorem dM_split_20 : Dn mM_split 20 .ladd 1 21 := ⟨by decide +kernel, rfl⟩
theorem dM_split_21 : Dv mM_split 21 .lstore_n .lstore 3 22 := Or.inl ⟨3, by decide +kernel, rfl, rfl⟩
theorem dM_split_22 : Dv mM_split 22 .aload_n .aload 0 23 := Or.inl ⟨0, by decide +kernel, rfl, rfl⟩
theorem dM_split_23 : Df mM_split 23 .getfield 7 35 26 := ⟨102, ("EstateDeskModel", eT7, 37), by decide +kernel, rfl, rfl, by decide, rfl, Or.inl (tb3 222 rfl)⟩
theorem dM_split_26 : Dv mM_split 26 .iload_n .iload 5 28 := Or.inr ⟨by decide +kernel, rfl⟩
theorem dM_split_28 : Dl mM_split 28 0 29 := Or.inl ⟨0, by decide +kernel, rfl, rfl⟩
theorem dM_split_29 : Dn mM_split 29 .lastore 1 30 := ⟨by decide +kernel, rfl⟩
theorem dM_split_30 : Dv mM_split 30 .aload_n .aload 0 31 := Or.inl ⟨0, by decide +kernel, rfl, rfl⟩
theorem dM_split_31 : Df mM_split 31 .getfield 7 36 34 := ⟨105, ("EstateDeskModel", eT7, 37), by decide +kernel, rfl, rfl, by decide, rfl, Or.inl (tb3 223 rfl)⟩
theorem dM_split_34 : Dv mM_split 34 .iload_n .iload 5 36 := Or.inr ⟨by decide +kernel, rfl⟩
theorem dM_split_36 : Dl mM_split 36 (-1) 39 := Or.inr ⟨166, by decide +kernel, tb4 208 rfl, rfl⟩
theorem dM_split_39 : Dn mM_split 39 .lastore 1 40 := ⟨by decide +kernel, rfl⟩
theorem dM_split_40 : Dn mM_split 40 (.iinc 5 1) 3 43 := ⟨by decide +kernel, rfl⟩
theorem dM_split_43 : Dj mM_split 43 .goto 46 5 := ⟨-38, by decide +kernel, rfl, rfl⟩
theorem dM_split_46 : Dv mM_split 46 .lload_n .lload 3 47 := Or.inl ⟨3, by decide +kernel, rfl, rfl⟩
theorem dM_split_47 : Dl mM_split 47 0 48 := Or.inl ⟨0, by decide +kernel, rfl, rfl⟩
theorem dM_split_48 : Dn mM_split 48 .lcmp 1 49 := ⟨by decide +kernel, rfl⟩
theorem dM_split_49 : Dj mM_split 49 (.ifCond .ne) 52 53 := ⟨4, by decide +kernel, rfl, rfl⟩
theorem dM_split_52 : Dn mM_split 52 .return_ 1 53 := ⟨by decide +kernel, rfl⟩
theorem dM_split_53 : Dv mM_split 53 .lload_n .lload 1 54 := Or.inl ⟨1, by decide +kernel, rfl, rfl⟩
theorem dM_split_54 : Dv mM_split 54 .lstore_n .lstore 5 56 := Or.inr ⟨by decide +kernel, rfl⟩
theorem dM_split_56 : Dk mM_split 56 0 57 := Or.inl ⟨0, by decide +kernel, rfl, rfl⟩
theorem dM_split_57 : Dv mM_split 57 .istore_n .istore 7 59 := Or.inr ⟨by decide +kernel, rfl⟩
theorem dM_split_59 : Dv mM_split 59 .iload_n .iload 7 61 := Or.inr ⟨by decide +kernel, rfl⟩
theorem dM_split_61 : Dk mM_split 61 41 63 := Or.inr (Or.inl ⟨41, by decide +kernel, by decide +kernel, rfl⟩)
theorem dM_split_63 : Dj mM_split 63 (.if_icmp .ge) 66 92 := ⟨29, by decide +kernel, rfl, rfl⟩
theorem dM_split_66 : Dv mM_split 66 .aload_n .aload 0 67 := Or.inl ⟨0, by decide +kernel, rfl, rfl⟩
theorem dM_split_67 : Dv mM_split 67 .iload_n .iload 7 69 := Or.inr ⟨by decide +kernel, rfl⟩
theorem dM_split_69 : Dv mM_split 69 .lload_n .lload 1 70 := Or.inl ⟨1, by decide +kernel, rfl, rfl⟩
theorem dM_split_70 : Dv mM_split 70 .lload_n .lload 3 71 := Or.inl ⟨3, by decide +kernel, rfl, rfl⟩
theorem dM_split_71 : LkV mM_split 71 74 mM_share := ⟨168, by decide +kernel, rfl, Or.inl (tb4 209 rfl), tb4 211 rfl, ts 35 rfl⟩
theorem dM_split_74 : Dv mM_split 74 .lload_n .lload 5 76 := Or.inr ⟨by decide +kernel, rfl⟩
theorem dM_split_76 : Dv mM_split 76 .aload_n .aload 0 77 := Or.inl ⟨0, by decide +kernel, rfl, rfl⟩
theorem dM_split_77 : Df mM_split 77 .getfield 7 35 80 := ⟨102, ("EstateDeskModel", eT7, 37), by decide +kernel, rfl, rfl, by decide, rfl, Or.inl (tb3 222 rfl)⟩
theorem dM_split_80 : Dv mM_split 80 .iload_n .iload 7 82 := Or.inr ⟨by decide +kernel, rfl⟩
theorem dM_split_82 : Dn mM_split 82 .laload 1 83 := ⟨by decide +kernel, rfl⟩
theorem dM_split_83 : Dn mM_split 83 .lsub 1 84 := ⟨by decide +kernel, rfl⟩
theorem dM_split_84 : Dv mM_split 84 .lstore_n .lstore 5 86 := Or.inr ⟨by decide +kernel, rfl⟩
theorem dM_split_86 : Dn mM_split 86 (.iinc 7 1) 3 89 := ⟨by decide +kernel, rfl⟩
theorem dM_split_89 : Dj mM_split 89 .goto 92 59 := ⟨-30, by decide +kernel, rfl, rfl⟩
theorem dM_split_92 : Dv mM_split 92 .lload_n .lload 5 94 := Or.inr ⟨by decide +kernel, rfl⟩
theorem dM_split_94 : Dl mM_split 94 0 95 := Or.inl ⟨0, by decide +kernel, rfl, rfl⟩
theorem dM_split_95 : Dn mM_split 95 .lcmp 1 96 := ⟨by decide +kernel, rfl⟩
theorem dM_split_96 : Dj mM_split 96 (.ifCond .le) 99 180 := ⟨84, by decide +kernel, rfl, rfl⟩
theorem dM_split_99 : Dk mM_split 99 0 100 := Or.inl ⟨0, by decide +kernel, rfl, rfl⟩
theorem dM_split_100 : Dv mM_split 100 .istore_n .istore 7 102 := Or.inr ⟨by decide +kernel, rfl⟩
theorem dM_split_102 : Dk mM_split 102 1 103 := Or.inl ⟨1, by decide +kernel, rfl, rfl⟩
theorem dM_split_103 : Dv mM_split 103 .istore_n .istore 8 105 := Or.inr ⟨by decide +kernel, rfl⟩
theorem dM_split_105 : Dv mM_split 105 .iload_n .iload 8 107 := Or.inr ⟨by decide +kernel, rfl⟩
theorem dM_split_107 : Dk mM_split 107 41 109 := Or.inr (Or.inl ⟨41, by decide +kernel, by decide +kernel, rfl⟩)
theorem dM_split_109 : Dj mM_split 109 (.if_icmp .ge) 112 145 := ⟨36, by decide +kernel, rfl, rfl⟩
theorem dM_split_112 : Dv mM_split 112 .aload_n .aload 0 113 := Or.inl ⟨0, by decide +kernel, rfl, rfl⟩
theorem dM_split_113 : Df mM_split 113 .getfield 7 36 116 := ⟨105, ("EstateDeskModel", eT7, 37), by decide +kernel, rfl, rfl, by decide, rfl, Or.inl (tb3 223 rfl)⟩
theorem dM_split_116 : Dv mM_split 116 .iload_n .iload 8 118 := Or.inr ⟨by decide +kernel, rfl⟩
theorem dM_split_118 : Dn mM_split 118 .laload 1 119 := ⟨by decide +kernel, rfl⟩
theorem dM_split_119 : Dv mM_split 119 .aload_n .aload 0 120 := Or.inl ⟨0, by decide +kernel, rfl, rfl⟩
theorem dM_split_120 : Df mM_split 120 .getfield 7 36 123 := ⟨105, ("EstateDeskModel", eT7, 37), by decide +kernel, rfl, rfl, by decide, rfl, Or.inl (tb3 223 rfl)⟩
theorem dM_split_123 : Dv mM_split 123 .iload_n .iload 7 125 := Or.inr ⟨by decide +kernel, rfl⟩
theorem dM_split_125 : Dn mM_split 125 .laload 1 126 := ⟨by decide +kernel, rfl⟩
theorem dM_split_126 : Dn mM_split 126 .lcmp 1 127 := ⟨by decide +kernel, rfl⟩
theorem dM_split_127 : Dj mM_split 127 (.ifCond .le) 130 135 := ⟨8, by decide +kernel, rfl, rfl⟩
theorem dM_split_130 : Dv mM_split 130 .iload_n .iload 8 132 := Or.inr ⟨by decide +kernel, rfl⟩
theorem dM_split_132 : Dj mM_split 132 .goto 135 137 := ⟨5, by decide +kernel, rfl, rfl⟩
theorem dM_split_135 : Dv mM_split 135 .iload_n .iload 7 137 := Or.inr ⟨by decide +kernel, rfl⟩
theorem dM_split_137 : Dv mM_split 137 .istore_n .istore 7 139 := Or.inr ⟨by decide +kernel, rfl⟩
theorem dM_split_139 : Dn mM_split 139 (.iinc 8 1) 3 142 := ⟨by decide +kernel, rfl⟩
theorem dM_split_142 : Dj mM_split 142 .goto 145 105 := ⟨-37, by decide +kernel, rfl, rfl⟩
theorem dM_split_145 : Dv mM_split 145 .aload_n .aload 0 146 := Or.inl ⟨0, by decide +kernel, rfl, rfl⟩
theorem dM_split_146 : Df mM_split 146 .getfield 7 35 149 := ⟨102, ("EstateDeskModel", eT7, 37), by decide +kernel, rfl, rfl, by decide, rfl, Or.inl (tb3 222 rfl)⟩
theorem dM_split_149 : Dv mM_split 149 .iload_n .iload 7 151 := Or.inr ⟨by decide +kernel, rfl⟩
theorem dM_split_151 : Dv mM_split 151 .aload_n .aload 0 152 := Or.inl ⟨0, by decide +kernel, rfl, rfl⟩
theorem dM_split_152 : Df mM_split 152 .getfield 7 35 155 := ⟨102, ("EstateDeskModel", eT7, 37), by decide +kernel, rfl, rfl, by decide, rfl, Or.inl (tb3 222 rfl)⟩
theorem dM_split_155 : Dv mM_split 155 .iload_n .iload 7 157 := Or.inr ⟨by decide +kernel, rfl⟩
theorem dM_split_157 : Dn mM_split 157 .laload 1 158 := ⟨by decide +kernel, rfl⟩
theorem dM_split_158 : Dl mM_split 158 1 159 := Or.inl ⟨1, by decide +kernel, rfl, rfl⟩
theorem dM_split_159 : Dn mM_split 159 .ladd 1 160 := ⟨by decide +kernel, rfl⟩
theorem dM_split_160 : Dn mM_split 160 .lastore 1 161 := ⟨by decide +kernel, rfl⟩
theorem dM_split_161 : Dv mM_split 161 .aload_n .aload 0 162 := Or.inl ⟨0, by decide +kernel, rfl, rfl⟩
theorem dM_split_162 : Df mM_split 162 .getfield 7 36 165 := ⟨105, ("EstateDeskModel", eT7, 37), by decide +kernel, rfl, rfl, by decide, rfl, Or.inl (tb3 223 rfl)⟩
theorem dM_split_165 : Dv mM_split 165 .iload_n .iload 7 167 := Or.inr ⟨by decide +kernel, rfl⟩
theorem dM_split_167 : Dl mM_split 167 (-1) 170 := Or.inr ⟨166, by decide +kernel, tb4 208 rfl, rfl⟩
theorem dM_split_170 : Dn mM_split 170 .lastore 1 171 := ⟨by decide +kernel, rfl⟩
theorem dM_split_171 : Dv mM_split 171 .lload_n .lload 5 173 := Or.inr ⟨by decide +kernel, rfl⟩
theorem dM_split_173 : Dl mM_split 173 1 174 := Or.inl ⟨1, by decide +kernel, rfl, rfl⟩
theorem dM_split_174 : Dn mM_split 174 .lsub 1 175 := ⟨by decide +kernel, rfl⟩
theorem dM_split_175 : Dv mM_split 175 .lstore_n .lstore 5 177 := Or.inr ⟨by decide +kernel, rfl⟩
theorem dM_split_177 : Dj mM_split 177 .goto 180 92 := ⟨-85, by decide +kernel, rfl, rfl⟩
theorem dM_split_180 : Dn mM_split 180 .return_ 1 181 := ⟨by decide +kernel, rfl⟩
theorem dM_share_0 : Dv mM_share 0 .lload_n .lload 2 1 := Or.inl ⟨2, by decide +kernel, rfl, rfl⟩
theorem dM_share_1 : Dv mM_share 1 .lload_n .lload 4 3 := Or.inr ⟨by decide +kernel, rfl⟩
theorem dM_share_3 : Dn mM_share 3 .ldiv 1 4 := ⟨by decide +kernel, rfl⟩
theorem dM_share_4 : Dv mM_share 4 .lstore_n .lstore 6 6 := Or.inr ⟨by decide +kernel, rfl⟩
theorem dM_share_6 : Dv mM_share 6 .lload_n .lload 2 7 := Or.inl ⟨2, by decide +kernel, rfl, rfl⟩
theorem dM_share_7 : Dv mM_share 7 .lload_n .lload 4 9 := Or.inr ⟨by decide +kernel, rfl⟩
theorem dM_share_9 : Dn mM_share 9 .lrem 1 10 := ⟨by decide +kernel, rfl⟩
theorem dM_share_10 : Dv mM_share 10 .lstore_n .lstore 8 12 := Or.inr ⟨by decide +kernel, rfl⟩
theorem dM_share_12 : Dl mM_share 12 0 13 := Or.inl ⟨0, by decide +kernel, rfl, rfl⟩
theorem dM_share_13 : Dv mM_share 13 .lstore_n .lstore 10 15 := Or.inr ⟨by decide +kernel, rfl⟩
theorem dM_share_15 : Dl mM_share 15 0 16 := Or.inl ⟨0, by decide +kernel, rfl, rfl⟩
theorem dM_share_16 : Dv mM_share 16 .lstore_n .lstore 12 18 := Or.inr ⟨by decide +kernel, rfl⟩
theorem dM_share_18 : Dk mM_share 18 45 20 := Or.inr (Or.inl ⟨45, by decide +kernel, by decide +kernel, rfl⟩)
theorem dM_share_20 : Dv mM_share 20 .istore_n .istore 14 22 := Or.inr ⟨by decide +kernel, rfl⟩
theorem dM_share_22 : Dv mM_share 22 .iload_n .iload 14 24 := Or.inr ⟨by decide +kernel, rfl⟩
theorem dM_share_24 : Dj mM_share 24 (.ifCond .lt) 27 121 := ⟨97, by decide +kernel, rfl, rfl⟩
theorem dM_share_27 : Dl mM_share 27 2 30 := Or.inr ⟨172, by decide +kernel, tb4 213 rfl, rfl⟩
theorem dM_share_30 : Dv mM_share 30 .lload_n .lload 10 32 := Or.inr ⟨by decide +kernel, rfl⟩
theorem dM_share_32 : Dn mM_share 32 .lmul 1 33 := ⟨by decide +kernel, rfl⟩
theorem dM_share_33 : Dv mM_share 33 .lstore_n .lstore 10 35 := Or.inr ⟨by decide +kernel, rfl⟩
theorem dM_share_35 : Dl mM_share 35 2 38 := Or.inr ⟨172, by decide +kernel, tb4 213 rfl, rfl⟩
theorem dM_share_38 : Dv mM_share 38 .lload_n .lload 12 40 := Or.inr ⟨by decide +kernel, rfl⟩
theorem dM_share_40 : Dn mM_share 40 .lmul 1 41 := ⟨by decide +kernel, rfl⟩
theorem dM_share_41 : Dv mM_share 41 .lstore_n .lstore 12 43 := Or.inr ⟨by decide +kernel, rfl⟩
theorem dM_share_43 : Dv mM_share 43 .lload_n .lload 12 45 := Or.inr ⟨by decide +kernel, rfl⟩
theorem dM_share_45 : Dv mM_share 45 .lload_n .lload 4 47 := Or.inr ⟨by decide +kernel, rfl⟩
theorem dM_share_47 : Dn mM_share 47 .lcmp 1 48 := ⟨by decide +kernel, rfl⟩
theorem dM_share_48 : Dj mM_share 48 (.ifCond .lt) 51 64 := ⟨16, by decide +kernel, rfl, rfl⟩
theorem dM_share_51 : Dv mM_share 51 .lload_n .lload 12 53 := Or.inr ⟨by decide +kernel, rfl⟩
theorem dM_share_53 : Dv mM_share 53 .lload_n .lload 4 55 := Or.inr ⟨by decide +kernel, rfl⟩
theorem dM_share_55 : Dn mM_share 55 .lsub 1 56 := ⟨by decide +kernel, rfl⟩
theorem dM_share_56 : Dv mM_share 56 .lstore_n .lstore 12 58 := Or.inr ⟨by decide +kernel, rfl⟩
theorem dM_share_58 : Dv mM_share 58 .lload_n .lload 10 60 := Or.inr ⟨by decide +kernel, rfl⟩
theorem dM_share_60 : Dl mM_share 60 1 61 := Or.inl ⟨1, by decide +kernel, rfl, rfl⟩
theorem dM_share_61 : Dn mM_share 61 .ladd 1 62 := ⟨by decide +kernel, rfl⟩
theorem dM_share_62 : Dv mM_share 62 .lstore_n .lstore 10 64 := Or.inr ⟨by decide +kernel, rfl⟩
theorem dM_share_64 : Dv mM_share 64 .aload_n .aload 0 65 := Or.inl ⟨0, by decide +kernel, rfl, rfl⟩
theorem dM_share_65 : Df mM_share 65 .getfield 7 34 68 := ⟨99, ("EstateDeskModel", eT7, 37), by decide +kernel, rfl, rfl, by decide, rfl, Or.inl (tb3 221 rfl)⟩
theorem dM_share_68 : Dv mM_share 68 .iload_n .iload 1 69 := Or.inl ⟨1, by decide +kernel, rfl, rfl⟩
theorem dM_share_69 : Dn mM_share 69 .laload 1 70 := ⟨by decide +kernel, rfl⟩
theorem dM_share_70 : Dv mM_share 70 .iload_n .iload 14 72 := Or.inr ⟨by decide +kernel, rfl⟩
theorem dM_share_72 : Dn mM_share 72 .lshr 1 73 := ⟨by decide +kernel, rfl⟩
theorem dM_share_73 : Dl mM_share 73 1 74 := Or.inl ⟨1, by decide +kernel, rfl, rfl⟩
theorem dM_share_74 : Dn mM_share 74 .land 1 75 := ⟨by decide +kernel, rfl⟩
theorem dM_share_75 : Dl mM_share 75 1 76 := Or.inl ⟨1, by decide +kernel, rfl, rfl⟩
theorem dM_share_76 : Dn mM_share 76 .lcmp 1 77 := ⟨by decide +kernel, rfl⟩
theorem dM_share_77 : Dj mM_share 77 (.ifCond .ne) 80 115 := ⟨38, by decide +kernel, rfl, rfl⟩
theorem dM_share_80 : Dv mM_share 80 .lload_n .lload 10 82 := Or.inr ⟨by decide +kernel, rfl⟩
theorem dM_share_82 : Dv mM_share 82 .lload_n .lload 6 84 := Or.inr ⟨by decide +kernel, rfl⟩
theorem dM_share_84 : Dn mM_share 84 .ladd 1 85 := ⟨by decide +kernel, rfl⟩
theorem dM_share_85 : Dv mM_share 85 .lstore_n .lstore 10 87 := Or.inr ⟨by decide +kernel, rfl⟩
theorem dM_share_87 : Dv mM_share 87 .lload_n .lload 12 89 := Or.inr ⟨by decide +kernel, rfl⟩
theorem dM_share_89 : Dv mM_share 89 .lload_n .lload 8 91 := Or.inr ⟨by decide +kernel, rfl⟩
theorem dM_share_91 : Dn mM_share 91 .ladd 1 92 := ⟨by decide +kernel, rfl⟩
theorem dM_share_92 : Dv mM_share 92 .lstore_n .lstore 12 94 := Or.inr ⟨by decide +kernel, rfl⟩
theorem dM_share_94 : Dv mM_share 94 .lload_n .lload 12 96 := Or.inr ⟨by decide +kernel, rfl⟩
theorem dM_share_96 : Dv mM_share 96 .lload_n .lload 4 98 := Or.inr ⟨by decide +kernel, rfl⟩
theorem dM_share_98 : Dn mM_share 98 .lcmp 1 99 := ⟨by decide +kernel, rfl⟩
theorem dM_share_99 : Dj mM_share 99 (.ifCond .lt) 102 115 := ⟨16, by decide +kernel, rfl, rfl⟩
theorem dM_share_102 : Dv mM_share 102 .lload_n .lload 12 104 := Or.inr ⟨by decide +kernel, rfl⟩
theorem dM_share_104 : Dv mM_share 104 .lload_n .lload 4 106 := Or.inr ⟨by decide +kernel, rfl⟩
theorem dM_share_106 : Dn mM_share 106 .lsub 1 107 := ⟨by decide +kernel, rfl⟩
theorem dM_share_107 : Dv mM_share 107 .lstore_n .lstore 12 109 := Or.inr ⟨by decide +kernel, rfl⟩
theorem dM_share_109 : Dv mM_share 109 .lload_n .lload 10 111 := Or.inr ⟨by decide +kernel, rfl⟩
theorem dM_share_111 : Dl mM_share 111 1 112 := Or.inl ⟨1, by decide +kernel, rfl, rfl⟩
theorem dM_share_112 : Dn mM_share 112 .ladd 1 113 := ⟨by decide +kernel, rfl⟩
theorem dM_share_113 : Dv mM_share 113 .lstore_n .lstore 10 115 := Or.inr ⟨by decide +kernel, rfl⟩
theorem dM_share_115 : Dn mM_share 115 (.iinc 14 (-1)) 3 118 := ⟨by decide +kernel, rfl⟩
theorem dM_share_118 : Dj mM_share 118 .goto 121 22 := ⟨-96, by decide +kernel, rfl, rfl⟩
theorem dM_share_121 : Dv mM_share 121 .aload_n .aload 0 122 := Or.inl ⟨0, by decide +kernel, rfl, rfl⟩
theorem dM_share_122 : Df mM_share 122 .getfield 7 35 125 := ⟨102, ("EstateDeskModel", eT7, 37), by decide +kernel, rfl, rfl, by decide, rfl, Or.inl (tb3 222 rfl)⟩
theorem dM_share_125 : Dv mM_share 125 .iload_n .iload 1 126 := Or.inl ⟨1, by decide +kernel, rfl, rfl⟩
theorem dM_share_126 : Dv mM_share 126 .lload_n .lload 10 128 := Or.inr ⟨by decide +kernel, rfl⟩
theorem dM_share_128 : Dn mM_share 128 .lastore 1 129 := ⟨by decide +kernel, rfl⟩
theorem dM_share_129 : Dv mM_share 129 .aload_n .aload 0 130 := Or.inl ⟨0, by decide +kernel, rfl, rfl⟩
theorem dM_share_130 : Df mM_share 130 .getfield 7 36 133 := ⟨105, ("EstateDeskModel", eT7, 37), by decide +kernel, rfl, rfl, by decide, rfl, Or.inl (tb3 223 rfl)⟩
theorem dM_share_133 : Dv mM_share 133 .iload_n .iload 1 134 := Or.inl ⟨1, by decide +kernel, rfl, rfl⟩
theorem dM_share_134 : Dv mM_share 134 .aload_n .aload 0 135 := Or.inl ⟨0, by decide +kernel, rfl, rfl⟩
theorem dM_share_135 : Df mM_share 135 .getfield 7 34 138 := ⟨99, ("EstateDeskModel", eT7, 37), by decide +kernel, rfl, rfl, by decide, rfl, Or.inl (tb3 221 rfl)⟩
theorem dM_share_138 : Dv mM_share 138 .iload_n .iload 1 139 := Or.inl ⟨1, by decide +kernel, rfl, rfl⟩
theorem dM_share_139 : Dn mM_share 139 .laload 1 140 := ⟨by decide +kernel, rfl⟩
theorem dM_share_140 : Dl mM_share 140 0 141 := Or.inl ⟨0, by decide +kernel, rfl, rfl⟩
theorem dM_share_141 : Dn mM_share 141 .lcmp 1 142 := ⟨by decide +kernel, rfl⟩
theorem dM_share_142 : Dj mM_share 142 (.ifCond .le) 145 150 := ⟨8, by decide +kernel, rfl, rfl⟩
theorem dM_share_145 : Dv mM_share 145 .lload_n .lload 12 147 := Or.inr ⟨by decide +kernel, rfl⟩
theorem dM_share_147 : Dj mM_share 147 .goto 150 153 := ⟨6, by decide +kernel, rfl, rfl⟩
theorem dM_share_150 : Dl mM_share 150 (-1) 153 := Or.inr ⟨166, by decide +kernel, tb4 208 rfl, rfl⟩
theorem dM_share_153 : Dn mM_share 153 .lastore 1 154 := ⟨by decide +kernel, rfl⟩
theorem dM_share_154 : Dn mM_share 154 .return_ 1 155 := ⟨by decide +kernel, rfl⟩
theorem dM_outlived_0 : Dv mM_outlived 0 .aload_n .aload 0 1 := Or.inl ⟨0, by decide +kernel, rfl, rfl⟩
theorem dM_outlived_1 : Df mM_outlived 1 .getfield 7 5 4 := ⟨7, ("EstateDeskModel", eT7, 37), by decide +kernel, rfl, rfl, by decide, rfl, Or.inl (tb3 192 rfl)⟩
theorem dM_outlived_4 : Dv mM_outlived 4 .iload_n .iload 1 5 := Or.inl ⟨1, by decide +kernel, rfl, rfl⟩
theorem dM_outlived_5 : Dn mM_outlived 5 .iaload 1 6 := ⟨by decide +kernel, rfl⟩
theorem dM_outlived_6 : Dj mM_outlived 6 (.ifCond .eq) 9 22 := ⟨16, by decide +kernel, rfl, rfl⟩
theorem dM_outlived_9 : Dv mM_outlived 9 .aload_n .aload 0 10 := Or.inl ⟨0, by decide +kernel, rfl, rfl⟩
theorem dM_outlived_10 : Df mM_outlived 10 .getfield 7 5 13 := ⟨7, ("EstateDeskModel", eT7, 37), by decide +kernel, rfl, rfl, by decide, rfl, Or.inl (tb3 192 rfl)⟩
theorem dM_outlived_13 : Dv mM_outlived 13 .iload_n .iload 1 14 := Or.inl ⟨1, by decide +kernel, rfl, rfl⟩
theorem dM_outlived_14 : Dn mM_outlived 14 .iaload 1 15 := ⟨by decide +kernel, rfl⟩
theorem dM_outlived_15 : Dv mM_outlived 15 .aload_n .aload 0 16 := Or.inl ⟨0, by decide +kernel, rfl, rfl⟩
theorem dM_outlived_16 : Df mM_outlived 16 .getfield 7 1 19 := ⟨137, ("EstateDeskModel", eT7, 37), by decide +kernel, rfl, rfl, by decide, rfl, Or.inl (tb3 188 rfl)⟩
theorem dM_outlived_19 : Dj mM_outlived 19 (.if_icmp .le) 22 26 := ⟨7, by decide +kernel, rfl, rfl⟩
theorem dM_outlived_22 : Dk mM_outlived 22 1 23 := Or.inl ⟨1, by decide +kernel, rfl, rfl⟩
theorem dM_outlived_23 : Dj mM_outlived 23 .goto 26 27 := ⟨4, by decide +kernel, rfl, rfl⟩
theorem dM_outlived_26 : Dk mM_outlived 26 0 27 := Or.inl ⟨0, by decide +kernel, rfl, rfl⟩
theorem dM_outlived_27 : Dn mM_outlived 27 .ireturn 1 28 := ⟨by decide +kernel, rfl⟩
theorem dM_takerOf_0 : Dk mM_takerOf 0 1 1 := Or.inl ⟨1, by decide +kernel, rfl, rfl⟩
theorem dM_takerOf_1 : Dv mM_takerOf 1 .istore_n .istore 2 2 := Or.inl ⟨2, by decide +kernel, rfl, rfl⟩
theorem dM_takerOf_2 : Dv mM_takerOf 2 .iload_n .iload 2 3 := Or.inl ⟨2, by decide +kernel, rfl, rfl⟩
theorem dM_takerOf_3 : Dk mM_takerOf 3 5 4 := Or.inl ⟨5, by decide +kernel, rfl, rfl⟩
theorem dM_takerOf_4 : Dj mM_takerOf 4 (.if_icmp .ge) 7 38 := ⟨34, by decide +kernel, rfl, rfl⟩
theorem dM_takerOf_7 : Dv mM_takerOf 7 .aload_n .aload 0 8 := Or.inl ⟨0, by decide +kernel, rfl, rfl⟩
theorem dM_takerOf_8 : Df mM_takerOf 8 .getfield 7 15 11 := ⟨42, ("EstateDeskModel", eT7, 37), by decide +kernel, rfl, rfl, by decide, rfl, Or.inl (tb3 202 rfl)⟩
theorem dM_takerOf_11 : Dk mM_takerOf 11 5 12 := Or.inl ⟨5, by decide +kernel, rfl, rfl⟩
theorem dM_takerOf_12 : Dv mM_takerOf 12 .iload_n .iload 1 13 := Or.inl ⟨1, by decide +kernel, rfl, rfl⟩
theorem dM_takerOf_13 : Dn mM_takerOf 13 .imul 1 14 := ⟨by decide +kernel, rfl⟩
theorem dM_takerOf_14 : Dv mM_takerOf 14 .iload_n .iload 2 15 := Or.inl ⟨2, by decide +kernel, rfl, rfl⟩
theorem dM_takerOf_15 : Dn mM_takerOf 15 .iadd 1 16 := ⟨by decide +kernel, rfl⟩
theorem dM_takerOf_16 : Dn mM_takerOf 16 .iaload 1 17 := ⟨by decide +kernel, rfl⟩
theorem dM_takerOf_17 : Dv mM_takerOf 17 .istore_n .istore 3 18 := Or.inl ⟨3, by decide +kernel, rfl, rfl⟩
theorem dM_takerOf_18 : Dv mM_takerOf 18 .iload_n .iload 3 19 := Or.inl ⟨3, by decide +kernel, rfl, rfl⟩
theorem dM_takerOf_19 : Dj mM_takerOf 19 (.ifCond .le) 22 32 := ⟨13, by decide +kernel, rfl, rfl⟩
theorem dM_takerOf_22 : Dv mM_takerOf 22 .aload_n .aload 0 23 := Or.inl ⟨0, by decide +kernel, rfl, rfl⟩
theorem dM_takerOf_23 : Dv mM_takerOf 23 .iload_n .iload 3 24 := Or.inl ⟨3, by decide +kernel, rfl, rfl⟩
theorem dM_takerOf_24 : LkV mM_takerOf 24 27 mM_outlived := ⟨174, by decide +kernel, rfl, Or.inl (tb4 163 rfl), tb4 165 rfl, ts 26 rfl⟩
theorem dM_takerOf_27 : Dj mM_takerOf 27 (.ifCond .eq) 30 32 := ⟨5, by decide +kernel, rfl, rfl⟩
theorem dM_takerOf_30 : Dv mM_takerOf 30 .iload_n .iload 3 31 := Or.inl ⟨3, by decide +kernel, rfl, rfl⟩
theorem dM_takerOf_31 : Dn mM_takerOf 31 .ireturn 1 32 := ⟨by decide +kernel, rfl⟩
theorem dM_takerOf_32 : Dn mM_takerOf 32 (.iinc 2 1) 3 35 := ⟨by decide +kernel, rfl⟩
theorem dM_takerOf_35 : Dj mM_takerOf 35 .goto 38 2 := ⟨-33, by decide +kernel, rfl, rfl⟩
theorem dM_takerOf_38 : Dk mM_takerOf 38 0 39 := Or.inl ⟨0, by decide +kernel, rfl, rfl⟩
theorem dM_takerOf_39 : Dn mM_takerOf 39 .ireturn 1 40 := ⟨by decide +kernel, rfl⟩
theorem dM_table_0 : Dl mM_table 0 1000000 3 := Or.inr ⟨177, by decide +kernel, tb4 190 rfl, rfl⟩
theorem dM_table_3 : Dv mM_table 3 .lstore_n .lstore 3 4 := Or.inl ⟨3, by decide +kernel, rfl, rfl⟩
theorem dM_table_4 : Dl mM_table 4 0 5 := Or.inl ⟨0, by decide +kernel, rfl, rfl⟩
theorem dM_table_5 : Dv mM_table 5 .lstore_n .lstore 5 7 := Or.inr ⟨by decide +kernel, rfl⟩
theorem dM_table_7 : Dk mM_table 7 1 8 := Or.inl ⟨1, by decide +kernel, rfl, rfl⟩
theorem dM_table_8 : Dv mM_table 8 .istore_n .istore 7 10 := Or.inr ⟨by decide +kernel, rfl⟩
theorem dM_table_10 : Dv mM_table 10 .iload_n .iload 7 12 := Or.inr ⟨by decide +kernel, rfl⟩
theorem dM_table_12 : Dk mM_table 12 100 14 := Or.inr (Or.inl ⟨100, by decide +kernel, by decide +kernel, rfl⟩)
theorem dM_table_14 : Dv mM_table 14 .iload_n .iload 2 15 := Or.inl ⟨2, by decide +kernel, rfl, rfl⟩
theorem dM_table_15 : Dn mM_table 15 .isub 1 16 := ⟨by decide +kernel, rfl⟩
theorem dM_table_16 : Dj mM_table 16 (.if_icmp .gt) 19 41 := ⟨25, by decide +kernel, rfl, rfl⟩
theorem dM_table_19 : Dl mM_table 19 96 22 := Or.inr ⟨179, by decide +kernel, tb4 191 rfl, rfl⟩
theorem dM_table_22 : Dv mM_table 22 .lload_n .lload 3 23 := Or.inl ⟨3, by decide +kernel, rfl, rfl⟩
theorem dM_table_23 : Dn mM_table 23 .lmul 1 24 := ⟨by decide +kernel, rfl⟩
theorem dM_table_24 : Dl mM_table 24 100 27 := Or.inr ⟨181, by decide +kernel, tb4 192 rfl, rfl⟩
theorem dM_table_27 : Dn mM_table 27 .ldiv 1 28 := ⟨by decide +kernel, rfl⟩
theorem dM_table_28 : Dv mM_table 28 .lstore_n .lstore 3 29 := Or.inl ⟨3, by decide +kernel, rfl, rfl⟩
theorem dM_table_29 : Dv mM_table 29 .lload_n .lload 5 31 := Or.inr ⟨by decide +kernel, rfl⟩
theorem dM_table_31 : Dv mM_table 31 .lload_n .lload 3 32 := Or.inl ⟨3, by decide +kernel, rfl, rfl⟩
theorem dM_table_32 : Dn mM_table 32 .ladd 1 33 := ⟨by decide +kernel, rfl⟩
theorem dM_table_33 : Dv mM_table 33 .lstore_n .lstore 5 35 := Or.inr ⟨by decide +kernel, rfl⟩
theorem dM_table_35 : Dn mM_table 35 (.iinc 7 1) 3 38 := ⟨by decide +kernel, rfl⟩
theorem dM_table_38 : Dj mM_table 38 .goto 41 10 := ⟨-28, by decide +kernel, rfl, rfl⟩
theorem dM_table_41 : Dv mM_table 41 .lload_n .lload 0 42 := Or.inl ⟨0, by decide +kernel, rfl, rfl⟩
theorem dM_table_42 : Dv mM_table 42 .lload_n .lload 5 44 := Or.inr ⟨by decide +kernel, rfl⟩
theorem dM_table_44 : Dn mM_table 44 .lmul 1 45 := ⟨by decide +kernel, rfl⟩
theorem dM_table_45 : Dl mM_table 45 1000000 48 := Or.inr ⟨177, by decide +kernel, tb4 190 rfl, rfl⟩
theorem dM_table_48 : Dn mM_table 48 .ldiv 1 49 := ⟨by decide +kernel, rfl⟩
theorem dM_table_49 : Dn mM_table 49 .lreturn 1 50 := ⟨by decide +kernel, rfl⟩
theorem dM_findStates_0 : Dk mM_findStates 0 1 1 := Or.inl ⟨1, by decide +kernel, rfl, rfl⟩
theorem dM_findStates_1 : Dv mM_findStates 1 .istore_n .istore 1 2 := Or.inl ⟨1, by decide +kernel, rfl, rfl⟩
theorem dM_findStates_2 : Dv mM_findStates 2 .iload_n .iload 1 3 := Or.inl ⟨1, by decide +kernel, rfl, rfl⟩
theorem dM_findStates_3 : Dk mM_findStates 3 41 5 := Or.inr (Or.inl ⟨41, by decide +kernel, by decide +kernel, rfl⟩)
theorem dM_findStates_5 : Dj mM_findStates 5 (.if_icmp .ge) 8 131 := ⟨126, by decide +kernel, rfl, rfl⟩
theorem dM_findStates_8 : Dv mM_findStates 8 .aload_n .aload 0 9 := Or.inl ⟨0, by decide +kernel, rfl, rfl⟩
theorem dM_findStates_9 : Df mM_findStates 9 .getfield 7 20 12 := ⟨57, ("EstateDeskModel", eT7, 37), by decide +kernel, rfl, rfl, by decide, rfl, Or.inl (tb3 207 rfl)⟩
theorem dM_findStates_12 : Dv mM_findStates 12 .iload_n .iload 1 13 := Or.inl ⟨1, by decide +kernel, rfl, rfl⟩
theorem dM_findStates_13 : Dv mM_findStates 13 .aload_n .aload 0 14 := Or.inl ⟨0, by decide +kernel, rfl, rfl⟩
theorem dM_findStates_14 : Dv mM_findStates 14 .iload_n .iload 1 15 := Or.inl ⟨1, by decide +kernel, rfl, rfl⟩
theorem dM_findStates_15 : LkV mM_findStates 15 18 mM_takerOf := ⟨183, by decide +kernel, rfl, Or.inl (tb4 159 rfl), tb4 161 rfl, ts 25 rfl⟩
theorem dM_findStates_18 : Dn mM_findStates 18 .iastore 1 19 := ⟨by decide +kernel, rfl⟩
theorem dM_findStates_19 : Dv mM_findStates 19 .aload_n .aload 0 20 := Or.inl ⟨0, by decide +kernel, rfl, rfl⟩
theorem dM_findStates_20 : Df mM_findStates 20 .getfield 7 20 23 := ⟨57, ("EstateDeskModel", eT7, 37), by decide +kernel, rfl, rfl, by decide, rfl, Or.inl (tb3 207 rfl)⟩
theorem dM_findStates_23 : Dv mM_findStates 23 .iload_n .iload 1 24 := Or.inl ⟨1, by decide +kernel, rfl, rfl⟩
theorem dM_findStates_24 : Dn mM_findStates 24 .iaload 1 25 := ⟨by decide +kernel, rfl⟩
theorem dM_findStates_25 : Dj mM_findStates 25 (.ifCond .ne) 28 32 := ⟨7, by decide +kernel, rfl, rfl⟩
theorem dM_findStates_28 : Dk mM_findStates 28 1 29 := Or.inl ⟨1, by decide +kernel, rfl, rfl⟩
theorem dM_findStates_29 : Dj mM_findStates 29 .goto 32 33 := ⟨4, by decide +kernel, rfl, rfl⟩
theorem dM_findStates_32 : Dk mM_findStates 32 0 33 := Or.inl ⟨0, by decide +kernel, rfl, rfl⟩
theorem dM_findStates_33 : Dv mM_findStates 33 .istore_n .istore 2 34 := Or.inl ⟨2, by decide +kernel, rfl, rfl⟩
theorem dM_findStates_34 : Dv mM_findStates 34 .aload_n .aload 0 35 := Or.inl ⟨0, by decide +kernel, rfl, rfl⟩
theorem dM_findStates_35 : Df mM_findStates 35 .getfield 7 19 38 := ⟨54, ("EstateDeskModel", eT7, 37), by decide +kernel, rfl, rfl, by decide, rfl, Or.inl (tb3 206 rfl)⟩
theorem dM_findStates_38 : Dv mM_findStates 38 .iload_n .iload 1 39 := Or.inl ⟨1, by decide +kernel, rfl, rfl⟩
theorem dM_findStates_39 : Dv mM_findStates 39 .aload_n .aload 0 40 := Or.inl ⟨0, by decide +kernel, rfl, rfl⟩
theorem dM_findStates_40 : Df mM_findStates 40 .getfield 7 10 43 := ⟨27, ("EstateDeskModel", eT7, 37), by decide +kernel, rfl, rfl, by decide, rfl, Or.inl (tb3 197 rfl)⟩
theorem dM_findStates_43 : Dv mM_findStates 43 .iload_n .iload 1 44 := Or.inl ⟨1, by decide +kernel, rfl, rfl⟩
theorem dM_findStates_44 : Dn mM_findStates 44 .iaload 1 45 := ⟨by decide +kernel, rfl⟩
theorem dM_findStates_45 : Dj mM_findStates 45 (.ifCond .ne) 48 52 := ⟨7, by decide +kernel, rfl, rfl⟩
theorem dM_findStates_48 : Dk mM_findStates 48 (-1) 49 := Or.inl ⟨-1, by decide +kernel, rfl, rfl⟩
theorem dM_findStates_49 : Dj mM_findStates 49 .goto 52 89 := ⟨40, by decide +kernel, rfl, rfl⟩
theorem dM_findStates_52 : Dv mM_findStates 52 .iload_n .iload 2 53 := Or.inl ⟨2, by decide +kernel, rfl, rfl⟩
theorem dM_findStates_53 : Dj mM_findStates 53 (.ifCond .eq) 56 60 := ⟨7, by decide +kernel, rfl, rfl⟩
theorem dM_findStates_56 : Dk mM_findStates 56 1 57 := Or.inl ⟨1, by decide +kernel, rfl, rfl⟩
theorem dM_findStates_57 : Dj mM_findStates 57 .goto 60 89 := ⟨32, by decide +kernel, rfl, rfl⟩
theorem dM_findStates_60 : Dv mM_findStates 60 .aload_n .aload 0 61 := Or.inl ⟨0, by decide +kernel, rfl, rfl⟩
theorem dM_findStates_61 : Df mM_findStates 61 .getfield 7 10 64 := ⟨27, ("EstateDeskModel", eT7, 37), by decide +kernel, rfl, rfl, by decide, rfl, Or.inl (tb3 197 rfl)⟩
theorem dM_findStates_64 : Dv mM_findStates 64 .iload_n .iload 1 65 := Or.inl ⟨1, by decide +kernel, rfl, rfl⟩
theorem dM_findStates_65 : Dn mM_findStates 65 .iaload 1 66 := ⟨by decide +kernel, rfl⟩
theorem dM_findStates_66 : Dk mM_findStates 66 1 67 := Or.inl ⟨1, by decide +kernel, rfl, rfl⟩
theorem dM_findStates_67 : Dj mM_findStates 67 (.if_icmp .ne) 70 88 := ⟨21, by decide +kernel, rfl, rfl⟩
theorem dM_findStates_70 : Dv mM_findStates 70 .aload_n .aload 0 71 := Or.inl ⟨0, by decide +kernel, rfl, rfl⟩
theorem dM_findStates_71 : Df mM_findStates 71 .getfield 7 9 74 := ⟨24, ("EstateDeskModel", eT7, 37), by decide +kernel, rfl, rfl, by decide, rfl, Or.inl (tb3 196 rfl)⟩
theorem dM_findStates_74 : Dv mM_findStates 74 .aload_n .aload 0 75 := Or.inl ⟨0, by decide +kernel, rfl, rfl⟩
theorem dM_findStates_75 : Df mM_findStates 75 .getfield 7 11 78 := ⟨30, ("EstateDeskModel", eT7, 37), by decide +kernel, rfl, rfl, by decide, rfl, Or.inl (tb3 198 rfl)⟩
theorem dM_findStates_78 : Dv mM_findStates 78 .iload_n .iload 1 79 := Or.inl ⟨1, by decide +kernel, rfl, rfl⟩
theorem dM_findStates_79 : Dn mM_findStates 79 .iaload 1 80 := ⟨by decide +kernel, rfl⟩
theorem dM_findStates_80 : Dn mM_findStates 80 .baload 1 81 := ⟨by decide +kernel, rfl⟩
theorem dM_findStates_81 : Dj mM_findStates 81 (.ifCond .eq) 84 88 := ⟨7, by decide +kernel, rfl, rfl⟩
theorem dM_findStates_84 : Dk mM_findStates 84 2 85 := Or.inl ⟨2, by decide +kernel, rfl, rfl⟩
theorem dM_findStates_85 : Dj mM_findStates 85 .goto 88 89 := ⟨4, by decide +kernel, rfl, rfl⟩
theorem dM_findStates_88 : Dk mM_findStates 88 0 89 := Or.inl ⟨0, by decide +kernel, rfl, rfl⟩
theorem dM_findStates_89 : Dn mM_findStates 89 .iastore 1 90 := ⟨by decide +kernel, rfl⟩
theorem dM_findStates_90 : Dv mM_findStates 90 .aload_n .aload 0 91 := Or.inl ⟨0, by decide +kernel, rfl, rfl⟩
theorem dM_findStates_91 : Df mM_findStates 91 .getfield 7 21 94 := ⟨60, ("EstateDeskModel", eT7, 37), by decide +kernel, rfl, rfl, by decide, rfl, Or.inl (tb3 208 rfl)⟩
theorem dM_findStates_94 : Dv mM_findStates 94 .iload_n .iload 1 95 := Or.inl ⟨1, by decide +kernel, rfl, rfl⟩
theorem dM_findStates_95 : Dl mM_findStates 95 0 96 := Or.inl ⟨0, by decide +kernel, rfl, rfl⟩
theorem dM_findStates_96 : Dn mM_findStates 96 .lastore 1 97 := ⟨by decide +kernel, rfl⟩
theorem dM_findStates_97 : Dv mM_findStates 97 .aload_n .aload 0 98 := Or.inl ⟨0, by decide +kernel, rfl, rfl⟩
theorem dM_findStates_98 : Df mM_findStates 98 .getfield 7 22 101 := ⟨63, ("EstateDeskModel", eT7, 37), by decide +kernel, rfl, rfl, by decide, rfl, Or.inl (tb3 209 rfl)⟩
theorem dM_findStates_101 : Dv mM_findStates 101 .iload_n .iload 1 102 := Or.inl ⟨1, by decide +kernel, rfl, rfl⟩
theorem dM_findStates_102 : Dl mM_findStates 102 0 103 := Or.inl ⟨0, by decide +kernel, rfl, rfl⟩
theorem dM_findStates_103 : Dn mM_findStates 103 .lastore 1 104 := ⟨by decide +kernel, rfl⟩
theorem dM_findStates_104 : Dv mM_findStates 104 .aload_n .aload 0 105 := Or.inl ⟨0, by decide +kernel, rfl, rfl⟩
theorem dM_findStates_105 : Df mM_findStates 105 .getfield 7 23 108 := ⟨66, ("EstateDeskModel", eT7, 37), by decide +kernel, rfl, rfl, by decide, rfl, Or.inl (tb3 210 rfl)⟩
theorem dM_findStates_108 : Dv mM_findStates 108 .iload_n .iload 1 109 := Or.inl ⟨1, by decide +kernel, rfl, rfl⟩
theorem dM_findStates_109 : Dl mM_findStates 109 0 110 := Or.inl ⟨0, by decide +kernel, rfl, rfl⟩
theorem dM_findStates_110 : Dn mM_findStates 110 .lastore 1 111 := ⟨by decide +kernel, rfl⟩
theorem dM_findStates_111 : Dv mM_findStates 111 .aload_n .aload 0 112 := Or.inl ⟨0, by decide +kernel, rfl, rfl⟩
theorem dM_findStates_112 : Df mM_findStates 112 .getfield 7 24 115 := ⟨69, ("EstateDeskModel", eT7, 37), by decide +kernel, rfl, rfl, by decide, rfl, Or.inl (tb3 211 rfl)⟩
theorem dM_findStates_115 : Dv mM_findStates 115 .iload_n .iload 1 116 := Or.inl ⟨1, by decide +kernel, rfl, rfl⟩
theorem dM_findStates_116 : Dl mM_findStates 116 0 117 := Or.inl ⟨0, by decide +kernel, rfl, rfl⟩
theorem dM_findStates_117 : Dn mM_findStates 117 .lastore 1 118 := ⟨by decide +kernel, rfl⟩
theorem dM_findStates_118 : Dv mM_findStates 118 .aload_n .aload 0 119 := Or.inl ⟨0, by decide +kernel, rfl, rfl⟩
theorem dM_findStates_119 : Df mM_findStates 119 .getfield 7 25 122 := ⟨72, ("EstateDeskModel", eT7, 37), by decide +kernel, rfl, rfl, by decide, rfl, Or.inl (tb3 212 rfl)⟩
theorem dM_findStates_122 : Dv mM_findStates 122 .iload_n .iload 1 123 := Or.inl ⟨1, by decide +kernel, rfl, rfl⟩
theorem dM_findStates_123 : Dl mM_findStates 123 0 124 := Or.inl ⟨0, by decide +kernel, rfl, rfl⟩
theorem dM_findStates_124 : Dn mM_findStates 124 .lastore 1 125 := ⟨by decide +kernel, rfl⟩
theorem dM_findStates_125 : Dn mM_findStates 125 (.iinc 1 1) 3 128 := ⟨by decide +kernel, rfl⟩
theorem dM_findStates_128 : Dj mM_findStates 128 .goto 131 2 := ⟨-126, by decide +kernel, rfl, rfl⟩
theorem dM_findStates_131 : Dn mM_findStates 131 .return_ 1 132 := ⟨by decide +kernel, rfl⟩
theorem dM_isGood_0 : Dv mM_isGood 0 .aload_n .aload 0 1 := Or.inl ⟨0, by decide +kernel, rfl, rfl⟩
theorem dM_isGood_1 : Df mM_isGood 1 .getfield 7 10 4 := ⟨27, ("EstateDeskModel", eT7, 37), by decide +kernel, rfl, rfl, by decide, rfl, Or.inl (tb3 197 rfl)⟩
theorem dM_isGood_4 : Dv mM_isGood 4 .iload_n .iload 1 5 := Or.inl ⟨1, by decide +kernel, rfl, rfl⟩
theorem dM_isGood_5 : Dn mM_isGood 5 .iaload 1 6 := ⟨by decide +kernel, rfl⟩
theorem dM_isGood_6 : Dv mM_isGood 6 .iload_n .iload 2 7 := Or.inl ⟨2, by decide +kernel, rfl, rfl⟩
theorem dM_isGood_7 : Dj mM_isGood 7 (.if_icmp .ne) 10 23 := ⟨16, by decide +kernel, rfl, rfl⟩
theorem dM_isGood_10 : Dv mM_isGood 10 .aload_n .aload 0 11 := Or.inl ⟨0, by decide +kernel, rfl, rfl⟩
theorem dM_isGood_11 : Df mM_isGood 11 .getfield 7 19 14 := ⟨54, ("EstateDeskModel", eT7, 37), by decide +kernel, rfl, rfl, by decide, rfl, Or.inl (tb3 206 rfl)⟩
theorem dM_isGood_14 : Dv mM_isGood 14 .iload_n .iload 1 15 := Or.inl ⟨1, by decide +kernel, rfl, rfl⟩
theorem dM_isGood_15 : Dn mM_isGood 15 .iaload 1 16 := ⟨by decide +kernel, rfl⟩
theorem dM_isGood_16 : Dj mM_isGood 16 (.ifCond .ne) 19 23 := ⟨7, by decide +kernel, rfl, rfl⟩
theorem dM_isGood_19 : Dk mM_isGood 19 1 20 := Or.inl ⟨1, by decide +kernel, rfl, rfl⟩
theorem dM_isGood_20 : Dj mM_isGood 20 .goto 23 24 := ⟨4, by decide +kernel, rfl, rfl⟩
theorem dM_isGood_23 : Dk mM_isGood 23 0 24 := Or.inl ⟨0, by decide +kernel, rfl, rfl⟩
theorem dM_isGood_24 : Dn mM_isGood 24 .ireturn 1 25 := ⟨by decide +kernel, rfl⟩
theorem dM_giftOf_0 : Dk mM_giftOf 0 0 1 := Or.inl ⟨0, by decide +kernel, rfl, rfl⟩
theorem dM_giftOf_1 : Dv mM_giftOf 1 .istore_n .istore 2 2 := Or.inl ⟨2, by decide +kernel, rfl, rfl⟩
theorem dM_giftOf_2 : Dk mM_giftOf 2 1 3 := Or.inl ⟨1, by decide +kernel, rfl, rfl⟩
theorem dM_giftOf_3 : Dv mM_giftOf 3 .istore_n .istore 3 4 := Or.inl ⟨3, by decide +kernel, rfl, rfl⟩
theorem dM_giftOf_4 : Dv mM_giftOf 4 .iload_n .iload 3 5 := Or.inl ⟨3, by decide +kernel, rfl, rfl⟩
theorem dM_giftOf_5 : Dk mM_giftOf 5 41 7 := Or.inr (Or.inl ⟨41, by decide +kernel, by decide +kernel, rfl⟩)
theorem dM_giftOf_7 : Dj mM_giftOf 7 (.if_icmp .ge) 10 45 := ⟨38, by decide +kernel, rfl, rfl⟩
theorem dM_giftOf_10 : Dv mM_giftOf 10 .aload_n .aload 0 11 := Or.inl ⟨0, by decide +kernel, rfl, rfl⟩
theorem dM_giftOf_11 : Dv mM_giftOf 11 .iload_n .iload 3 12 := Or.inl ⟨3, by decide +kernel, rfl, rfl⟩
theorem dM_giftOf_12 : Dk mM_giftOf 12 1 13 := Or.inl ⟨1, by decide +kernel, rfl, rfl⟩
theorem dM_giftOf_13 : LkV mM_giftOf 13 16 mM_isGood := ⟨187, by decide +kernel, rfl, Or.inl (tb4 175 rfl), tb4 177 rfl, ts 29 rfl⟩
theorem dM_giftOf_16 : Dj mM_giftOf 16 (.ifCond .eq) 19 37 := ⟨21, by decide +kernel, rfl, rfl⟩
theorem dM_giftOf_19 : Dv mM_giftOf 19 .aload_n .aload 0 20 := Or.inl ⟨0, by decide +kernel, rfl, rfl⟩
theorem dM_giftOf_20 : Df mM_giftOf 20 .getfield 7 11 23 := ⟨30, ("EstateDeskModel", eT7, 37), by decide +kernel, rfl, rfl, by decide, rfl, Or.inl (tb3 198 rfl)⟩
theorem dM_giftOf_23 : Dv mM_giftOf 23 .iload_n .iload 3 24 := Or.inl ⟨3, by decide +kernel, rfl, rfl⟩
theorem dM_giftOf_24 : Dn mM_giftOf 24 .iaload 1 25 := ⟨by decide +kernel, rfl⟩
theorem dM_giftOf_25 : Dv mM_giftOf 25 .iload_n .iload 1 26 := Or.inl ⟨1, by decide +kernel, rfl, rfl⟩
theorem dM_giftOf_26 : Dj mM_giftOf 26 (.if_icmp .ne) 29 37 := ⟨11, by decide +kernel, rfl, rfl⟩
theorem dM_giftOf_29 : Dv mM_giftOf 29 .iload_n .iload 1 30 := Or.inl ⟨1, by decide +kernel, rfl, rfl⟩
theorem dM_giftOf_30 : Dj mM_giftOf 30 (.ifCond .le) 33 37 := ⟨7, by decide +kernel, rfl, rfl⟩
theorem dM_giftOf_33 : Dv mM_giftOf 33 .iload_n .iload 3 34 := Or.inl ⟨3, by decide +kernel, rfl, rfl⟩
theorem dM_giftOf_34 : Dj mM_giftOf 34 .goto 37 38 := ⟨4, by decide +kernel, rfl, rfl⟩
theorem dM_giftOf_37 : Dv mM_giftOf 37 .iload_n .iload 2 38 := Or.inl ⟨2, by decide +kernel, rfl, rfl⟩
theorem dM_giftOf_38 : Dv mM_giftOf 38 .istore_n .istore 2 39 := Or.inl ⟨2, by decide +kernel, rfl, rfl⟩
theorem dM_giftOf_39 : Dn mM_giftOf 39 (.iinc 3 1) 3 42 := ⟨by decide +kernel, rfl⟩
theorem dM_giftOf_42 : Dj mM_giftOf 42 .goto 45 4 := ⟨-38, by decide +kernel, rfl, rfl⟩
theorem dM_giftOf_45 : Dv mM_giftOf 45 .iload_n .iload 2 46 := Or.inl ⟨2, by decide +kernel, rfl, rfl⟩
theorem dM_giftOf_46 : Dn mM_giftOf 46 .ireturn 1 47 := ⟨by decide +kernel, rfl⟩
end
section
theorem dM_findOwn_0 : Dk mM_findOwn 0 1 1 := Or.inl ⟨1, by decide +kernel, rfl, rfl⟩
theorem dM_findOwn_1 : Dv mM_findOwn 1 .istore_n .istore 1 2 := Or.inl ⟨1, by decide +kernel, rfl, rfl⟩
theorem dM_findOwn_2 : Dv mM_findOwn 2 .iload_n .iload 1 3 := Or.inl ⟨1, by decide +kernel, rfl, rfl⟩
theorem dM_findOwn_3 : Dk mM_findOwn 3 41 5 := Or.inr (Or.inl ⟨41, by decide +kernel, by decide +kernel, rfl⟩)
theorem dM_findOwn_5 : Dj mM_findOwn 5 (.if_icmp .ge) 8 199 := ⟨194, by decide +kernel, rfl, rfl⟩
theorem dM_findOwn_8 : Dv mM_findOwn 8 .aload_n .aload 0 9 := Or.inl ⟨0, by decide +kernel, rfl, rfl⟩
theorem dM_findOwn_9 : Df mM_findOwn 9 .getfield 7 16 12 := ⟨45, ("EstateDeskModel", eT7, 37), by decide +kernel, rfl, rfl, by decide, rfl, Or.inl (tb3 203 rfl)⟩
theorem dM_findOwn_12 : Dv mM_findOwn 12 .iload_n .iload 1 13 := Or.inl ⟨1, by decide +kernel, rfl, rfl⟩
theorem dM_findOwn_13 : Dn mM_findOwn 13 .baload 1 14 := ⟨by decide +kernel, rfl⟩
theorem dM_findOwn_14 : Dj mM_findOwn 14 (.ifCond .eq) 17 30 := ⟨16, by decide +kernel, rfl, rfl⟩
theorem dM_findOwn_17 : Dv mM_findOwn 17 .aload_n .aload 0 18 := Or.inl ⟨0, by decide +kernel, rfl, rfl⟩
theorem dM_findOwn_18 : Dv mM_findOwn 18 .aload_n .aload 0 19 := Or.inl ⟨0, by decide +kernel, rfl, rfl⟩
theorem dM_findOwn_19 : Df mM_findOwn 19 .getfield 7 18 22 := ⟨51, ("EstateDeskModel", eT7, 37), by decide +kernel, rfl, rfl, by decide, rfl, Or.inl (tb3 205 rfl)⟩
theorem dM_findOwn_22 : Dv mM_findOwn 22 .iload_n .iload 1 23 := Or.inl ⟨1, by decide +kernel, rfl, rfl⟩
theorem dM_findOwn_23 : Dn mM_findOwn 23 .iaload 1 24 := ⟨by decide +kernel, rfl⟩
theorem dM_findOwn_24 : LkV mM_findOwn 24 27 mM_giftOf := ⟨191, by decide +kernel, rfl, Or.inl (tb4 171 rfl), tb4 173 rfl, ts 28 rfl⟩
theorem dM_findOwn_27 : Dj mM_findOwn 27 .goto 30 31 := ⟨4, by decide +kernel, rfl, rfl⟩
theorem dM_findOwn_30 : Dk mM_findOwn 30 0 31 := Or.inl ⟨0, by decide +kernel, rfl, rfl⟩
theorem dM_findOwn_31 : Dv mM_findOwn 31 .istore_n .istore 2 32 := Or.inl ⟨2, by decide +kernel, rfl, rfl⟩
theorem dM_findOwn_32 : Dl mM_findOwn 32 0 33 := Or.inl ⟨0, by decide +kernel, rfl, rfl⟩
theorem dM_findOwn_33 : Dv mM_findOwn 33 .lstore_n .lstore 3 34 := Or.inl ⟨3, by decide +kernel, rfl, rfl⟩
theorem dM_findOwn_34 : Dk mM_findOwn 34 1 35 := Or.inl ⟨1, by decide +kernel, rfl, rfl⟩
theorem dM_findOwn_35 : Dv mM_findOwn 35 .istore_n .istore 5 37 := Or.inr ⟨by decide +kernel, rfl⟩
theorem dM_findOwn_37 : Dv mM_findOwn 37 .iload_n .iload 5 39 := Or.inr ⟨by decide +kernel, rfl⟩
theorem dM_findOwn_39 : Dv mM_findOwn 39 .iload_n .iload 1 40 := Or.inl ⟨1, by decide +kernel, rfl, rfl⟩
theorem dM_findOwn_40 : Dj mM_findOwn 40 (.if_icmp .ge) 43 89 := ⟨49, by decide +kernel, rfl, rfl⟩
theorem dM_findOwn_43 : Dv mM_findOwn 43 .aload_n .aload 0 44 := Or.inl ⟨0, by decide +kernel, rfl, rfl⟩
theorem dM_findOwn_44 : Df mM_findOwn 44 .getfield 7 16 47 := ⟨45, ("EstateDeskModel", eT7, 37), by decide +kernel, rfl, rfl, by decide, rfl, Or.inl (tb3 203 rfl)⟩
theorem dM_findOwn_47 : Dv mM_findOwn 47 .iload_n .iload 5 49 := Or.inr ⟨by decide +kernel, rfl⟩
theorem dM_findOwn_49 : Dn mM_findOwn 49 .baload 1 50 := ⟨by decide +kernel, rfl⟩
theorem dM_findOwn_50 : Dj mM_findOwn 50 (.ifCond .eq) 53 81 := ⟨31, by decide +kernel, rfl, rfl⟩
theorem dM_findOwn_53 : Dv mM_findOwn 53 .aload_n .aload 0 54 := Or.inl ⟨0, by decide +kernel, rfl, rfl⟩
theorem dM_findOwn_54 : Df mM_findOwn 54 .getfield 7 18 57 := ⟨51, ("EstateDeskModel", eT7, 37), by decide +kernel, rfl, rfl, by decide, rfl, Or.inl (tb3 205 rfl)⟩
theorem dM_findOwn_57 : Dv mM_findOwn 57 .iload_n .iload 5 59 := Or.inr ⟨by decide +kernel, rfl⟩
theorem dM_findOwn_59 : Dn mM_findOwn 59 .iaload 1 60 := ⟨by decide +kernel, rfl⟩
theorem dM_findOwn_60 : Dv mM_findOwn 60 .aload_n .aload 0 61 := Or.inl ⟨0, by decide +kernel, rfl, rfl⟩
theorem dM_findOwn_61 : Df mM_findOwn 61 .getfield 7 18 64 := ⟨51, ("EstateDeskModel", eT7, 37), by decide +kernel, rfl, rfl, by decide, rfl, Or.inl (tb3 205 rfl)⟩
theorem dM_findOwn_64 : Dv mM_findOwn 64 .iload_n .iload 1 65 := Or.inl ⟨1, by decide +kernel, rfl, rfl⟩
theorem dM_findOwn_65 : Dn mM_findOwn 65 .iaload 1 66 := ⟨by decide +kernel, rfl⟩
theorem dM_findOwn_66 : Dj mM_findOwn 66 (.if_icmp .ne) 69 81 := ⟨15, by decide +kernel, rfl, rfl⟩
theorem dM_findOwn_69 : Dv mM_findOwn 69 .lload_n .lload 3 70 := Or.inl ⟨3, by decide +kernel, rfl, rfl⟩
theorem dM_findOwn_70 : Dv mM_findOwn 70 .aload_n .aload 0 71 := Or.inl ⟨0, by decide +kernel, rfl, rfl⟩
theorem dM_findOwn_71 : Df mM_findOwn 71 .getfield 7 17 74 := ⟨48, ("EstateDeskModel", eT7, 37), by decide +kernel, rfl, rfl, by decide, rfl, Or.inl (tb3 204 rfl)⟩
theorem dM_findOwn_74 : Dv mM_findOwn 74 .iload_n .iload 5 76 := Or.inr ⟨by decide +kernel, rfl⟩
theorem dM_findOwn_76 : Dn mM_findOwn 76 .laload 1 77 := ⟨by decide +kernel, rfl⟩
theorem dM_findOwn_77 : Dn mM_findOwn 77 .ladd 1 78 := ⟨by decide +kernel, rfl⟩
theorem dM_findOwn_78 : Dj mM_findOwn 78 .goto 81 82 := ⟨4, by decide +kernel, rfl, rfl⟩
theorem dM_findOwn_81 : Dv mM_findOwn 81 .lload_n .lload 3 82 := Or.inl ⟨3, by decide +kernel, rfl, rfl⟩
theorem dM_findOwn_82 : Dv mM_findOwn 82 .lstore_n .lstore 3 83 := Or.inl ⟨3, by decide +kernel, rfl, rfl⟩
theorem dM_findOwn_83 : Dn mM_findOwn 83 (.iinc 5 1) 3 86 := ⟨by decide +kernel, rfl⟩
theorem dM_findOwn_86 : Dj mM_findOwn 86 .goto 89 37 := ⟨-49, by decide +kernel, rfl, rfl⟩
theorem dM_findOwn_89 : Dv mM_findOwn 89 .iload_n .iload 2 90 := Or.inl ⟨2, by decide +kernel, rfl, rfl⟩
theorem dM_findOwn_90 : Dj mM_findOwn 90 (.ifCond .le) 93 118 := ⟨28, by decide +kernel, rfl, rfl⟩
theorem dM_findOwn_93 : Dv mM_findOwn 93 .aload_n .aload 0 94 := Or.inl ⟨0, by decide +kernel, rfl, rfl⟩
theorem dM_findOwn_94 : Df mM_findOwn 94 .getfield 7 14 97 := ⟨39, ("EstateDeskModel", eT7, 37), by decide +kernel, rfl, rfl, by decide, rfl, Or.inl (tb3 201 rfl)⟩
theorem dM_findOwn_97 : Dv mM_findOwn 97 .iload_n .iload 2 98 := Or.inl ⟨2, by decide +kernel, rfl, rfl⟩
theorem dM_findOwn_98 : Dn mM_findOwn 98 .baload 1 99 := ⟨by decide +kernel, rfl⟩
theorem dM_findOwn_99 : Dj mM_findOwn 99 (.ifCond .eq) 102 118 := ⟨19, by decide +kernel, rfl, rfl⟩
theorem dM_findOwn_102 : Dv mM_findOwn 102 .aload_n .aload 0 103 := Or.inl ⟨0, by decide +kernel, rfl, rfl⟩
theorem dM_findOwn_103 : Df mM_findOwn 103 .getfield 7 7 106 := ⟨17, ("EstateDeskModel", eT7, 37), by decide +kernel, rfl, rfl, by decide, rfl, Or.inl (tb3 194 rfl)⟩
theorem dM_findOwn_106 : Dv mM_findOwn 106 .aload_n .aload 0 107 := Or.inl ⟨0, by decide +kernel, rfl, rfl⟩
theorem dM_findOwn_107 : Df mM_findOwn 107 .getfield 7 11 110 := ⟨30, ("EstateDeskModel", eT7, 37), by decide +kernel, rfl, rfl, by decide, rfl, Or.inl (tb3 198 rfl)⟩
theorem dM_findOwn_110 : Dv mM_findOwn 110 .iload_n .iload 2 111 := Or.inl ⟨2, by decide +kernel, rfl, rfl⟩
theorem dM_findOwn_111 : Dn mM_findOwn 111 .iaload 1 112 := ⟨by decide +kernel, rfl⟩
theorem dM_findOwn_112 : Dn mM_findOwn 112 .laload 1 113 := ⟨by decide +kernel, rfl⟩
theorem dM_findOwn_113 : Dv mM_findOwn 113 .lload_n .lload 3 114 := Or.inl ⟨3, by decide +kernel, rfl, rfl⟩
theorem dM_findOwn_114 : Dn mM_findOwn 114 .lsub 1 115 := ⟨by decide +kernel, rfl⟩
theorem dM_findOwn_115 : Dj mM_findOwn 115 .goto 118 119 := ⟨4, by decide +kernel, rfl, rfl⟩
theorem dM_findOwn_118 : Dl mM_findOwn 118 0 119 := Or.inl ⟨0, by decide +kernel, rfl, rfl⟩
theorem dM_findOwn_119 : Dv mM_findOwn 119 .lstore_n .lstore 5 121 := Or.inr ⟨by decide +kernel, rfl⟩
theorem dM_findOwn_121 : Dv mM_findOwn 121 .lload_n .lload 5 123 := Or.inr ⟨by decide +kernel, rfl⟩
theorem dM_findOwn_123 : Dl mM_findOwn 123 0 124 := Or.inl ⟨0, by decide +kernel, rfl, rfl⟩
theorem dM_findOwn_124 : Dn mM_findOwn 124 .lcmp 1 125 := ⟨by decide +kernel, rfl⟩
theorem dM_findOwn_125 : Dj mM_findOwn 125 (.ifCond .ge) 128 132 := ⟨7, by decide +kernel, rfl, rfl⟩
theorem dM_findOwn_128 : Dl mM_findOwn 128 0 129 := Or.inl ⟨0, by decide +kernel, rfl, rfl⟩
theorem dM_findOwn_129 : Dj mM_findOwn 129 .goto 132 134 := ⟨5, by decide +kernel, rfl, rfl⟩
theorem dM_findOwn_132 : Dv mM_findOwn 132 .lload_n .lload 5 134 := Or.inr ⟨by decide +kernel, rfl⟩
theorem dM_findOwn_134 : Dv mM_findOwn 134 .lstore_n .lstore 5 136 := Or.inr ⟨by decide +kernel, rfl⟩
theorem dM_findOwn_136 : Dv mM_findOwn 136 .aload_n .aload 0 137 := Or.inl ⟨0, by decide +kernel, rfl, rfl⟩
theorem dM_findOwn_137 : Df mM_findOwn 137 .getfield 7 16 140 := ⟨45, ("EstateDeskModel", eT7, 37), by decide +kernel, rfl, rfl, by decide, rfl, Or.inl (tb3 203 rfl)⟩
theorem dM_findOwn_140 : Dv mM_findOwn 140 .iload_n .iload 1 141 := Or.inl ⟨1, by decide +kernel, rfl, rfl⟩
theorem dM_findOwn_141 : Dn mM_findOwn 141 .baload 1 142 := ⟨by decide +kernel, rfl⟩
theorem dM_findOwn_142 : Dj mM_findOwn 142 (.ifCond .eq) 145 154 := ⟨12, by decide +kernel, rfl, rfl⟩
theorem dM_findOwn_145 : Dv mM_findOwn 145 .aload_n .aload 0 146 := Or.inl ⟨0, by decide +kernel, rfl, rfl⟩
theorem dM_findOwn_146 : Df mM_findOwn 146 .getfield 7 17 149 := ⟨48, ("EstateDeskModel", eT7, 37), by decide +kernel, rfl, rfl, by decide, rfl, Or.inl (tb3 204 rfl)⟩
theorem dM_findOwn_149 : Dv mM_findOwn 149 .iload_n .iload 1 150 := Or.inl ⟨1, by decide +kernel, rfl, rfl⟩
theorem dM_findOwn_150 : Dn mM_findOwn 150 .laload 1 151 := ⟨by decide +kernel, rfl⟩
theorem dM_findOwn_151 : Dj mM_findOwn 151 .goto 154 155 := ⟨4, by decide +kernel, rfl, rfl⟩
theorem dM_findOwn_154 : Dl mM_findOwn 154 0 155 := Or.inl ⟨0, by decide +kernel, rfl, rfl⟩
theorem dM_findOwn_155 : Dv mM_findOwn 155 .lstore_n .lstore 7 157 := Or.inr ⟨by decide +kernel, rfl⟩
theorem dM_findOwn_157 : Dv mM_findOwn 157 .aload_n .aload 0 158 := Or.inl ⟨0, by decide +kernel, rfl, rfl⟩
theorem dM_findOwn_158 : Df mM_findOwn 158 .getfield 7 26 161 := ⟨75, ("EstateDeskModel", eT7, 37), by decide +kernel, rfl, rfl, by decide, rfl, Or.inl (tb3 213 rfl)⟩
theorem dM_findOwn_161 : Dv mM_findOwn 161 .iload_n .iload 1 162 := Or.inl ⟨1, by decide +kernel, rfl, rfl⟩
theorem dM_findOwn_162 : Dv mM_findOwn 162 .lload_n .lload 7 164 := Or.inr ⟨by decide +kernel, rfl⟩
theorem dM_findOwn_164 : Dv mM_findOwn 164 .lload_n .lload 5 166 := Or.inr ⟨by decide +kernel, rfl⟩
theorem dM_findOwn_166 : Dn mM_findOwn 166 .lcmp 1 167 := ⟨by decide +kernel, rfl⟩
theorem dM_findOwn_167 : Dj mM_findOwn 167 (.ifCond .ge) 170 175 := ⟨8, by decide +kernel, rfl, rfl⟩
theorem dM_findOwn_170 : Dv mM_findOwn 170 .lload_n .lload 7 172 := Or.inr ⟨by decide +kernel, rfl⟩
theorem dM_findOwn_172 : Dj mM_findOwn 172 .goto 175 177 := ⟨5, by decide +kernel, rfl, rfl⟩
theorem dM_findOwn_175 : Dv mM_findOwn 175 .lload_n .lload 5 177 := Or.inr ⟨by decide +kernel, rfl⟩
theorem dM_findOwn_177 : Dn mM_findOwn 177 .lastore 1 178 := ⟨by decide +kernel, rfl⟩
theorem dM_findOwn_178 : Dv mM_findOwn 178 .aload_n .aload 0 179 := Or.inl ⟨0, by decide +kernel, rfl, rfl⟩
theorem dM_findOwn_179 : Df mM_findOwn 179 .getfield 7 27 182 := ⟨78, ("EstateDeskModel", eT7, 37), by decide +kernel, rfl, rfl, by decide, rfl, Or.inl (tb3 214 rfl)⟩
theorem dM_findOwn_182 : Dv mM_findOwn 182 .iload_n .iload 1 183 := Or.inl ⟨1, by decide +kernel, rfl, rfl⟩
theorem dM_findOwn_183 : Dv mM_findOwn 183 .lload_n .lload 7 185 := Or.inr ⟨by decide +kernel, rfl⟩
theorem dM_findOwn_185 : Dv mM_findOwn 185 .aload_n .aload 0 186 := Or.inl ⟨0, by decide +kernel, rfl, rfl⟩
theorem dM_findOwn_186 : Df mM_findOwn 186 .getfield 7 26 189 := ⟨75, ("EstateDeskModel", eT7, 37), by decide +kernel, rfl, rfl, by decide, rfl, Or.inl (tb3 213 rfl)⟩
theorem dM_findOwn_189 : Dv mM_findOwn 189 .iload_n .iload 1 190 := Or.inl ⟨1, by decide +kernel, rfl, rfl⟩
theorem dM_findOwn_190 : Dn mM_findOwn 190 .laload 1 191 := ⟨by decide +kernel, rfl⟩
theorem dM_findOwn_191 : Dn mM_findOwn 191 .lsub 1 192 := ⟨by decide +kernel, rfl⟩
theorem dM_findOwn_192 : Dn mM_findOwn 192 .lastore 1 193 := ⟨by decide +kernel, rfl⟩
theorem dM_findOwn_193 : Dn mM_findOwn 193 (.iinc 1 1) 3 196 := ⟨by decide +kernel, rfl⟩
theorem dM_findOwn_196 : Dj mM_findOwn 196 .goto 199 2 := ⟨-194, by decide +kernel, rfl, rfl⟩
theorem dM_findOwn_199 : Dn mM_findOwn 199 .return_ 1 200 := ⟨by decide +kernel, rfl⟩
theorem dM_ownOf_0 : Dl mM_ownOf 0 0 1 := Or.inl ⟨0, by decide +kernel, rfl, rfl⟩
theorem dM_ownOf_1 : Dv mM_ownOf 1 .lstore_n .lstore 2 2 := Or.inl ⟨2, by decide +kernel, rfl, rfl⟩
theorem dM_ownOf_2 : Dk mM_ownOf 2 1 3 := Or.inl ⟨1, by decide +kernel, rfl, rfl⟩
theorem dM_ownOf_3 : Dv mM_ownOf 3 .istore_n .istore 4 5 := Or.inr ⟨by decide +kernel, rfl⟩
theorem dM_ownOf_5 : Dv mM_ownOf 5 .iload_n .iload 4 7 := Or.inr ⟨by decide +kernel, rfl⟩
theorem dM_ownOf_7 : Dk mM_ownOf 7 41 9 := Or.inr (Or.inl ⟨41, by decide +kernel, by decide +kernel, rfl⟩)
theorem dM_ownOf_9 : Dj mM_ownOf 9 (.if_icmp .ge) 12 53 := ⟨44, by decide +kernel, rfl, rfl⟩
theorem dM_ownOf_12 : Dv mM_ownOf 12 .aload_n .aload 0 13 := Or.inl ⟨0, by decide +kernel, rfl, rfl⟩
theorem dM_ownOf_13 : Df mM_ownOf 13 .getfield 7 16 16 := ⟨45, ("EstateDeskModel", eT7, 37), by decide +kernel, rfl, rfl, by decide, rfl, Or.inl (tb3 203 rfl)⟩
theorem dM_ownOf_16 : Dv mM_ownOf 16 .iload_n .iload 4 18 := Or.inr ⟨by decide +kernel, rfl⟩
theorem dM_ownOf_18 : Dn mM_ownOf 18 .baload 1 19 := ⟨by decide +kernel, rfl⟩
theorem dM_ownOf_19 : Dj mM_ownOf 19 (.ifCond .eq) 22 45 := ⟨26, by decide +kernel, rfl, rfl⟩
theorem dM_ownOf_22 : Dv mM_ownOf 22 .aload_n .aload 0 23 := Or.inl ⟨0, by decide +kernel, rfl, rfl⟩
theorem dM_ownOf_23 : Df mM_ownOf 23 .getfield 7 18 26 := ⟨51, ("EstateDeskModel", eT7, 37), by decide +kernel, rfl, rfl, by decide, rfl, Or.inl (tb3 205 rfl)⟩
theorem dM_ownOf_26 : Dv mM_ownOf 26 .iload_n .iload 4 28 := Or.inr ⟨by decide +kernel, rfl⟩
theorem dM_ownOf_28 : Dn mM_ownOf 28 .iaload 1 29 := ⟨by decide +kernel, rfl⟩
theorem dM_ownOf_29 : Dv mM_ownOf 29 .iload_n .iload 1 30 := Or.inl ⟨1, by decide +kernel, rfl, rfl⟩
theorem dM_ownOf_30 : Dj mM_ownOf 30 (.if_icmp .ne) 33 45 := ⟨15, by decide +kernel, rfl, rfl⟩
theorem dM_ownOf_33 : Dv mM_ownOf 33 .lload_n .lload 2 34 := Or.inl ⟨2, by decide +kernel, rfl, rfl⟩
theorem dM_ownOf_34 : Dv mM_ownOf 34 .aload_n .aload 0 35 := Or.inl ⟨0, by decide +kernel, rfl, rfl⟩
theorem dM_ownOf_35 : Df mM_ownOf 35 .getfield 7 26 38 := ⟨75, ("EstateDeskModel", eT7, 37), by decide +kernel, rfl, rfl, by decide, rfl, Or.inl (tb3 213 rfl)⟩
theorem dM_ownOf_38 : Dv mM_ownOf 38 .iload_n .iload 4 40 := Or.inr ⟨by decide +kernel, rfl⟩
theorem dM_ownOf_40 : Dn mM_ownOf 40 .laload 1 41 := ⟨by decide +kernel, rfl⟩
theorem dM_ownOf_41 : Dn mM_ownOf 41 .ladd 1 42 := ⟨by decide +kernel, rfl⟩
theorem dM_ownOf_42 : Dj mM_ownOf 42 .goto 45 46 := ⟨4, by decide +kernel, rfl, rfl⟩
theorem dM_ownOf_45 : Dv mM_ownOf 45 .lload_n .lload 2 46 := Or.inl ⟨2, by decide +kernel, rfl, rfl⟩
theorem dM_ownOf_46 : Dv mM_ownOf 46 .lstore_n .lstore 2 47 := Or.inl ⟨2, by decide +kernel, rfl, rfl⟩
theorem dM_ownOf_47 : Dn mM_ownOf 47 (.iinc 4 1) 3 50 := ⟨by decide +kernel, rfl⟩
theorem dM_ownOf_50 : Dj mM_ownOf 50 .goto 53 5 := ⟨-45, by decide +kernel, rfl, rfl⟩
theorem dM_ownOf_53 : Dv mM_ownOf 53 .lload_n .lload 2 54 := Or.inl ⟨2, by decide +kernel, rfl, rfl⟩
theorem dM_ownOf_54 : Dn mM_ownOf 54 .lreturn 1 55 := ⟨by decide +kernel, rfl⟩
theorem dM_findValues_0 : Dk mM_findValues 0 1 1 := Or.inl ⟨1, by decide +kernel, rfl, rfl⟩
theorem dM_findValues_1 : Dv mM_findValues 1 .istore_n .istore 1 2 := Or.inl ⟨1, by decide +kernel, rfl, rfl⟩
theorem dM_findValues_2 : Dv mM_findValues 2 .iload_n .iload 1 3 := Or.inl ⟨1, by decide +kernel, rfl, rfl⟩
theorem dM_findValues_3 : Dk mM_findValues 3 41 5 := Or.inr (Or.inl ⟨41, by decide +kernel, by decide +kernel, rfl⟩)
theorem dM_findValues_5 : Dj mM_findValues 5 (.if_icmp .ge) 8 281 := ⟨276, by decide +kernel, rfl, rfl⟩
theorem dM_findValues_8 : Dv mM_findValues 8 .aload_n .aload 0 9 := Or.inl ⟨0, by decide +kernel, rfl, rfl⟩
theorem dM_findValues_9 : Dv mM_findValues 9 .iload_n .iload 1 10 := Or.inl ⟨1, by decide +kernel, rfl, rfl⟩
theorem dM_findValues_10 : Dk mM_findValues 10 1 11 := Or.inl ⟨1, by decide +kernel, rfl, rfl⟩
theorem dM_findValues_11 : LkV mM_findValues 11 14 mM_isGood := ⟨187, by decide +kernel, rfl, Or.inl (tb4 175 rfl), tb4 177 rfl, ts 29 rfl⟩
theorem dM_findValues_14 : Dj mM_findValues 14 (.ifCond .eq) 17 48 := ⟨34, by decide +kernel, rfl, rfl⟩
theorem dM_findValues_17 : Dv mM_findValues 17 .aload_n .aload 0 18 := Or.inl ⟨0, by decide +kernel, rfl, rfl⟩
theorem dM_findValues_18 : Df mM_findValues 18 .getfield 7 23 21 := ⟨66, ("EstateDeskModel", eT7, 37), by decide +kernel, rfl, rfl, by decide, rfl, Or.inl (tb3 210 rfl)⟩
theorem dM_findValues_21 : Dv mM_findValues 21 .iload_n .iload 1 22 := Or.inl ⟨1, by decide +kernel, rfl, rfl⟩
theorem dM_findValues_22 : Dv mM_findValues 22 .aload_n .aload 0 23 := Or.inl ⟨0, by decide +kernel, rfl, rfl⟩
theorem dM_findValues_23 : Df mM_findValues 23 .getfield 7 7 26 := ⟨17, ("EstateDeskModel", eT7, 37), by decide +kernel, rfl, rfl, by decide, rfl, Or.inl (tb3 194 rfl)⟩
theorem dM_findValues_26 : Dv mM_findValues 26 .aload_n .aload 0 27 := Or.inl ⟨0, by decide +kernel, rfl, rfl⟩
theorem dM_findValues_27 : Df mM_findValues 27 .getfield 7 11 30 := ⟨30, ("EstateDeskModel", eT7, 37), by decide +kernel, rfl, rfl, by decide, rfl, Or.inl (tb3 198 rfl)⟩
theorem dM_findValues_30 : Dv mM_findValues 30 .iload_n .iload 1 31 := Or.inl ⟨1, by decide +kernel, rfl, rfl⟩
theorem dM_findValues_31 : Dn mM_findValues 31 .iaload 1 32 := ⟨by decide +kernel, rfl⟩
theorem dM_findValues_32 : Dn mM_findValues 32 .laload 1 33 := ⟨by decide +kernel, rfl⟩
theorem dM_findValues_33 : Dv mM_findValues 33 .aload_n .aload 0 34 := Or.inl ⟨0, by decide +kernel, rfl, rfl⟩
theorem dM_findValues_34 : Dv mM_findValues 34 .aload_n .aload 0 35 := Or.inl ⟨0, by decide +kernel, rfl, rfl⟩
theorem dM_findValues_35 : Df mM_findValues 35 .getfield 7 11 38 := ⟨30, ("EstateDeskModel", eT7, 37), by decide +kernel, rfl, rfl, by decide, rfl, Or.inl (tb3 198 rfl)⟩
theorem dM_findValues_38 : Dv mM_findValues 38 .iload_n .iload 1 39 := Or.inl ⟨1, by decide +kernel, rfl, rfl⟩
theorem dM_findValues_39 : Dn mM_findValues 39 .iaload 1 40 := ⟨by decide +kernel, rfl⟩
theorem dM_findValues_40 : LkV mM_findValues 40 43 mM_ownOf := ⟨194, by decide +kernel, rfl, Or.inl (tb4 183 rfl), tb4 185 rfl, ts 31 rfl⟩
theorem dM_findValues_43 : Dn mM_findValues 43 .lsub 1 44 := ⟨by decide +kernel, rfl⟩
theorem dM_findValues_44 : Dn mM_findValues 44 .lastore 1 45 := ⟨by decide +kernel, rfl⟩
theorem dM_findValues_45 : Dj mM_findValues 45 .goto 48 275 := ⟨230, by decide +kernel, rfl, rfl⟩
theorem dM_findValues_48 : Dv mM_findValues 48 .aload_n .aload 0 49 := Or.inl ⟨0, by decide +kernel, rfl, rfl⟩
theorem dM_findValues_49 : Dv mM_findValues 49 .iload_n .iload 1 50 := Or.inl ⟨1, by decide +kernel, rfl, rfl⟩
theorem dM_findValues_50 : Dk mM_findValues 50 2 51 := Or.inl ⟨2, by decide +kernel, rfl, rfl⟩
theorem dM_findValues_51 : LkV mM_findValues 51 54 mM_isGood := ⟨187, by decide +kernel, rfl, Or.inl (tb4 175 rfl), tb4 177 rfl, ts 29 rfl⟩
theorem dM_findValues_54 : Dj mM_findValues 54 (.ifCond .eq) 57 233 := ⟨179, by decide +kernel, rfl, rfl⟩
theorem dM_findValues_57 : Dv mM_findValues 57 .aload_n .aload 0 58 := Or.inl ⟨0, by decide +kernel, rfl, rfl⟩
theorem dM_findValues_58 : Df mM_findValues 58 .getfield 7 11 61 := ⟨30, ("EstateDeskModel", eT7, 37), by decide +kernel, rfl, rfl, by decide, rfl, Or.inl (tb3 198 rfl)⟩
theorem dM_findValues_61 : Dv mM_findValues 61 .iload_n .iload 1 62 := Or.inl ⟨1, by decide +kernel, rfl, rfl⟩
theorem dM_findValues_62 : Dn mM_findValues 62 .iaload 1 63 := ⟨by decide +kernel, rfl⟩
theorem dM_findValues_63 : Dj mM_findValues 63 (.ifCond .le) 66 94 := ⟨31, by decide +kernel, rfl, rfl⟩
theorem dM_findValues_66 : Dv mM_findValues 66 .aload_n .aload 0 67 := Or.inl ⟨0, by decide +kernel, rfl, rfl⟩
theorem dM_findValues_67 : Df mM_findValues 67 .getfield 7 9 70 := ⟨24, ("EstateDeskModel", eT7, 37), by decide +kernel, rfl, rfl, by decide, rfl, Or.inl (tb3 196 rfl)⟩
theorem dM_findValues_70 : Dv mM_findValues 70 .aload_n .aload 0 71 := Or.inl ⟨0, by decide +kernel, rfl, rfl⟩
theorem dM_findValues_71 : Df mM_findValues 71 .getfield 7 11 74 := ⟨30, ("EstateDeskModel", eT7, 37), by decide +kernel, rfl, rfl, by decide, rfl, Or.inl (tb3 198 rfl)⟩
theorem dM_findValues_74 : Dv mM_findValues 74 .iload_n .iload 1 75 := Or.inl ⟨1, by decide +kernel, rfl, rfl⟩
theorem dM_findValues_75 : Dn mM_findValues 75 .iaload 1 76 := ⟨by decide +kernel, rfl⟩
theorem dM_findValues_76 : Dn mM_findValues 76 .baload 1 77 := ⟨by decide +kernel, rfl⟩
theorem dM_findValues_77 : Dj mM_findValues 77 (.ifCond .ne) 80 94 := ⟨17, by decide +kernel, rfl, rfl⟩
theorem dM_findValues_80 : Dv mM_findValues 80 .aload_n .aload 0 81 := Or.inl ⟨0, by decide +kernel, rfl, rfl⟩
theorem dM_findValues_81 : Df mM_findValues 81 .getfield 7 7 84 := ⟨17, ("EstateDeskModel", eT7, 37), by decide +kernel, rfl, rfl, by decide, rfl, Or.inl (tb3 194 rfl)⟩
theorem dM_findValues_84 : Dv mM_findValues 84 .aload_n .aload 0 85 := Or.inl ⟨0, by decide +kernel, rfl, rfl⟩
theorem dM_findValues_85 : Df mM_findValues 85 .getfield 7 11 88 := ⟨30, ("EstateDeskModel", eT7, 37), by decide +kernel, rfl, rfl, by decide, rfl, Or.inl (tb3 198 rfl)⟩
theorem dM_findValues_88 : Dv mM_findValues 88 .iload_n .iload 1 89 := Or.inl ⟨1, by decide +kernel, rfl, rfl⟩
theorem dM_findValues_89 : Dn mM_findValues 89 .iaload 1 90 := ⟨by decide +kernel, rfl⟩
theorem dM_findValues_90 : Dn mM_findValues 90 .laload 1 91 := ⟨by decide +kernel, rfl⟩
theorem dM_findValues_91 : Dj mM_findValues 91 .goto 94 95 := ⟨4, by decide +kernel, rfl, rfl⟩
theorem dM_findValues_94 : Dl mM_findValues 94 0 95 := Or.inl ⟨0, by decide +kernel, rfl, rfl⟩
theorem dM_findValues_95 : Dv mM_findValues 95 .lstore_n .lstore 2 96 := Or.inl ⟨2, by decide +kernel, rfl, rfl⟩
theorem dM_findValues_96 : Dk mM_findValues 96 1 97 := Or.inl ⟨1, by decide +kernel, rfl, rfl⟩
theorem dM_findValues_97 : Dv mM_findValues 97 .istore_n .istore 4 99 := Or.inr ⟨by decide +kernel, rfl⟩
theorem dM_findValues_99 : Dv mM_findValues 99 .iload_n .iload 4 101 := Or.inr ⟨by decide +kernel, rfl⟩
theorem dM_findValues_101 : Dv mM_findValues 101 .iload_n .iload 1 102 := Or.inl ⟨1, by decide +kernel, rfl, rfl⟩
theorem dM_findValues_102 : Dj mM_findValues 102 (.if_icmp .ge) 105 160 := ⟨58, by decide +kernel, rfl, rfl⟩
theorem dM_findValues_105 : Dv mM_findValues 105 .aload_n .aload 0 106 := Or.inl ⟨0, by decide +kernel, rfl, rfl⟩
theorem dM_findValues_106 : Dv mM_findValues 106 .iload_n .iload 4 108 := Or.inr ⟨by decide +kernel, rfl⟩
theorem dM_findValues_108 : Dk mM_findValues 108 2 109 := Or.inl ⟨2, by decide +kernel, rfl, rfl⟩
theorem dM_findValues_109 : LkV mM_findValues 109 112 mM_isGood := ⟨187, by decide +kernel, rfl, Or.inl (tb4 175 rfl), tb4 177 rfl, ts 29 rfl⟩
theorem dM_findValues_112 : Dj mM_findValues 112 (.ifCond .eq) 115 152 := ⟨40, by decide +kernel, rfl, rfl⟩
theorem dM_findValues_115 : Dv mM_findValues 115 .aload_n .aload 0 116 := Or.inl ⟨0, by decide +kernel, rfl, rfl⟩
theorem dM_findValues_116 : Df mM_findValues 116 .getfield 7 11 119 := ⟨30, ("EstateDeskModel", eT7, 37), by decide +kernel, rfl, rfl, by decide, rfl, Or.inl (tb3 198 rfl)⟩
theorem dM_findValues_119 : Dv mM_findValues 119 .iload_n .iload 4 121 := Or.inr ⟨by decide +kernel, rfl⟩
theorem dM_findValues_121 : Dn mM_findValues 121 .iaload 1 122 := ⟨by decide +kernel, rfl⟩
theorem dM_findValues_122 : Dv mM_findValues 122 .aload_n .aload 0 123 := Or.inl ⟨0, by decide +kernel, rfl, rfl⟩
theorem dM_findValues_123 : Df mM_findValues 123 .getfield 7 11 126 := ⟨30, ("EstateDeskModel", eT7, 37), by decide +kernel, rfl, rfl, by decide, rfl, Or.inl (tb3 198 rfl)⟩
theorem dM_findValues_126 : Dv mM_findValues 126 .iload_n .iload 1 127 := Or.inl ⟨1, by decide +kernel, rfl, rfl⟩
theorem dM_findValues_127 : Dn mM_findValues 127 .iaload 1 128 := ⟨by decide +kernel, rfl⟩
theorem dM_findValues_128 : Dj mM_findValues 128 (.if_icmp .ne) 131 152 := ⟨24, by decide +kernel, rfl, rfl⟩
theorem dM_findValues_131 : Dv mM_findValues 131 .aload_n .aload 0 132 := Or.inl ⟨0, by decide +kernel, rfl, rfl⟩
theorem dM_findValues_132 : Df mM_findValues 132 .getfield 7 11 135 := ⟨30, ("EstateDeskModel", eT7, 37), by decide +kernel, rfl, rfl, by decide, rfl, Or.inl (tb3 198 rfl)⟩
theorem dM_findValues_135 : Dv mM_findValues 135 .iload_n .iload 1 136 := Or.inl ⟨1, by decide +kernel, rfl, rfl⟩
theorem dM_findValues_136 : Dn mM_findValues 136 .iaload 1 137 := ⟨by decide +kernel, rfl⟩
theorem dM_findValues_137 : Dj mM_findValues 137 (.ifCond .le) 140 152 := ⟨15, by decide +kernel, rfl, rfl⟩
theorem dM_findValues_140 : Dv mM_findValues 140 .lload_n .lload 2 141 := Or.inl ⟨2, by decide +kernel, rfl, rfl⟩
theorem dM_findValues_141 : Dv mM_findValues 141 .aload_n .aload 0 142 := Or.inl ⟨0, by decide +kernel, rfl, rfl⟩
theorem dM_findValues_142 : Df mM_findValues 142 .getfield 7 22 145 := ⟨63, ("EstateDeskModel", eT7, 37), by decide +kernel, rfl, rfl, by decide, rfl, Or.inl (tb3 209 rfl)⟩
theorem dM_findValues_145 : Dv mM_findValues 145 .iload_n .iload 4 147 := Or.inr ⟨by decide +kernel, rfl⟩
theorem dM_findValues_147 : Dn mM_findValues 147 .laload 1 148 := ⟨by decide +kernel, rfl⟩
theorem dM_findValues_148 : Dn mM_findValues 148 .lsub 1 149 := ⟨by decide +kernel, rfl⟩
theorem dM_findValues_149 : Dj mM_findValues 149 .goto 152 153 := ⟨4, by decide +kernel, rfl, rfl⟩
theorem dM_findValues_152 : Dv mM_findValues 152 .lload_n .lload 2 153 := Or.inl ⟨2, by decide +kernel, rfl, rfl⟩
theorem dM_findValues_153 : Dv mM_findValues 153 .lstore_n .lstore 2 154 := Or.inl ⟨2, by decide +kernel, rfl, rfl⟩
theorem dM_findValues_154 : Dn mM_findValues 154 (.iinc 4 1) 3 157 := ⟨by decide +kernel, rfl⟩
theorem dM_findValues_157 : Dj mM_findValues 157 .goto 160 99 := ⟨-58, by decide +kernel, rfl, rfl⟩
theorem dM_findValues_160 : Dv mM_findValues 160 .lload_n .lload 2 161 := Or.inl ⟨2, by decide +kernel, rfl, rfl⟩
theorem dM_findValues_161 : Dl mM_findValues 161 0 162 := Or.inl ⟨0, by decide +kernel, rfl, rfl⟩
theorem dM_findValues_162 : Dn mM_findValues 162 .lcmp 1 163 := ⟨by decide +kernel, rfl⟩
theorem dM_findValues_163 : Dj mM_findValues 163 (.ifCond .ge) 166 170 := ⟨7, by decide +kernel, rfl, rfl⟩
theorem dM_findValues_166 : Dl mM_findValues 166 0 167 := Or.inl ⟨0, by decide +kernel, rfl, rfl⟩
theorem dM_findValues_167 : Dj mM_findValues 167 .goto 170 171 := ⟨4, by decide +kernel, rfl, rfl⟩
theorem dM_findValues_170 : Dv mM_findValues 170 .lload_n .lload 2 171 := Or.inl ⟨2, by decide +kernel, rfl, rfl⟩
theorem dM_findValues_171 : Dv mM_findValues 171 .lstore_n .lstore 2 172 := Or.inl ⟨2, by decide +kernel, rfl, rfl⟩
theorem dM_findValues_172 : Dv mM_findValues 172 .aload_n .aload 0 173 := Or.inl ⟨0, by decide +kernel, rfl, rfl⟩
theorem dM_findValues_173 : Df mM_findValues 173 .getfield 7 22 176 := ⟨63, ("EstateDeskModel", eT7, 37), by decide +kernel, rfl, rfl, by decide, rfl, Or.inl (tb3 209 rfl)⟩
theorem dM_findValues_176 : Dv mM_findValues 176 .iload_n .iload 1 177 := Or.inl ⟨1, by decide +kernel, rfl, rfl⟩
theorem dM_findValues_177 : Dv mM_findValues 177 .aload_n .aload 0 178 := Or.inl ⟨0, by decide +kernel, rfl, rfl⟩
theorem dM_findValues_178 : Df mM_findValues 178 .getfield 7 12 181 := ⟨33, ("EstateDeskModel", eT7, 37), by decide +kernel, rfl, rfl, by decide, rfl, Or.inl (tb3 199 rfl)⟩
theorem dM_findValues_181 : Dv mM_findValues 181 .iload_n .iload 1 182 := Or.inl ⟨1, by decide +kernel, rfl, rfl⟩
theorem dM_findValues_182 : Dn mM_findValues 182 .laload 1 183 := ⟨by decide +kernel, rfl⟩
theorem dM_findValues_183 : Dv mM_findValues 183 .lload_n .lload 2 184 := Or.inl ⟨2, by decide +kernel, rfl, rfl⟩
theorem dM_findValues_184 : Dn mM_findValues 184 .lcmp 1 185 := ⟨by decide +kernel, rfl⟩
theorem dM_findValues_185 : Dj mM_findValues 185 (.ifCond .ge) 188 197 := ⟨12, by decide +kernel, rfl, rfl⟩
theorem dM_findValues_188 : Dv mM_findValues 188 .aload_n .aload 0 189 := Or.inl ⟨0, by decide +kernel, rfl, rfl⟩
theorem dM_findValues_189 : Df mM_findValues 189 .getfield 7 12 192 := ⟨33, ("EstateDeskModel", eT7, 37), by decide +kernel, rfl, rfl, by decide, rfl, Or.inl (tb3 199 rfl)⟩
theorem dM_findValues_192 : Dv mM_findValues 192 .iload_n .iload 1 193 := Or.inl ⟨1, by decide +kernel, rfl, rfl⟩
theorem dM_findValues_193 : Dn mM_findValues 193 .laload 1 194 := ⟨by decide +kernel, rfl⟩
theorem dM_findValues_194 : Dj mM_findValues 194 .goto 197 198 := ⟨4, by decide +kernel, rfl, rfl⟩
theorem dM_findValues_197 : Dv mM_findValues 197 .lload_n .lload 2 198 := Or.inl ⟨2, by decide +kernel, rfl, rfl⟩
theorem dM_findValues_198 : Dn mM_findValues 198 .lastore 1 199 := ⟨by decide +kernel, rfl⟩
theorem dM_findValues_199 : Dv mM_findValues 199 .aload_n .aload 0 200 := Or.inl ⟨0, by decide +kernel, rfl, rfl⟩
theorem dM_findValues_200 : Df mM_findValues 200 .getfield 7 21 203 := ⟨60, ("EstateDeskModel", eT7, 37), by decide +kernel, rfl, rfl, by decide, rfl, Or.inl (tb3 208 rfl)⟩
theorem dM_findValues_203 : Dv mM_findValues 203 .iload_n .iload 1 204 := Or.inl ⟨1, by decide +kernel, rfl, rfl⟩
theorem dM_findValues_204 : Dv mM_findValues 204 .aload_n .aload 0 205 := Or.inl ⟨0, by decide +kernel, rfl, rfl⟩
theorem dM_findValues_205 : Df mM_findValues 205 .getfield 7 12 208 := ⟨33, ("EstateDeskModel", eT7, 37), by decide +kernel, rfl, rfl, by decide, rfl, Or.inl (tb3 199 rfl)⟩
theorem dM_findValues_208 : Dv mM_findValues 208 .iload_n .iload 1 209 := Or.inl ⟨1, by decide +kernel, rfl, rfl⟩
theorem dM_findValues_209 : Dn mM_findValues 209 .laload 1 210 := ⟨by decide +kernel, rfl⟩
theorem dM_findValues_210 : Dv mM_findValues 210 .aload_n .aload 0 211 := Or.inl ⟨0, by decide +kernel, rfl, rfl⟩
theorem dM_findValues_211 : Df mM_findValues 211 .getfield 7 22 214 := ⟨63, ("EstateDeskModel", eT7, 37), by decide +kernel, rfl, rfl, by decide, rfl, Or.inl (tb3 209 rfl)⟩
theorem dM_findValues_214 : Dv mM_findValues 214 .iload_n .iload 1 215 := Or.inl ⟨1, by decide +kernel, rfl, rfl⟩
theorem dM_findValues_215 : Dn mM_findValues 215 .laload 1 216 := ⟨by decide +kernel, rfl⟩
theorem dM_findValues_216 : Dn mM_findValues 216 .lsub 1 217 := ⟨by decide +kernel, rfl⟩
theorem dM_findValues_217 : Dn mM_findValues 217 .lastore 1 218 := ⟨by decide +kernel, rfl⟩
theorem dM_findValues_218 : Dv mM_findValues 218 .aload_n .aload 0 219 := Or.inl ⟨0, by decide +kernel, rfl, rfl⟩
theorem dM_findValues_219 : Df mM_findValues 219 .getfield 7 23 222 := ⟨66, ("EstateDeskModel", eT7, 37), by decide +kernel, rfl, rfl, by decide, rfl, Or.inl (tb3 210 rfl)⟩
theorem dM_findValues_222 : Dv mM_findValues 222 .iload_n .iload 1 223 := Or.inl ⟨1, by decide +kernel, rfl, rfl⟩
theorem dM_findValues_223 : Dv mM_findValues 223 .aload_n .aload 0 224 := Or.inl ⟨0, by decide +kernel, rfl, rfl⟩
theorem dM_findValues_224 : Df mM_findValues 224 .getfield 7 12 227 := ⟨33, ("EstateDeskModel", eT7, 37), by decide +kernel, rfl, rfl, by decide, rfl, Or.inl (tb3 199 rfl)⟩
theorem dM_findValues_227 : Dv mM_findValues 227 .iload_n .iload 1 228 := Or.inl ⟨1, by decide +kernel, rfl, rfl⟩
theorem dM_findValues_228 : Dn mM_findValues 228 .laload 1 229 := ⟨by decide +kernel, rfl⟩
theorem dM_findValues_229 : Dn mM_findValues 229 .lastore 1 230 := ⟨by decide +kernel, rfl⟩
theorem dM_findValues_230 : Dj mM_findValues 230 .goto 233 275 := ⟨45, by decide +kernel, rfl, rfl⟩
theorem dM_findValues_233 : Dv mM_findValues 233 .aload_n .aload 0 234 := Or.inl ⟨0, by decide +kernel, rfl, rfl⟩
theorem dM_findValues_234 : Dv mM_findValues 234 .iload_n .iload 1 235 := Or.inl ⟨1, by decide +kernel, rfl, rfl⟩
theorem dM_findValues_235 : Dk mM_findValues 235 3 236 := Or.inl ⟨3, by decide +kernel, rfl, rfl⟩
theorem dM_findValues_236 : LkV mM_findValues 236 239 mM_isGood := ⟨187, by decide +kernel, rfl, Or.inl (tb4 175 rfl), tb4 177 rfl, ts 29 rfl⟩
theorem dM_findValues_239 : Dj mM_findValues 239 (.ifCond .eq) 242 275 := ⟨36, by decide +kernel, rfl, rfl⟩
theorem dM_findValues_242 : Dv mM_findValues 242 .aload_n .aload 0 243 := Or.inl ⟨0, by decide +kernel, rfl, rfl⟩
theorem dM_findValues_243 : Df mM_findValues 243 .getfield 7 21 246 := ⟨60, ("EstateDeskModel", eT7, 37), by decide +kernel, rfl, rfl, by decide, rfl, Or.inl (tb3 208 rfl)⟩
theorem dM_findValues_246 : Dv mM_findValues 246 .iload_n .iload 1 247 := Or.inl ⟨1, by decide +kernel, rfl, rfl⟩
theorem dM_findValues_247 : Dv mM_findValues 247 .aload_n .aload 0 248 := Or.inl ⟨0, by decide +kernel, rfl, rfl⟩
theorem dM_findValues_248 : Df mM_findValues 248 .getfield 7 12 251 := ⟨33, ("EstateDeskModel", eT7, 37), by decide +kernel, rfl, rfl, by decide, rfl, Or.inl (tb3 199 rfl)⟩
theorem dM_findValues_251 : Dv mM_findValues 251 .iload_n .iload 1 252 := Or.inl ⟨1, by decide +kernel, rfl, rfl⟩
theorem dM_findValues_252 : Dn mM_findValues 252 .laload 1 253 := ⟨by decide +kernel, rfl⟩
theorem dM_findValues_253 : Dv mM_findValues 253 .aload_n .aload 0 254 := Or.inl ⟨0, by decide +kernel, rfl, rfl⟩
theorem dM_findValues_254 : Df mM_findValues 254 .getfield 7 13 257 := ⟨36, ("EstateDeskModel", eT7, 37), by decide +kernel, rfl, rfl, by decide, rfl, Or.inl (tb3 200 rfl)⟩
theorem dM_findValues_257 : Dv mM_findValues 257 .iload_n .iload 1 258 := Or.inl ⟨1, by decide +kernel, rfl, rfl⟩
theorem dM_findValues_258 : Dn mM_findValues 258 .iaload 1 259 := ⟨by decide +kernel, rfl⟩
theorem dM_findValues_259 : LkS mM_findValues 259 262 mM_table := ⟨198, by decide +kernel, rfl, Or.inl (tb4 187 rfl), tb4 188 rfl⟩
theorem dM_findValues_262 : Dn mM_findValues 262 .lastore 1 263 := ⟨by decide +kernel, rfl⟩
theorem dM_findValues_263 : Dv mM_findValues 263 .aload_n .aload 0 264 := Or.inl ⟨0, by decide +kernel, rfl, rfl⟩
theorem dM_findValues_264 : Df mM_findValues 264 .getfield 7 23 267 := ⟨66, ("EstateDeskModel", eT7, 37), by decide +kernel, rfl, rfl, by decide, rfl, Or.inl (tb3 210 rfl)⟩
theorem dM_findValues_267 : Dv mM_findValues 267 .iload_n .iload 1 268 := Or.inl ⟨1, by decide +kernel, rfl, rfl⟩
theorem dM_findValues_268 : Dv mM_findValues 268 .aload_n .aload 0 269 := Or.inl ⟨0, by decide +kernel, rfl, rfl⟩
theorem dM_findValues_269 : Df mM_findValues 269 .getfield 7 21 272 := ⟨60, ("EstateDeskModel", eT7, 37), by decide +kernel, rfl, rfl, by decide, rfl, Or.inl (tb3 208 rfl)⟩
theorem dM_findValues_272 : Dv mM_findValues 272 .iload_n .iload 1 273 := Or.inl ⟨1, by decide +kernel, rfl, rfl⟩
theorem dM_findValues_273 : Dn mM_findValues 273 .laload 1 274 := ⟨by decide +kernel, rfl⟩
theorem dM_findValues_274 : Dn mM_findValues 274 .lastore 1 275 := ⟨by decide +kernel, rfl⟩
theorem dM_findValues_275 : Dn mM_findValues 275 (.iinc 1 1) 3 278 := ⟨by decide +kernel, rfl⟩
theorem dM_findValues_278 : Dj mM_findValues 278 .goto 281 2 := ⟨-276, by decide +kernel, rfl, rfl⟩
theorem dM_findValues_281 : Dn mM_findValues 281 .return_ 1 282 := ⟨by decide +kernel, rfl⟩
theorem dM_lesser_0 : Dv mM_lesser 0 .lload_n .lload 0 1 := Or.inl ⟨0, by decide +kernel, rfl, rfl⟩
theorem dM_lesser_1 : Dv mM_lesser 1 .lload_n .lload 2 2 := Or.inl ⟨2, by decide +kernel, rfl, rfl⟩
theorem dM_lesser_2 : Dn mM_lesser 2 .lcmp 1 3 := ⟨by decide +kernel, rfl⟩
theorem dM_lesser_3 : Dj mM_lesser 3 (.ifCond .ge) 6 10 := ⟨7, by decide +kernel, rfl, rfl⟩
theorem dM_lesser_6 : Dv mM_lesser 6 .lload_n .lload 0 7 := Or.inl ⟨0, by decide +kernel, rfl, rfl⟩
theorem dM_lesser_7 : Dj mM_lesser 7 .goto 10 11 := ⟨4, by decide +kernel, rfl, rfl⟩
theorem dM_lesser_10 : Dv mM_lesser 10 .lload_n .lload 2 11 := Or.inl ⟨2, by decide +kernel, rfl, rfl⟩
theorem dM_lesser_11 : Dn mM_lesser 11 .lreturn 1 12 := ⟨by decide +kernel, rfl⟩
theorem dM_notBelow0_0 : Dv mM_notBelow0 0 .lload_n .lload 0 1 := Or.inl ⟨0, by decide +kernel, rfl, rfl⟩
theorem dM_notBelow0_1 : Dl mM_notBelow0 1 0 2 := Or.inl ⟨0, by decide +kernel, rfl, rfl⟩
theorem dM_notBelow0_2 : Dn mM_notBelow0 2 .lcmp 1 3 := ⟨by decide +kernel, rfl⟩
theorem dM_notBelow0_3 : Dj mM_notBelow0 3 (.ifCond .ge) 6 10 := ⟨7, by decide +kernel, rfl, rfl⟩
theorem dM_notBelow0_6 : Dl mM_notBelow0 6 0 7 := Or.inl ⟨0, by decide +kernel, rfl, rfl⟩
theorem dM_notBelow0_7 : Dj mM_notBelow0 7 .goto 10 11 := ⟨4, by decide +kernel, rfl, rfl⟩
theorem dM_notBelow0_10 : Dv mM_notBelow0 10 .lload_n .lload 0 11 := Or.inl ⟨0, by decide +kernel, rfl, rfl⟩
theorem dM_notBelow0_11 : Dn mM_notBelow0 11 .lreturn 1 12 := ⟨by decide +kernel, rfl⟩
theorem dM_bear_0 : Dk mM_bear 0 0 1 := Or.inl ⟨0, by decide +kernel, rfl, rfl⟩
theorem dM_bear_1 : Dv mM_bear 1 .istore_n .istore 4 3 := Or.inr ⟨by decide +kernel, rfl⟩
theorem dM_bear_3 : Dv mM_bear 3 .iload_n .iload 4 5 := Or.inr ⟨by decide +kernel, rfl⟩
theorem dM_bear_5 : Dk mM_bear 5 41 7 := Or.inr (Or.inl ⟨41, by decide +kernel, by decide +kernel, rfl⟩)
theorem dM_bear_7 : Dj mM_bear 7 (.if_icmp .ge) 10 105 := ⟨98, by decide +kernel, rfl, rfl⟩
theorem dM_bear_10 : Dv mM_bear 10 .iload_n .iload 4 12 := Or.inr ⟨by decide +kernel, rfl⟩
theorem dM_bear_12 : Dj mM_bear 12 (.ifCond .le) 15 29 := ⟨17, by decide +kernel, rfl, rfl⟩
theorem dM_bear_15 : Dv mM_bear 15 .aload_n .aload 0 16 := Or.inl ⟨0, by decide +kernel, rfl, rfl⟩
theorem dM_bear_16 : Df mM_bear 16 .getfield 7 19 19 := ⟨54, ("EstateDeskModel", eT7, 37), by decide +kernel, rfl, rfl, by decide, rfl, Or.inl (tb3 206 rfl)⟩
theorem dM_bear_19 : Dv mM_bear 19 .iload_n .iload 4 21 := Or.inr ⟨by decide +kernel, rfl⟩
theorem dM_bear_21 : Dn mM_bear 21 .iaload 1 22 := ⟨by decide +kernel, rfl⟩
theorem dM_bear_22 : Dj mM_bear 22 (.ifCond .ne) 25 29 := ⟨7, by decide +kernel, rfl, rfl⟩
theorem dM_bear_25 : Dk mM_bear 25 1 26 := Or.inl ⟨1, by decide +kernel, rfl, rfl⟩
theorem dM_bear_26 : Dj mM_bear 26 .goto 29 30 := ⟨4, by decide +kernel, rfl, rfl⟩
theorem dM_bear_29 : Dk mM_bear 29 0 30 := Or.inl ⟨0, by decide +kernel, rfl, rfl⟩
theorem dM_bear_30 : Dv mM_bear 30 .istore_n .istore 5 32 := Or.inr ⟨by decide +kernel, rfl⟩
theorem dM_bear_32 : Dv mM_bear 32 .aload_n .aload 0 33 := Or.inl ⟨0, by decide +kernel, rfl, rfl⟩
theorem dM_bear_33 : Df mM_bear 33 .getfield 7 34 36 := ⟨99, ("EstateDeskModel", eT7, 37), by decide +kernel, rfl, rfl, by decide, rfl, Or.inl (tb3 221 rfl)⟩
theorem dM_bear_36 : Dv mM_bear 36 .iload_n .iload 4 38 := Or.inr ⟨by decide +kernel, rfl⟩
theorem dM_bear_38 : Dv mM_bear 38 .iload_n .iload 5 40 := Or.inr ⟨by decide +kernel, rfl⟩
theorem dM_bear_40 : Dj mM_bear 40 (.ifCond .ne) 43 47 := ⟨7, by decide +kernel, rfl, rfl⟩
theorem dM_bear_43 : Dl mM_bear 43 0 44 := Or.inl ⟨0, by decide +kernel, rfl, rfl⟩
theorem dM_bear_44 : Dj mM_bear 44 .goto 47 98 := ⟨54, by decide +kernel, rfl, rfl⟩
theorem dM_bear_47 : Dv mM_bear 47 .iload_n .iload 1 48 := Or.inl ⟨1, by decide +kernel, rfl, rfl⟩
theorem dM_bear_48 : Dj mM_bear 48 (.ifCond .ne) 51 61 := ⟨13, by decide +kernel, rfl, rfl⟩
theorem dM_bear_51 : Dv mM_bear 51 .aload_n .aload 0 52 := Or.inl ⟨0, by decide +kernel, rfl, rfl⟩
theorem dM_bear_52 : Df mM_bear 52 .getfield 7 21 55 := ⟨60, ("EstateDeskModel", eT7, 37), by decide +kernel, rfl, rfl, by decide, rfl, Or.inl (tb3 208 rfl)⟩
theorem dM_bear_55 : Dv mM_bear 55 .iload_n .iload 4 57 := Or.inr ⟨by decide +kernel, rfl⟩
theorem dM_bear_57 : Dn mM_bear 57 .laload 1 58 := ⟨by decide +kernel, rfl⟩
theorem dM_bear_58 : Dj mM_bear 58 .goto 61 98 := ⟨40, by decide +kernel, rfl, rfl⟩
theorem dM_bear_61 : Dv mM_bear 61 .iload_n .iload 1 62 := Or.inl ⟨1, by decide +kernel, rfl, rfl⟩
theorem dM_bear_62 : Dk mM_bear 62 1 63 := Or.inl ⟨1, by decide +kernel, rfl, rfl⟩
theorem dM_bear_63 : Dj mM_bear 63 (.if_icmp .ne) 66 76 := ⟨13, by decide +kernel, rfl, rfl⟩
theorem dM_bear_66 : Dv mM_bear 66 .aload_n .aload 0 67 := Or.inl ⟨0, by decide +kernel, rfl, rfl⟩
theorem dM_bear_67 : Df mM_bear 67 .getfield 7 22 70 := ⟨63, ("EstateDeskModel", eT7, 37), by decide +kernel, rfl, rfl, by decide, rfl, Or.inl (tb3 209 rfl)⟩
theorem dM_bear_70 : Dv mM_bear 70 .iload_n .iload 4 72 := Or.inr ⟨by decide +kernel, rfl⟩
theorem dM_bear_72 : Dn mM_bear 72 .laload 1 73 := ⟨by decide +kernel, rfl⟩
theorem dM_bear_73 : Dj mM_bear 73 .goto 76 98 := ⟨25, by decide +kernel, rfl, rfl⟩
theorem dM_bear_76 : Dv mM_bear 76 .aload_n .aload 0 77 := Or.inl ⟨0, by decide +kernel, rfl, rfl⟩
theorem dM_bear_77 : Df mM_bear 77 .getfield 7 10 80 := ⟨27, ("EstateDeskModel", eT7, 37), by decide +kernel, rfl, rfl, by decide, rfl, Or.inl (tb3 197 rfl)⟩
theorem dM_bear_80 : Dv mM_bear 80 .iload_n .iload 4 82 := Or.inr ⟨by decide +kernel, rfl⟩
theorem dM_bear_82 : Dn mM_bear 82 .iaload 1 83 := ⟨by decide +kernel, rfl⟩
theorem dM_bear_83 : Dk mM_bear 83 1 84 := Or.inl ⟨1, by decide +kernel, rfl, rfl⟩
theorem dM_bear_84 : Dj mM_bear 84 (.if_icmp .ne) 87 97 := ⟨13, by decide +kernel, rfl, rfl⟩
theorem dM_bear_87 : Dv mM_bear 87 .aload_n .aload 0 88 := Or.inl ⟨0, by decide +kernel, rfl, rfl⟩
theorem dM_bear_88 : Df mM_bear 88 .getfield 7 23 91 := ⟨66, ("EstateDeskModel", eT7, 37), by decide +kernel, rfl, rfl, by decide, rfl, Or.inl (tb3 210 rfl)⟩
theorem dM_bear_91 : Dv mM_bear 91 .iload_n .iload 4 93 := Or.inr ⟨by decide +kernel, rfl⟩
theorem dM_bear_93 : Dn mM_bear 93 .laload 1 94 := ⟨by decide +kernel, rfl⟩
theorem dM_bear_94 : Dj mM_bear 94 .goto 97 98 := ⟨4, by decide +kernel, rfl, rfl⟩
theorem dM_bear_97 : Dl mM_bear 97 0 98 := Or.inl ⟨0, by decide +kernel, rfl, rfl⟩
theorem dM_bear_98 : Dn mM_bear 98 .lastore 1 99 := ⟨by decide +kernel, rfl⟩
theorem dM_bear_99 : Dn mM_bear 99 (.iinc 4 1) 3 102 := ⟨by decide +kernel, rfl⟩
theorem dM_bear_102 : Dj mM_bear 102 .goto 105 3 := ⟨-99, by decide +kernel, rfl, rfl⟩
theorem dM_bear_105 : Dv mM_bear 105 .aload_n .aload 0 106 := Or.inl ⟨0, by decide +kernel, rfl, rfl⟩
theorem dM_bear_106 : Dv mM_bear 106 .lload_n .lload 2 107 := Or.inl ⟨2, by decide +kernel, rfl, rfl⟩
theorem dM_bear_107 : LkV mM_bear 107 110 mM_split := ⟨202, by decide +kernel, rfl, Or.inl (tb4 204 rfl), tb4 206 rfl, ts 34 rfl⟩
theorem dM_bear_110 : Dk mM_bear 110 1 111 := Or.inl ⟨1, by decide +kernel, rfl, rfl⟩
theorem dM_bear_111 : Dv mM_bear 111 .istore_n .istore 4 113 := Or.inr ⟨by decide +kernel, rfl⟩
theorem dM_bear_113 : Dv mM_bear 113 .iload_n .iload 4 115 := Or.inr ⟨by decide +kernel, rfl⟩
theorem dM_bear_115 : Dk mM_bear 115 41 117 := Or.inr (Or.inl ⟨41, by decide +kernel, by decide +kernel, rfl⟩)
theorem dM_bear_117 : Dj mM_bear 117 (.if_icmp .ge) 120 148 := ⟨31, by decide +kernel, rfl, rfl⟩
theorem dM_bear_120 : Dv mM_bear 120 .aload_n .aload 0 121 := Or.inl ⟨0, by decide +kernel, rfl, rfl⟩
theorem dM_bear_121 : Df mM_bear 121 .getfield 7 24 124 := ⟨69, ("EstateDeskModel", eT7, 37), by decide +kernel, rfl, rfl, by decide, rfl, Or.inl (tb3 211 rfl)⟩
theorem dM_bear_124 : Dv mM_bear 124 .iload_n .iload 4 126 := Or.inr ⟨by decide +kernel, rfl⟩
theorem dM_bear_126 : Dv mM_bear 126 .aload_n .aload 0 127 := Or.inl ⟨0, by decide +kernel, rfl, rfl⟩
theorem dM_bear_127 : Df mM_bear 127 .getfield 7 24 130 := ⟨69, ("EstateDeskModel", eT7, 37), by decide +kernel, rfl, rfl, by decide, rfl, Or.inl (tb3 211 rfl)⟩
theorem dM_bear_130 : Dv mM_bear 130 .iload_n .iload 4 132 := Or.inr ⟨by decide +kernel, rfl⟩
theorem dM_bear_132 : Dn mM_bear 132 .laload 1 133 := ⟨by decide +kernel, rfl⟩
theorem dM_bear_133 : Dv mM_bear 133 .aload_n .aload 0 134 := Or.inl ⟨0, by decide +kernel, rfl, rfl⟩
theorem dM_bear_134 : Df mM_bear 134 .getfield 7 35 137 := ⟨102, ("EstateDeskModel", eT7, 37), by decide +kernel, rfl, rfl, by decide, rfl, Or.inl (tb3 222 rfl)⟩
theorem dM_bear_137 : Dv mM_bear 137 .iload_n .iload 4 139 := Or.inr ⟨by decide +kernel, rfl⟩
theorem dM_bear_139 : Dn mM_bear 139 .laload 1 140 := ⟨by decide +kernel, rfl⟩
theorem dM_bear_140 : Dn mM_bear 140 .ladd 1 141 := ⟨by decide +kernel, rfl⟩
theorem dM_bear_141 : Dn mM_bear 141 .lastore 1 142 := ⟨by decide +kernel, rfl⟩
theorem dM_bear_142 : Dn mM_bear 142 (.iinc 4 1) 3 145 := ⟨by decide +kernel, rfl⟩
theorem dM_bear_145 : Dj mM_bear 145 .goto 148 113 := ⟨-32, by decide +kernel, rfl, rfl⟩
theorem dM_bear_148 : Dn mM_bear 148 .return_ 1 149 := ⟨by decide +kernel, rfl⟩
theorem dM_shareResidue_0 : Dk mM_shareResidue 0 0 1 := Or.inl ⟨0, by decide +kernel, rfl, rfl⟩
theorem dM_shareResidue_1 : Dv mM_shareResidue 1 .istore_n .istore 3 2 := Or.inl ⟨3, by decide +kernel, rfl, rfl⟩
theorem dM_shareResidue_2 : Dk mM_shareResidue 2 0 3 := Or.inl ⟨0, by decide +kernel, rfl, rfl⟩
theorem dM_shareResidue_3 : Dv mM_shareResidue 3 .istore_n .istore 4 5 := Or.inr ⟨by decide +kernel, rfl⟩
theorem dM_shareResidue_5 : Dv mM_shareResidue 5 .iload_n .iload 4 7 := Or.inr ⟨by decide +kernel, rfl⟩
theorem dM_shareResidue_7 : Dk mM_shareResidue 7 41 9 := Or.inr (Or.inl ⟨41, by decide +kernel, by decide +kernel, rfl⟩)
theorem dM_shareResidue_9 : Dj mM_shareResidue 9 (.if_icmp .ge) 12 79 := ⟨70, by decide +kernel, rfl, rfl⟩
theorem dM_shareResidue_12 : Dv mM_shareResidue 12 .iload_n .iload 4 14 := Or.inr ⟨by decide +kernel, rfl⟩
theorem dM_shareResidue_14 : Dj mM_shareResidue 14 (.ifCond .le) 17 31 := ⟨17, by decide +kernel, rfl, rfl⟩
theorem dM_shareResidue_17 : Dv mM_shareResidue 17 .aload_n .aload 0 18 := Or.inl ⟨0, by decide +kernel, rfl, rfl⟩
theorem dM_shareResidue_18 : Dv mM_shareResidue 18 .iload_n .iload 4 20 := Or.inr ⟨by decide +kernel, rfl⟩
theorem dM_shareResidue_20 : Dk mM_shareResidue 20 4 21 := Or.inl ⟨4, by decide +kernel, rfl, rfl⟩
theorem dM_shareResidue_21 : LkV mM_shareResidue 21 24 mM_isGood := ⟨187, by decide +kernel, rfl, Or.inl (tb4 175 rfl), tb4 177 rfl, ts 29 rfl⟩
theorem dM_shareResidue_24 : Dj mM_shareResidue 24 (.ifCond .eq) 27 31 := ⟨7, by decide +kernel, rfl, rfl⟩
theorem dM_shareResidue_27 : Dk mM_shareResidue 27 1 28 := Or.inl ⟨1, by decide +kernel, rfl, rfl⟩
theorem dM_shareResidue_28 : Dj mM_shareResidue 28 .goto 31 32 := ⟨4, by decide +kernel, rfl, rfl⟩
theorem dM_shareResidue_31 : Dk mM_shareResidue 31 0 32 := Or.inl ⟨0, by decide +kernel, rfl, rfl⟩
theorem dM_shareResidue_32 : Dv mM_shareResidue 32 .istore_n .istore 5 34 := Or.inr ⟨by decide +kernel, rfl⟩
theorem dM_shareResidue_34 : Dv mM_shareResidue 34 .aload_n .aload 0 35 := Or.inl ⟨0, by decide +kernel, rfl, rfl⟩
theorem dM_shareResidue_35 : Df mM_shareResidue 35 .getfield 7 34 38 := ⟨99, ("EstateDeskModel", eT7, 37), by decide +kernel, rfl, rfl, by decide, rfl, Or.inl (tb3 221 rfl)⟩
theorem dM_shareResidue_38 : Dv mM_shareResidue 38 .iload_n .iload 4 40 := Or.inr ⟨by decide +kernel, rfl⟩
theorem dM_shareResidue_40 : Dv mM_shareResidue 40 .iload_n .iload 5 42 := Or.inr ⟨by decide +kernel, rfl⟩
theorem dM_shareResidue_42 : Dj mM_shareResidue 42 (.ifCond .eq) 45 56 := ⟨14, by decide +kernel, rfl, rfl⟩
theorem dM_shareResidue_45 : Dv mM_shareResidue 45 .aload_n .aload 0 46 := Or.inl ⟨0, by decide +kernel, rfl, rfl⟩
theorem dM_shareResidue_46 : Df mM_shareResidue 46 .getfield 7 13 49 := ⟨36, ("EstateDeskModel", eT7, 37), by decide +kernel, rfl, rfl, by decide, rfl, Or.inl (tb3 200 rfl)⟩
theorem dM_shareResidue_49 : Dv mM_shareResidue 49 .iload_n .iload 4 51 := Or.inr ⟨by decide +kernel, rfl⟩
theorem dM_shareResidue_51 : Dn mM_shareResidue 51 .iaload 1 52 := ⟨by decide +kernel, rfl⟩
theorem dM_shareResidue_52 : Dn mM_shareResidue 52 .i2l 1 53 := ⟨by decide +kernel, rfl⟩
theorem dM_shareResidue_53 : Dj mM_shareResidue 53 .goto 56 57 := ⟨4, by decide +kernel, rfl, rfl⟩
theorem dM_shareResidue_56 : Dl mM_shareResidue 56 0 57 := Or.inl ⟨0, by decide +kernel, rfl, rfl⟩
theorem dM_shareResidue_57 : Dn mM_shareResidue 57 .lastore 1 58 := ⟨by decide +kernel, rfl⟩
theorem dM_shareResidue_58 : Dv mM_shareResidue 58 .iload_n .iload 3 59 := Or.inl ⟨3, by decide +kernel, rfl, rfl⟩
theorem dM_shareResidue_59 : Dj mM_shareResidue 59 (.ifCond .ne) 62 67 := ⟨8, by decide +kernel, rfl, rfl⟩
theorem dM_shareResidue_62 : Dv mM_shareResidue 62 .iload_n .iload 5 64 := Or.inr ⟨by decide +kernel, rfl⟩
theorem dM_shareResidue_64 : Dj mM_shareResidue 64 (.ifCond .eq) 67 71 := ⟨7, by decide +kernel, rfl, rfl⟩
theorem dM_shareResidue_67 : Dk mM_shareResidue 67 1 68 := Or.inl ⟨1, by decide +kernel, rfl, rfl⟩
theorem dM_shareResidue_68 : Dj mM_shareResidue 68 .goto 71 72 := ⟨4, by decide +kernel, rfl, rfl⟩
theorem dM_shareResidue_71 : Dk mM_shareResidue 71 0 72 := Or.inl ⟨0, by decide +kernel, rfl, rfl⟩
theorem dM_shareResidue_72 : Dv mM_shareResidue 72 .istore_n .istore 3 73 := Or.inl ⟨3, by decide +kernel, rfl, rfl⟩
theorem dM_shareResidue_73 : Dn mM_shareResidue 73 (.iinc 4 1) 3 76 := ⟨by decide +kernel, rfl⟩
theorem dM_shareResidue_76 : Dj mM_shareResidue 76 .goto 79 5 := ⟨-71, by decide +kernel, rfl, rfl⟩
theorem dM_shareResidue_79 : Dv mM_shareResidue 79 .iload_n .iload 3 80 := Or.inl ⟨3, by decide +kernel, rfl, rfl⟩
theorem dM_shareResidue_80 : Dj mM_shareResidue 80 (.ifCond .ne) 83 98 := ⟨18, by decide +kernel, rfl, rfl⟩
theorem dM_shareResidue_83 : Dv mM_shareResidue 83 .aload_n .aload 0 84 := Or.inl ⟨0, by decide +kernel, rfl, rfl⟩
theorem dM_shareResidue_84 : Df mM_shareResidue 84 .getfield 7 30 87 := ⟨87, ("EstateDeskModel", eT7, 37), by decide +kernel, rfl, rfl, by decide, rfl, Or.inl (tb3 217 rfl)⟩
theorem dM_shareResidue_87 : Dk mM_shareResidue 87 0 88 := Or.inl ⟨0, by decide +kernel, rfl, rfl⟩
theorem dM_shareResidue_88 : Dv mM_shareResidue 88 .aload_n .aload 0 89 := Or.inl ⟨0, by decide +kernel, rfl, rfl⟩
theorem dM_shareResidue_89 : Df mM_shareResidue 89 .getfield 7 30 92 := ⟨87, ("EstateDeskModel", eT7, 37), by decide +kernel, rfl, rfl, by decide, rfl, Or.inl (tb3 217 rfl)⟩
theorem dM_shareResidue_92 : Dk mM_shareResidue 92 0 93 := Or.inl ⟨0, by decide +kernel, rfl, rfl⟩
theorem dM_shareResidue_93 : Dn mM_shareResidue 93 .laload 1 94 := ⟨by decide +kernel, rfl⟩
theorem dM_shareResidue_94 : Dv mM_shareResidue 94 .lload_n .lload 1 95 := Or.inl ⟨1, by decide +kernel, rfl, rfl⟩
theorem dM_shareResidue_95 : Dn mM_shareResidue 95 .ladd 1 96 := ⟨by decide +kernel, rfl⟩
theorem dM_shareResidue_96 : Dn mM_shareResidue 96 .lastore 1 97 := ⟨by decide +kernel, rfl⟩
theorem dM_shareResidue_97 : Dn mM_shareResidue 97 .return_ 1 98 := ⟨by decide +kernel, rfl⟩
theorem dM_shareResidue_98 : Dv mM_shareResidue 98 .aload_n .aload 0 99 := Or.inl ⟨0, by decide +kernel, rfl, rfl⟩
theorem dM_shareResidue_99 : Dv mM_shareResidue 99 .lload_n .lload 1 100 := Or.inl ⟨1, by decide +kernel, rfl, rfl⟩
theorem dM_shareResidue_100 : LkV mM_shareResidue 100 103 mM_split := ⟨202, by decide +kernel, rfl, Or.inl (tb4 204 rfl), tb4 206 rfl, ts 34 rfl⟩
theorem dM_shareResidue_103 : Dk mM_shareResidue 103 1 104 := Or.inl ⟨1, by decide +kernel, rfl, rfl⟩
theorem dM_shareResidue_104 : Dv mM_shareResidue 104 .istore_n .istore 4 106 := Or.inr ⟨by decide +kernel, rfl⟩
theorem dM_shareResidue_106 : Dv mM_shareResidue 106 .iload_n .iload 4 108 := Or.inr ⟨by decide +kernel, rfl⟩
theorem dM_shareResidue_108 : Dk mM_shareResidue 108 41 110 := Or.inr (Or.inl ⟨41, by decide +kernel, by decide +kernel, rfl⟩)
theorem dM_shareResidue_110 : Dj mM_shareResidue 110 (.if_icmp .ge) 113 133 := ⟨23, by decide +kernel, rfl, rfl⟩
theorem dM_shareResidue_113 : Dv mM_shareResidue 113 .aload_n .aload 0 114 := Or.inl ⟨0, by decide +kernel, rfl, rfl⟩
theorem dM_shareResidue_114 : Df mM_shareResidue 114 .getfield 7 25 117 := ⟨72, ("EstateDeskModel", eT7, 37), by decide +kernel, rfl, rfl, by decide, rfl, Or.inl (tb3 212 rfl)⟩
theorem dM_shareResidue_117 : Dv mM_shareResidue 117 .iload_n .iload 4 119 := Or.inr ⟨by decide +kernel, rfl⟩
theorem dM_shareResidue_119 : Dv mM_shareResidue 119 .aload_n .aload 0 120 := Or.inl ⟨0, by decide +kernel, rfl, rfl⟩
theorem dM_shareResidue_120 : Df mM_shareResidue 120 .getfield 7 35 123 := ⟨102, ("EstateDeskModel", eT7, 37), by decide +kernel, rfl, rfl, by decide, rfl, Or.inl (tb3 222 rfl)⟩
theorem dM_shareResidue_123 : Dv mM_shareResidue 123 .iload_n .iload 4 125 := Or.inr ⟨by decide +kernel, rfl⟩
theorem dM_shareResidue_125 : Dn mM_shareResidue 125 .laload 1 126 := ⟨by decide +kernel, rfl⟩
theorem dM_shareResidue_126 : Dn mM_shareResidue 126 .lastore 1 127 := ⟨by decide +kernel, rfl⟩
theorem dM_shareResidue_127 : Dn mM_shareResidue 127 (.iinc 4 1) 3 130 := ⟨by decide +kernel, rfl⟩
theorem dM_shareResidue_130 : Dj mM_shareResidue 130 .goto 133 106 := ⟨-24, by decide +kernel, rfl, rfl⟩
theorem dM_shareResidue_133 : Dn mM_shareResidue 133 .return_ 1 134 := ⟨by decide +kernel, rfl⟩
theorem dM_hand_0 : Dk mM_hand 0 1 1 := Or.inl ⟨1, by decide +kernel, rfl, rfl⟩
theorem dM_hand_1 : Dv mM_hand 1 .istore_n .istore 1 2 := Or.inl ⟨1, by decide +kernel, rfl, rfl⟩
theorem dM_hand_2 : Dv mM_hand 2 .iload_n .iload 1 3 := Or.inl ⟨1, by decide +kernel, rfl, rfl⟩
theorem dM_hand_3 : Dk mM_hand 3 41 5 := Or.inr (Or.inl ⟨41, by decide +kernel, by decide +kernel, rfl⟩)
theorem dM_hand_5 : Dj mM_hand 5 (.if_icmp .ge) 8 179 := ⟨174, by decide +kernel, rfl, rfl⟩
theorem dM_hand_8 : Dv mM_hand 8 .aload_n .aload 0 9 := Or.inl ⟨0, by decide +kernel, rfl, rfl⟩
theorem dM_hand_9 : Df mM_hand 9 .getfield 7 19 12 := ⟨54, ("EstateDeskModel", eT7, 37), by decide +kernel, rfl, rfl, by decide, rfl, Or.inl (tb3 206 rfl)⟩
theorem dM_hand_12 : Dv mM_hand 12 .iload_n .iload 1 13 := Or.inl ⟨1, by decide +kernel, rfl, rfl⟩
theorem dM_hand_13 : Dn mM_hand 13 .iaload 1 14 := ⟨by decide +kernel, rfl⟩
theorem dM_hand_14 : Dj mM_hand 14 (.ifCond .ne) 17 173 := ⟨159, by decide +kernel, rfl, rfl⟩
theorem dM_hand_17 : Dv mM_hand 17 .aload_n .aload 0 18 := Or.inl ⟨0, by decide +kernel, rfl, rfl⟩
theorem dM_hand_18 : Df mM_hand 18 .getfield 7 20 21 := ⟨57, ("EstateDeskModel", eT7, 37), by decide +kernel, rfl, rfl, by decide, rfl, Or.inl (tb3 207 rfl)⟩
theorem dM_hand_21 : Dv mM_hand 21 .iload_n .iload 1 22 := Or.inl ⟨1, by decide +kernel, rfl, rfl⟩
theorem dM_hand_22 : Dn mM_hand 22 .iaload 1 23 := ⟨by decide +kernel, rfl⟩
theorem dM_hand_23 : Dv mM_hand 23 .istore_n .istore 2 24 := Or.inl ⟨2, by decide +kernel, rfl, rfl⟩
theorem dM_hand_24 : Dv mM_hand 24 .aload_n .aload 0 25 := Or.inl ⟨0, by decide +kernel, rfl, rfl⟩
theorem dM_hand_25 : Df mM_hand 25 .getfield 7 10 28 := ⟨27, ("EstateDeskModel", eT7, 37), by decide +kernel, rfl, rfl, by decide, rfl, Or.inl (tb3 197 rfl)⟩
theorem dM_hand_28 : Dv mM_hand 28 .iload_n .iload 1 29 := Or.inl ⟨1, by decide +kernel, rfl, rfl⟩
theorem dM_hand_29 : Dn mM_hand 29 .iaload 1 30 := ⟨by decide +kernel, rfl⟩
theorem dM_hand_30 : Dk mM_hand 30 1 31 := Or.inl ⟨1, by decide +kernel, rfl, rfl⟩
theorem dM_hand_31 : Dj mM_hand 31 (.if_icmp .ne) 34 103 := ⟨72, by decide +kernel, rfl, rfl⟩
theorem dM_hand_34 : Dv mM_hand 34 .aload_n .aload 0 35 := Or.inl ⟨0, by decide +kernel, rfl, rfl⟩
theorem dM_hand_35 : Df mM_hand 35 .getfield 7 29 38 := ⟨84, ("EstateDeskModel", eT7, 37), by decide +kernel, rfl, rfl, by decide, rfl, Or.inl (tb3 216 rfl)⟩
theorem dM_hand_38 : Dv mM_hand 38 .iload_n .iload 2 39 := Or.inl ⟨2, by decide +kernel, rfl, rfl⟩
theorem dM_hand_39 : Dv mM_hand 39 .aload_n .aload 0 40 := Or.inl ⟨0, by decide +kernel, rfl, rfl⟩
theorem dM_hand_40 : Df mM_hand 40 .getfield 7 29 43 := ⟨84, ("EstateDeskModel", eT7, 37), by decide +kernel, rfl, rfl, by decide, rfl, Or.inl (tb3 216 rfl)⟩
theorem dM_hand_43 : Dv mM_hand 43 .iload_n .iload 2 44 := Or.inl ⟨2, by decide +kernel, rfl, rfl⟩
theorem dM_hand_44 : Dn mM_hand 44 .laload 1 45 := ⟨by decide +kernel, rfl⟩
theorem dM_hand_45 : Dv mM_hand 45 .aload_n .aload 0 46 := Or.inl ⟨0, by decide +kernel, rfl, rfl⟩
theorem dM_hand_46 : Df mM_hand 46 .getfield 7 7 49 := ⟨17, ("EstateDeskModel", eT7, 37), by decide +kernel, rfl, rfl, by decide, rfl, Or.inl (tb3 194 rfl)⟩
theorem dM_hand_49 : Dv mM_hand 49 .aload_n .aload 0 50 := Or.inl ⟨0, by decide +kernel, rfl, rfl⟩
theorem dM_hand_50 : Df mM_hand 50 .getfield 7 11 53 := ⟨30, ("EstateDeskModel", eT7, 37), by decide +kernel, rfl, rfl, by decide, rfl, Or.inl (tb3 198 rfl)⟩
theorem dM_hand_53 : Dv mM_hand 53 .iload_n .iload 1 54 := Or.inl ⟨1, by decide +kernel, rfl, rfl⟩
theorem dM_hand_54 : Dn mM_hand 54 .iaload 1 55 := ⟨by decide +kernel, rfl⟩
theorem dM_hand_55 : Dn mM_hand 55 .laload 1 56 := ⟨by decide +kernel, rfl⟩
theorem dM_hand_56 : Dn mM_hand 56 .ladd 1 57 := ⟨by decide +kernel, rfl⟩
theorem dM_hand_57 : Dn mM_hand 57 .lastore 1 58 := ⟨by decide +kernel, rfl⟩
theorem dM_hand_58 : Dv mM_hand 58 .aload_n .aload 0 59 := Or.inl ⟨0, by decide +kernel, rfl, rfl⟩
theorem dM_hand_59 : Df mM_hand 59 .getfield 7 31 62 := ⟨90, ("EstateDeskModel", eT7, 37), by decide +kernel, rfl, rfl, by decide, rfl, Or.inl (tb3 218 rfl)⟩
theorem dM_hand_62 : Dv mM_hand 62 .iload_n .iload 2 63 := Or.inl ⟨2, by decide +kernel, rfl, rfl⟩
theorem dM_hand_63 : Dv mM_hand 63 .aload_n .aload 0 64 := Or.inl ⟨0, by decide +kernel, rfl, rfl⟩
theorem dM_hand_64 : Df mM_hand 64 .getfield 7 31 67 := ⟨90, ("EstateDeskModel", eT7, 37), by decide +kernel, rfl, rfl, by decide, rfl, Or.inl (tb3 218 rfl)⟩
theorem dM_hand_67 : Dv mM_hand 67 .iload_n .iload 2 68 := Or.inl ⟨2, by decide +kernel, rfl, rfl⟩
theorem dM_hand_68 : Dn mM_hand 68 .laload 1 69 := ⟨by decide +kernel, rfl⟩
theorem dM_hand_69 : Dv mM_hand 69 .aload_n .aload 0 70 := Or.inl ⟨0, by decide +kernel, rfl, rfl⟩
theorem dM_hand_70 : Dv mM_hand 70 .aload_n .aload 0 71 := Or.inl ⟨0, by decide +kernel, rfl, rfl⟩
theorem dM_hand_71 : Df mM_hand 71 .getfield 7 11 74 := ⟨30, ("EstateDeskModel", eT7, 37), by decide +kernel, rfl, rfl, by decide, rfl, Or.inl (tb3 198 rfl)⟩
theorem dM_hand_74 : Dv mM_hand 74 .iload_n .iload 1 75 := Or.inl ⟨1, by decide +kernel, rfl, rfl⟩
theorem dM_hand_75 : Dn mM_hand 75 .iaload 1 76 := ⟨by decide +kernel, rfl⟩
theorem dM_hand_76 : LkV mM_hand 76 79 mM_ownOf := ⟨194, by decide +kernel, rfl, Or.inl (tb4 183 rfl), tb4 185 rfl, ts 31 rfl⟩
theorem dM_hand_79 : Dn mM_hand 79 .ladd 1 80 := ⟨by decide +kernel, rfl⟩
theorem dM_hand_80 : Dv mM_hand 80 .aload_n .aload 0 81 := Or.inl ⟨0, by decide +kernel, rfl, rfl⟩
theorem dM_hand_81 : Df mM_hand 81 .getfield 7 24 84 := ⟨69, ("EstateDeskModel", eT7, 37), by decide +kernel, rfl, rfl, by decide, rfl, Or.inl (tb3 211 rfl)⟩
theorem dM_hand_84 : Dv mM_hand 84 .iload_n .iload 1 85 := Or.inl ⟨1, by decide +kernel, rfl, rfl⟩
theorem dM_hand_85 : Dn mM_hand 85 .laload 1 86 := ⟨by decide +kernel, rfl⟩
theorem dM_hand_86 : Dn mM_hand 86 .ladd 1 87 := ⟨by decide +kernel, rfl⟩
theorem dM_hand_87 : Dn mM_hand 87 .lastore 1 88 := ⟨by decide +kernel, rfl⟩
theorem dM_hand_88 : Dv mM_hand 88 .aload_n .aload 0 89 := Or.inl ⟨0, by decide +kernel, rfl, rfl⟩
theorem dM_hand_89 : Df mM_hand 89 .getfield 7 32 92 := ⟨93, ("EstateDeskModel", eT7, 37), by decide +kernel, rfl, rfl, by decide, rfl, Or.inl (tb3 219 rfl)⟩
theorem dM_hand_92 : Dv mM_hand 92 .aload_n .aload 0 93 := Or.inl ⟨0, by decide +kernel, rfl, rfl⟩
theorem dM_hand_93 : Df mM_hand 93 .getfield 7 11 96 := ⟨30, ("EstateDeskModel", eT7, 37), by decide +kernel, rfl, rfl, by decide, rfl, Or.inl (tb3 198 rfl)⟩
theorem dM_hand_96 : Dv mM_hand 96 .iload_n .iload 1 97 := Or.inl ⟨1, by decide +kernel, rfl, rfl⟩
theorem dM_hand_97 : Dn mM_hand 97 .iaload 1 98 := ⟨by decide +kernel, rfl⟩
theorem dM_hand_98 : Dv mM_hand 98 .iload_n .iload 2 99 := Or.inl ⟨2, by decide +kernel, rfl, rfl⟩
theorem dM_hand_99 : Dn mM_hand 99 .iastore 1 100 := ⟨by decide +kernel, rfl⟩
theorem dM_hand_100 : Dj mM_hand 100 .goto 103 132 := ⟨32, by decide +kernel, rfl, rfl⟩
theorem dM_hand_103 : Dv mM_hand 103 .aload_n .aload 0 104 := Or.inl ⟨0, by decide +kernel, rfl, rfl⟩
theorem dM_hand_104 : Df mM_hand 104 .getfield 7 10 107 := ⟨27, ("EstateDeskModel", eT7, 37), by decide +kernel, rfl, rfl, by decide, rfl, Or.inl (tb3 197 rfl)⟩
theorem dM_hand_107 : Dv mM_hand 107 .iload_n .iload 1 108 := Or.inl ⟨1, by decide +kernel, rfl, rfl⟩
theorem dM_hand_108 : Dn mM_hand 108 .iaload 1 109 := ⟨by decide +kernel, rfl⟩
theorem dM_hand_109 : Dk mM_hand 109 4 110 := Or.inl ⟨4, by decide +kernel, rfl, rfl⟩
theorem dM_hand_110 : Dj mM_hand 110 (.if_icmp .ge) 113 132 := ⟨22, by decide +kernel, rfl, rfl⟩
theorem dM_hand_113 : Dv mM_hand 113 .aload_n .aload 0 114 := Or.inl ⟨0, by decide +kernel, rfl, rfl⟩
theorem dM_hand_114 : Df mM_hand 114 .getfield 7 25 117 := ⟨72, ("EstateDeskModel", eT7, 37), by decide +kernel, rfl, rfl, by decide, rfl, Or.inl (tb3 212 rfl)⟩
theorem dM_hand_117 : Dv mM_hand 117 .iload_n .iload 1 118 := Or.inl ⟨1, by decide +kernel, rfl, rfl⟩
theorem dM_hand_118 : Dv mM_hand 118 .aload_n .aload 0 119 := Or.inl ⟨0, by decide +kernel, rfl, rfl⟩
theorem dM_hand_119 : Df mM_hand 119 .getfield 7 23 122 := ⟨66, ("EstateDeskModel", eT7, 37), by decide +kernel, rfl, rfl, by decide, rfl, Or.inl (tb3 210 rfl)⟩
theorem dM_hand_122 : Dv mM_hand 122 .iload_n .iload 1 123 := Or.inl ⟨1, by decide +kernel, rfl, rfl⟩
theorem dM_hand_123 : Dn mM_hand 123 .laload 1 124 := ⟨by decide +kernel, rfl⟩
theorem dM_hand_124 : Dv mM_hand 124 .aload_n .aload 0 125 := Or.inl ⟨0, by decide +kernel, rfl, rfl⟩
theorem dM_hand_125 : Df mM_hand 125 .getfield 7 24 128 := ⟨69, ("EstateDeskModel", eT7, 37), by decide +kernel, rfl, rfl, by decide, rfl, Or.inl (tb3 211 rfl)⟩
theorem dM_hand_128 : Dv mM_hand 128 .iload_n .iload 1 129 := Or.inl ⟨1, by decide +kernel, rfl, rfl⟩
theorem dM_hand_129 : Dn mM_hand 129 .laload 1 130 := ⟨by decide +kernel, rfl⟩
theorem dM_hand_130 : Dn mM_hand 130 .lsub 1 131 := ⟨by decide +kernel, rfl⟩
theorem dM_hand_131 : Dn mM_hand 131 .lastore 1 132 := ⟨by decide +kernel, rfl⟩
theorem dM_hand_132 : Dv mM_hand 132 .aload_n .aload 0 133 := Or.inl ⟨0, by decide +kernel, rfl, rfl⟩
theorem dM_hand_133 : Df mM_hand 133 .getfield 7 30 136 := ⟨87, ("EstateDeskModel", eT7, 37), by decide +kernel, rfl, rfl, by decide, rfl, Or.inl (tb3 217 rfl)⟩
theorem dM_hand_136 : Dv mM_hand 136 .iload_n .iload 2 137 := Or.inl ⟨2, by decide +kernel, rfl, rfl⟩
theorem dM_hand_137 : Dv mM_hand 137 .aload_n .aload 0 138 := Or.inl ⟨0, by decide +kernel, rfl, rfl⟩
theorem dM_hand_138 : Df mM_hand 138 .getfield 7 30 141 := ⟨87, ("EstateDeskModel", eT7, 37), by decide +kernel, rfl, rfl, by decide, rfl, Or.inl (tb3 217 rfl)⟩
theorem dM_hand_141 : Dv mM_hand 141 .iload_n .iload 2 142 := Or.inl ⟨2, by decide +kernel, rfl, rfl⟩
theorem dM_hand_142 : Dn mM_hand 142 .laload 1 143 := ⟨by decide +kernel, rfl⟩
theorem dM_hand_143 : Dv mM_hand 143 .aload_n .aload 0 144 := Or.inl ⟨0, by decide +kernel, rfl, rfl⟩
theorem dM_hand_144 : Df mM_hand 144 .getfield 7 25 147 := ⟨72, ("EstateDeskModel", eT7, 37), by decide +kernel, rfl, rfl, by decide, rfl, Or.inl (tb3 212 rfl)⟩
theorem dM_hand_147 : Dv mM_hand 147 .iload_n .iload 1 148 := Or.inl ⟨1, by decide +kernel, rfl, rfl⟩
theorem dM_hand_148 : Dn mM_hand 148 .laload 1 149 := ⟨by decide +kernel, rfl⟩
theorem dM_hand_149 : Dn mM_hand 149 .ladd 1 150 := ⟨by decide +kernel, rfl⟩
theorem dM_hand_150 : Dn mM_hand 150 .lastore 1 151 := ⟨by decide +kernel, rfl⟩
theorem dM_hand_151 : Dv mM_hand 151 .aload_n .aload 0 152 := Or.inl ⟨0, by decide +kernel, rfl, rfl⟩
theorem dM_hand_152 : Df mM_hand 152 .getfield 7 19 155 := ⟨54, ("EstateDeskModel", eT7, 37), by decide +kernel, rfl, rfl, by decide, rfl, Or.inl (tb3 206 rfl)⟩
theorem dM_hand_155 : Dv mM_hand 155 .iload_n .iload 1 156 := Or.inl ⟨1, by decide +kernel, rfl, rfl⟩
theorem dM_hand_156 : Dv mM_hand 156 .aload_n .aload 0 157 := Or.inl ⟨0, by decide +kernel, rfl, rfl⟩
theorem dM_hand_157 : Df mM_hand 157 .getfield 7 24 160 := ⟨69, ("EstateDeskModel", eT7, 37), by decide +kernel, rfl, rfl, by decide, rfl, Or.inl (tb3 211 rfl)⟩
theorem dM_hand_160 : Dv mM_hand 160 .iload_n .iload 1 161 := Or.inl ⟨1, by decide +kernel, rfl, rfl⟩
theorem dM_hand_161 : Dn mM_hand 161 .laload 1 162 := ⟨by decide +kernel, rfl⟩
theorem dM_hand_162 : Dl mM_hand 162 0 163 := Or.inl ⟨0, by decide +kernel, rfl, rfl⟩
theorem dM_hand_163 : Dn mM_hand 163 .lcmp 1 164 := ⟨by decide +kernel, rfl⟩
theorem dM_hand_164 : Dj mM_hand 164 (.ifCond .le) 167 171 := ⟨7, by decide +kernel, rfl, rfl⟩
theorem dM_hand_167 : Dk mM_hand 167 3 168 := Or.inl ⟨3, by decide +kernel, rfl, rfl⟩
theorem dM_hand_168 : Dj mM_hand 168 .goto 171 172 := ⟨4, by decide +kernel, rfl, rfl⟩
theorem dM_hand_171 : Dk mM_hand 171 0 172 := Or.inl ⟨0, by decide +kernel, rfl, rfl⟩
theorem dM_hand_172 : Dn mM_hand 172 .iastore 1 173 := ⟨by decide +kernel, rfl⟩
theorem dM_hand_173 : Dn mM_hand 173 (.iinc 1 1) 3 176 := ⟨by decide +kernel, rfl⟩
theorem dM_hand_176 : Dj mM_hand 176 .goto 179 2 := ⟨-174, by decide +kernel, rfl, rfl⟩
theorem dM_hand_179 : Dn mM_hand 179 .return_ 1 180 := ⟨by decide +kernel, rfl⟩
end
section
theorem dM_spread_0 : Dk mM_spread 0 0 1 := Or.inl ⟨0, by decide +kernel, rfl, rfl⟩
theorem dM_spread_1 : Dv mM_spread 1 .istore_n .istore 3 2 := Or.inl ⟨3, by decide +kernel, rfl, rfl⟩
theorem dM_spread_2 : Dv mM_spread 2 .iload_n .iload 3 3 := Or.inl ⟨3, by decide +kernel, rfl, rfl⟩
theorem dM_spread_3 : Dk mM_spread 3 41 5 := Or.inr (Or.inl ⟨41, by decide +kernel, by decide +kernel, rfl⟩)
theorem dM_spread_5 : Dj mM_spread 5 (.if_icmp .ge) 8 34 := ⟨29, by decide +kernel, rfl, rfl⟩
theorem dM_spread_8 : Dv mM_spread 8 .aload_n .aload 0 9 := Or.inl ⟨0, by decide +kernel, rfl, rfl⟩
theorem dM_spread_9 : Df mM_spread 9 .getfield 7 34 12 := ⟨99, ("EstateDeskModel", eT7, 37), by decide +kernel, rfl, rfl, by decide, rfl, Or.inl (tb3 221 rfl)⟩
theorem dM_spread_12 : Dv mM_spread 12 .iload_n .iload 3 13 := Or.inl ⟨3, by decide +kernel, rfl, rfl⟩
theorem dM_spread_13 : Dv mM_spread 13 .iload_n .iload 3 14 := Or.inl ⟨3, by decide +kernel, rfl, rfl⟩
theorem dM_spread_14 : Dj mM_spread 14 (.ifCond .le) 17 26 := ⟨12, by decide +kernel, rfl, rfl⟩
theorem dM_spread_17 : Dv mM_spread 17 .aload_n .aload 0 18 := Or.inl ⟨0, by decide +kernel, rfl, rfl⟩
theorem dM_spread_18 : Df mM_spread 18 .getfield 7 27 21 := ⟨78, ("EstateDeskModel", eT7, 37), by decide +kernel, rfl, rfl, by decide, rfl, Or.inl (tb3 214 rfl)⟩
theorem dM_spread_21 : Dv mM_spread 21 .iload_n .iload 3 22 := Or.inl ⟨3, by decide +kernel, rfl, rfl⟩
theorem dM_spread_22 : Dn mM_spread 22 .laload 1 23 := ⟨by decide +kernel, rfl⟩
theorem dM_spread_23 : Dj mM_spread 23 .goto 26 27 := ⟨4, by decide +kernel, rfl, rfl⟩
theorem dM_spread_26 : Dl mM_spread 26 0 27 := Or.inl ⟨0, by decide +kernel, rfl, rfl⟩
theorem dM_spread_27 : Dn mM_spread 27 .lastore 1 28 := ⟨by decide +kernel, rfl⟩
theorem dM_spread_28 : Dn mM_spread 28 (.iinc 3 1) 3 31 := ⟨by decide +kernel, rfl⟩
theorem dM_spread_31 : Dj mM_spread 31 .goto 34 2 := ⟨-29, by decide +kernel, rfl, rfl⟩
theorem dM_spread_34 : Dv mM_spread 34 .aload_n .aload 0 35 := Or.inl ⟨0, by decide +kernel, rfl, rfl⟩
theorem dM_spread_35 : Dv mM_spread 35 .lload_n .lload 1 36 := Or.inl ⟨1, by decide +kernel, rfl, rfl⟩
theorem dM_spread_36 : LkV mM_spread 36 39 mM_split := ⟨202, by decide +kernel, rfl, Or.inl (tb4 204 rfl), tb4 206 rfl, ts 34 rfl⟩
theorem dM_spread_39 : Dk mM_spread 39 1 40 := Or.inl ⟨1, by decide +kernel, rfl, rfl⟩
theorem dM_spread_40 : Dv mM_spread 40 .istore_n .istore 3 41 := Or.inl ⟨3, by decide +kernel, rfl, rfl⟩
theorem dM_spread_41 : Dv mM_spread 41 .iload_n .iload 3 42 := Or.inl ⟨3, by decide +kernel, rfl, rfl⟩
theorem dM_spread_42 : Dk mM_spread 42 41 44 := Or.inr (Or.inl ⟨41, by decide +kernel, by decide +kernel, rfl⟩)
theorem dM_spread_44 : Dj mM_spread 44 (.if_icmp .ge) 47 72 := ⟨28, by decide +kernel, rfl, rfl⟩
theorem dM_spread_47 : Dv mM_spread 47 .aload_n .aload 0 48 := Or.inl ⟨0, by decide +kernel, rfl, rfl⟩
theorem dM_spread_48 : Df mM_spread 48 .getfield 7 28 51 := ⟨81, ("EstateDeskModel", eT7, 37), by decide +kernel, rfl, rfl, by decide, rfl, Or.inl (tb3 215 rfl)⟩
theorem dM_spread_51 : Dv mM_spread 51 .iload_n .iload 3 52 := Or.inl ⟨3, by decide +kernel, rfl, rfl⟩
theorem dM_spread_52 : Dv mM_spread 52 .aload_n .aload 0 53 := Or.inl ⟨0, by decide +kernel, rfl, rfl⟩
theorem dM_spread_53 : Df mM_spread 53 .getfield 7 26 56 := ⟨75, ("EstateDeskModel", eT7, 37), by decide +kernel, rfl, rfl, by decide, rfl, Or.inl (tb3 213 rfl)⟩
theorem dM_spread_56 : Dv mM_spread 56 .iload_n .iload 3 57 := Or.inl ⟨3, by decide +kernel, rfl, rfl⟩
theorem dM_spread_57 : Dn mM_spread 57 .laload 1 58 := ⟨by decide +kernel, rfl⟩
theorem dM_spread_58 : Dv mM_spread 58 .aload_n .aload 0 59 := Or.inl ⟨0, by decide +kernel, rfl, rfl⟩
theorem dM_spread_59 : Df mM_spread 59 .getfield 7 35 62 := ⟨102, ("EstateDeskModel", eT7, 37), by decide +kernel, rfl, rfl, by decide, rfl, Or.inl (tb3 222 rfl)⟩
theorem dM_spread_62 : Dv mM_spread 62 .iload_n .iload 3 63 := Or.inl ⟨3, by decide +kernel, rfl, rfl⟩
theorem dM_spread_63 : Dn mM_spread 63 .laload 1 64 := ⟨by decide +kernel, rfl⟩
theorem dM_spread_64 : Dn mM_spread 64 .ladd 1 65 := ⟨by decide +kernel, rfl⟩
theorem dM_spread_65 : Dn mM_spread 65 .lastore 1 66 := ⟨by decide +kernel, rfl⟩
theorem dM_spread_66 : Dn mM_spread 66 (.iinc 3 1) 3 69 := ⟨by decide +kernel, rfl⟩
theorem dM_spread_69 : Dj mM_spread 69 .goto 72 41 := ⟨-28, by decide +kernel, rfl, rfl⟩
theorem dM_spread_72 : Dk mM_spread 72 1 73 := Or.inl ⟨1, by decide +kernel, rfl, rfl⟩
theorem dM_spread_73 : Dv mM_spread 73 .istore_n .istore 3 74 := Or.inl ⟨3, by decide +kernel, rfl, rfl⟩
theorem dM_spread_74 : Dv mM_spread 74 .iload_n .iload 3 75 := Or.inl ⟨3, by decide +kernel, rfl, rfl⟩
theorem dM_spread_75 : Dk mM_spread 75 41 77 := Or.inr (Or.inl ⟨41, by decide +kernel, by decide +kernel, rfl⟩)
theorem dM_spread_77 : Dj mM_spread 77 (.if_icmp .ge) 80 114 := ⟨37, by decide +kernel, rfl, rfl⟩
theorem dM_spread_80 : Dv mM_spread 80 .aload_n .aload 0 81 := Or.inl ⟨0, by decide +kernel, rfl, rfl⟩
theorem dM_spread_81 : Df mM_spread 81 .getfield 7 19 84 := ⟨54, ("EstateDeskModel", eT7, 37), by decide +kernel, rfl, rfl, by decide, rfl, Or.inl (tb3 206 rfl)⟩
theorem dM_spread_84 : Dv mM_spread 84 .iload_n .iload 3 85 := Or.inl ⟨3, by decide +kernel, rfl, rfl⟩
theorem dM_spread_85 : Dn mM_spread 85 .iaload 1 86 := ⟨by decide +kernel, rfl⟩
theorem dM_spread_86 : Dj mM_spread 86 (.ifCond .ne) 89 108 := ⟨22, by decide +kernel, rfl, rfl⟩
theorem dM_spread_89 : Dv mM_spread 89 .aload_n .aload 0 90 := Or.inl ⟨0, by decide +kernel, rfl, rfl⟩
theorem dM_spread_90 : Df mM_spread 90 .getfield 7 19 93 := ⟨54, ("EstateDeskModel", eT7, 37), by decide +kernel, rfl, rfl, by decide, rfl, Or.inl (tb3 206 rfl)⟩
theorem dM_spread_93 : Dv mM_spread 93 .iload_n .iload 3 94 := Or.inl ⟨3, by decide +kernel, rfl, rfl⟩
theorem dM_spread_94 : Dk mM_spread 94 3 95 := Or.inl ⟨3, by decide +kernel, rfl, rfl⟩
theorem dM_spread_95 : Dn mM_spread 95 .iastore 1 96 := ⟨by decide +kernel, rfl⟩
theorem dM_spread_96 : Dv mM_spread 96 .aload_n .aload 0 97 := Or.inl ⟨0, by decide +kernel, rfl, rfl⟩
theorem dM_spread_97 : Df mM_spread 97 .getfield 7 24 100 := ⟨69, ("EstateDeskModel", eT7, 37), by decide +kernel, rfl, rfl, by decide, rfl, Or.inl (tb3 211 rfl)⟩
theorem dM_spread_100 : Dv mM_spread 100 .iload_n .iload 3 101 := Or.inl ⟨3, by decide +kernel, rfl, rfl⟩
theorem dM_spread_101 : Dv mM_spread 101 .aload_n .aload 0 102 := Or.inl ⟨0, by decide +kernel, rfl, rfl⟩
theorem dM_spread_102 : Df mM_spread 102 .getfield 7 23 105 := ⟨66, ("EstateDeskModel", eT7, 37), by decide +kernel, rfl, rfl, by decide, rfl, Or.inl (tb3 210 rfl)⟩
theorem dM_spread_105 : Dv mM_spread 105 .iload_n .iload 3 106 := Or.inl ⟨3, by decide +kernel, rfl, rfl⟩
theorem dM_spread_106 : Dn mM_spread 106 .laload 1 107 := ⟨by decide +kernel, rfl⟩
theorem dM_spread_107 : Dn mM_spread 107 .lastore 1 108 := ⟨by decide +kernel, rfl⟩
theorem dM_spread_108 : Dn mM_spread 108 (.iinc 3 1) 3 111 := ⟨by decide +kernel, rfl⟩
theorem dM_spread_111 : Dj mM_spread 111 .goto 114 74 := ⟨-37, by decide +kernel, rfl, rfl⟩
theorem dM_spread_114 : Dn mM_spread 114 .return_ 1 115 := ⟨by decide +kernel, rfl⟩
theorem dM_addUp_0 : Dk mM_addUp 0 0 1 := Or.inl ⟨0, by decide +kernel, rfl, rfl⟩
theorem dM_addUp_1 : Dv mM_addUp 1 .istore_n .istore 1 2 := Or.inl ⟨1, by decide +kernel, rfl, rfl⟩
theorem dM_addUp_2 : Dv mM_addUp 2 .iload_n .iload 1 3 := Or.inl ⟨1, by decide +kernel, rfl, rfl⟩
theorem dM_addUp_3 : Dk mM_addUp 3 8 5 := Or.inr (Or.inl ⟨8, by decide +kernel, by decide +kernel, rfl⟩)
theorem dM_addUp_5 : Dj mM_addUp 5 (.if_icmp .ge) 8 21 := ⟨16, by decide +kernel, rfl, rfl⟩
theorem dM_addUp_8 : Dv mM_addUp 8 .aload_n .aload 0 9 := Or.inl ⟨0, by decide +kernel, rfl, rfl⟩
theorem dM_addUp_9 : Df mM_addUp 9 .getfield 7 33 12 := ⟨96, ("EstateDeskModel", eT7, 37), by decide +kernel, rfl, rfl, by decide, rfl, Or.inl (tb3 220 rfl)⟩
theorem dM_addUp_12 : Dv mM_addUp 12 .iload_n .iload 1 13 := Or.inl ⟨1, by decide +kernel, rfl, rfl⟩
theorem dM_addUp_13 : Dl mM_addUp 13 0 14 := Or.inl ⟨0, by decide +kernel, rfl, rfl⟩
theorem dM_addUp_14 : Dn mM_addUp 14 .lastore 1 15 := ⟨by decide +kernel, rfl⟩
theorem dM_addUp_15 : Dn mM_addUp 15 (.iinc 1 1) 3 18 := ⟨by decide +kernel, rfl⟩
theorem dM_addUp_18 : Dj mM_addUp 18 .goto 21 2 := ⟨-16, by decide +kernel, rfl, rfl⟩
theorem dM_addUp_21 : Dk mM_addUp 21 1 22 := Or.inl ⟨1, by decide +kernel, rfl, rfl⟩
theorem dM_addUp_22 : Dv mM_addUp 22 .istore_n .istore 1 23 := Or.inl ⟨1, by decide +kernel, rfl, rfl⟩
theorem dM_addUp_23 : Dv mM_addUp 23 .iload_n .iload 1 24 := Or.inl ⟨1, by decide +kernel, rfl, rfl⟩
theorem dM_addUp_24 : Dk mM_addUp 24 41 26 := Or.inr (Or.inl ⟨41, by decide +kernel, by decide +kernel, rfl⟩)
theorem dM_addUp_26 : Dj mM_addUp 26 (.if_icmp .ge) 29 131 := ⟨105, by decide +kernel, rfl, rfl⟩
theorem dM_addUp_29 : Dv mM_addUp 29 .aload_n .aload 0 30 := Or.inl ⟨0, by decide +kernel, rfl, rfl⟩
theorem dM_addUp_30 : Df mM_addUp 30 .getfield 7 6 33 := ⟨13, ("EstateDeskModel", eT7, 37), by decide +kernel, rfl, rfl, by decide, rfl, Or.inl (tb3 193 rfl)⟩
theorem dM_addUp_33 : Dv mM_addUp 33 .iload_n .iload 1 34 := Or.inl ⟨1, by decide +kernel, rfl, rfl⟩
theorem dM_addUp_34 : Dn mM_addUp 34 .baload 1 35 := ⟨by decide +kernel, rfl⟩
theorem dM_addUp_35 : Dj mM_addUp 35 (.ifCond .eq) 38 51 := ⟨16, by decide +kernel, rfl, rfl⟩
theorem dM_addUp_38 : Dv mM_addUp 38 .aload_n .aload 0 39 := Or.inl ⟨0, by decide +kernel, rfl, rfl⟩
theorem dM_addUp_39 : Df mM_addUp 39 .getfield 7 9 42 := ⟨24, ("EstateDeskModel", eT7, 37), by decide +kernel, rfl, rfl, by decide, rfl, Or.inl (tb3 196 rfl)⟩
theorem dM_addUp_42 : Dv mM_addUp 42 .iload_n .iload 1 43 := Or.inl ⟨1, by decide +kernel, rfl, rfl⟩
theorem dM_addUp_43 : Dn mM_addUp 43 .baload 1 44 := ⟨by decide +kernel, rfl⟩
theorem dM_addUp_44 : Dj mM_addUp 44 (.ifCond .ne) 47 51 := ⟨7, by decide +kernel, rfl, rfl⟩
theorem dM_addUp_47 : Dk mM_addUp 47 1 48 := Or.inl ⟨1, by decide +kernel, rfl, rfl⟩
theorem dM_addUp_48 : Dj mM_addUp 48 .goto 51 52 := ⟨4, by decide +kernel, rfl, rfl⟩
theorem dM_addUp_51 : Dk mM_addUp 51 0 52 := Or.inl ⟨0, by decide +kernel, rfl, rfl⟩
theorem dM_addUp_52 : Dv mM_addUp 52 .istore_n .istore 2 53 := Or.inl ⟨2, by decide +kernel, rfl, rfl⟩
theorem dM_addUp_53 : Dv mM_addUp 53 .aload_n .aload 0 54 := Or.inl ⟨0, by decide +kernel, rfl, rfl⟩
theorem dM_addUp_54 : Df mM_addUp 54 .getfield 7 33 57 := ⟨96, ("EstateDeskModel", eT7, 37), by decide +kernel, rfl, rfl, by decide, rfl, Or.inl (tb3 220 rfl)⟩
theorem dM_addUp_57 : Dk mM_addUp 57 0 58 := Or.inl ⟨0, by decide +kernel, rfl, rfl⟩
theorem dM_addUp_58 : Dv mM_addUp 58 .iload_n .iload 2 59 := Or.inl ⟨2, by decide +kernel, rfl, rfl⟩
theorem dM_addUp_59 : Dj mM_addUp 59 (.ifCond .eq) 62 78 := ⟨19, by decide +kernel, rfl, rfl⟩
theorem dM_addUp_62 : Dv mM_addUp 62 .aload_n .aload 0 63 := Or.inl ⟨0, by decide +kernel, rfl, rfl⟩
theorem dM_addUp_63 : Df mM_addUp 63 .getfield 7 33 66 := ⟨96, ("EstateDeskModel", eT7, 37), by decide +kernel, rfl, rfl, by decide, rfl, Or.inl (tb3 220 rfl)⟩
theorem dM_addUp_66 : Dk mM_addUp 66 0 67 := Or.inl ⟨0, by decide +kernel, rfl, rfl⟩
theorem dM_addUp_67 : Dn mM_addUp 67 .laload 1 68 := ⟨by decide +kernel, rfl⟩
theorem dM_addUp_68 : Dv mM_addUp 68 .aload_n .aload 0 69 := Or.inl ⟨0, by decide +kernel, rfl, rfl⟩
theorem dM_addUp_69 : Df mM_addUp 69 .getfield 7 7 72 := ⟨17, ("EstateDeskModel", eT7, 37), by decide +kernel, rfl, rfl, by decide, rfl, Or.inl (tb3 194 rfl)⟩
theorem dM_addUp_72 : Dv mM_addUp 72 .iload_n .iload 1 73 := Or.inl ⟨1, by decide +kernel, rfl, rfl⟩
theorem dM_addUp_73 : Dn mM_addUp 73 .laload 1 74 := ⟨by decide +kernel, rfl⟩
theorem dM_addUp_74 : Dn mM_addUp 74 .ladd 1 75 := ⟨by decide +kernel, rfl⟩
theorem dM_addUp_75 : Dj mM_addUp 75 .goto 78 84 := ⟨9, by decide +kernel, rfl, rfl⟩
theorem dM_addUp_78 : Dv mM_addUp 78 .aload_n .aload 0 79 := Or.inl ⟨0, by decide +kernel, rfl, rfl⟩
theorem dM_addUp_79 : Df mM_addUp 79 .getfield 7 33 82 := ⟨96, ("EstateDeskModel", eT7, 37), by decide +kernel, rfl, rfl, by decide, rfl, Or.inl (tb3 220 rfl)⟩
theorem dM_addUp_82 : Dk mM_addUp 82 0 83 := Or.inl ⟨0, by decide +kernel, rfl, rfl⟩
theorem dM_addUp_83 : Dn mM_addUp 83 .laload 1 84 := ⟨by decide +kernel, rfl⟩
theorem dM_addUp_84 : Dn mM_addUp 84 .lastore 1 85 := ⟨by decide +kernel, rfl⟩
theorem dM_addUp_85 : Dv mM_addUp 85 .aload_n .aload 0 86 := Or.inl ⟨0, by decide +kernel, rfl, rfl⟩
theorem dM_addUp_86 : Df mM_addUp 86 .getfield 7 33 89 := ⟨96, ("EstateDeskModel", eT7, 37), by decide +kernel, rfl, rfl, by decide, rfl, Or.inl (tb3 220 rfl)⟩
theorem dM_addUp_89 : Dk mM_addUp 89 2 90 := Or.inl ⟨2, by decide +kernel, rfl, rfl⟩
theorem dM_addUp_90 : Dv mM_addUp 90 .iload_n .iload 2 91 := Or.inl ⟨2, by decide +kernel, rfl, rfl⟩
theorem dM_addUp_91 : Dj mM_addUp 91 (.ifCond .eq) 94 118 := ⟨27, by decide +kernel, rfl, rfl⟩
theorem dM_addUp_94 : Dv mM_addUp 94 .aload_n .aload 0 95 := Or.inl ⟨0, by decide +kernel, rfl, rfl⟩
theorem dM_addUp_95 : Dv mM_addUp 95 .iload_n .iload 1 96 := Or.inl ⟨1, by decide +kernel, rfl, rfl⟩
theorem dM_addUp_96 : LkV mM_addUp 96 99 mM_giftOf := ⟨191, by decide +kernel, rfl, Or.inl (tb4 171 rfl), tb4 173 rfl, ts 28 rfl⟩
theorem dM_addUp_99 : Dj mM_addUp 99 (.ifCond .ne) 102 118 := ⟨19, by decide +kernel, rfl, rfl⟩
theorem dM_addUp_102 : Dv mM_addUp 102 .aload_n .aload 0 103 := Or.inl ⟨0, by decide +kernel, rfl, rfl⟩
theorem dM_addUp_103 : Df mM_addUp 103 .getfield 7 33 106 := ⟨96, ("EstateDeskModel", eT7, 37), by decide +kernel, rfl, rfl, by decide, rfl, Or.inl (tb3 220 rfl)⟩
theorem dM_addUp_106 : Dk mM_addUp 106 2 107 := Or.inl ⟨2, by decide +kernel, rfl, rfl⟩
theorem dM_addUp_107 : Dn mM_addUp 107 .laload 1 108 := ⟨by decide +kernel, rfl⟩
theorem dM_addUp_108 : Dv mM_addUp 108 .aload_n .aload 0 109 := Or.inl ⟨0, by decide +kernel, rfl, rfl⟩
theorem dM_addUp_109 : Df mM_addUp 109 .getfield 7 7 112 := ⟨17, ("EstateDeskModel", eT7, 37), by decide +kernel, rfl, rfl, by decide, rfl, Or.inl (tb3 194 rfl)⟩
theorem dM_addUp_112 : Dv mM_addUp 112 .iload_n .iload 1 113 := Or.inl ⟨1, by decide +kernel, rfl, rfl⟩
theorem dM_addUp_113 : Dn mM_addUp 113 .laload 1 114 := ⟨by decide +kernel, rfl⟩
theorem dM_addUp_114 : Dn mM_addUp 114 .ladd 1 115 := ⟨by decide +kernel, rfl⟩
theorem dM_addUp_115 : Dj mM_addUp 115 .goto 118 124 := ⟨9, by decide +kernel, rfl, rfl⟩
theorem dM_addUp_118 : Dv mM_addUp 118 .aload_n .aload 0 119 := Or.inl ⟨0, by decide +kernel, rfl, rfl⟩
theorem dM_addUp_119 : Df mM_addUp 119 .getfield 7 33 122 := ⟨96, ("EstateDeskModel", eT7, 37), by decide +kernel, rfl, rfl, by decide, rfl, Or.inl (tb3 220 rfl)⟩
theorem dM_addUp_122 : Dk mM_addUp 122 2 123 := Or.inl ⟨2, by decide +kernel, rfl, rfl⟩
theorem dM_addUp_123 : Dn mM_addUp 123 .laload 1 124 := ⟨by decide +kernel, rfl⟩
theorem dM_addUp_124 : Dn mM_addUp 124 .lastore 1 125 := ⟨by decide +kernel, rfl⟩
theorem dM_addUp_125 : Dn mM_addUp 125 (.iinc 1 1) 3 128 := ⟨by decide +kernel, rfl⟩
theorem dM_addUp_128 : Dj mM_addUp 128 .goto 131 23 := ⟨-105, by decide +kernel, rfl, rfl⟩
theorem dM_addUp_131 : Dk mM_addUp 131 1 132 := Or.inl ⟨1, by decide +kernel, rfl, rfl⟩
theorem dM_addUp_132 : Dv mM_addUp 132 .istore_n .istore 1 133 := Or.inl ⟨1, by decide +kernel, rfl, rfl⟩
theorem dM_addUp_133 : Dv mM_addUp 133 .iload_n .iload 1 134 := Or.inl ⟨1, by decide +kernel, rfl, rfl⟩
theorem dM_addUp_134 : Dk mM_addUp 134 41 136 := Or.inr (Or.inl ⟨41, by decide +kernel, by decide +kernel, rfl⟩)
theorem dM_addUp_136 : Dj mM_addUp 136 (.if_icmp .ge) 139 223 := ⟨87, by decide +kernel, rfl, rfl⟩
theorem dM_addUp_139 : Dv mM_addUp 139 .aload_n .aload 0 140 := Or.inl ⟨0, by decide +kernel, rfl, rfl⟩
theorem dM_addUp_140 : Df mM_addUp 140 .getfield 7 33 143 := ⟨96, ("EstateDeskModel", eT7, 37), by decide +kernel, rfl, rfl, by decide, rfl, Or.inl (tb3 220 rfl)⟩
theorem dM_addUp_143 : Dk mM_addUp 143 4 144 := Or.inl ⟨4, by decide +kernel, rfl, rfl⟩
theorem dM_addUp_144 : Dv mM_addUp 144 .aload_n .aload 0 145 := Or.inl ⟨0, by decide +kernel, rfl, rfl⟩
theorem dM_addUp_145 : Df mM_addUp 145 .getfield 7 33 148 := ⟨96, ("EstateDeskModel", eT7, 37), by decide +kernel, rfl, rfl, by decide, rfl, Or.inl (tb3 220 rfl)⟩
theorem dM_addUp_148 : Dk mM_addUp 148 4 149 := Or.inl ⟨4, by decide +kernel, rfl, rfl⟩
theorem dM_addUp_149 : Dn mM_addUp 149 .laload 1 150 := ⟨by decide +kernel, rfl⟩
theorem dM_addUp_150 : Dv mM_addUp 150 .aload_n .aload 0 151 := Or.inl ⟨0, by decide +kernel, rfl, rfl⟩
theorem dM_addUp_151 : Df mM_addUp 151 .getfield 7 21 154 := ⟨60, ("EstateDeskModel", eT7, 37), by decide +kernel, rfl, rfl, by decide, rfl, Or.inl (tb3 208 rfl)⟩
theorem dM_addUp_154 : Dv mM_addUp 154 .iload_n .iload 1 155 := Or.inl ⟨1, by decide +kernel, rfl, rfl⟩
theorem dM_addUp_155 : Dn mM_addUp 155 .laload 1 156 := ⟨by decide +kernel, rfl⟩
theorem dM_addUp_156 : Dn mM_addUp 156 .ladd 1 157 := ⟨by decide +kernel, rfl⟩
theorem dM_addUp_157 : Dn mM_addUp 157 .lastore 1 158 := ⟨by decide +kernel, rfl⟩
theorem dM_addUp_158 : Dv mM_addUp 158 .aload_n .aload 0 159 := Or.inl ⟨0, by decide +kernel, rfl, rfl⟩
theorem dM_addUp_159 : Df mM_addUp 159 .getfield 7 33 162 := ⟨96, ("EstateDeskModel", eT7, 37), by decide +kernel, rfl, rfl, by decide, rfl, Or.inl (tb3 220 rfl)⟩
theorem dM_addUp_162 : Dk mM_addUp 162 5 163 := Or.inl ⟨5, by decide +kernel, rfl, rfl⟩
theorem dM_addUp_163 : Dv mM_addUp 163 .aload_n .aload 0 164 := Or.inl ⟨0, by decide +kernel, rfl, rfl⟩
theorem dM_addUp_164 : Df mM_addUp 164 .getfield 7 33 167 := ⟨96, ("EstateDeskModel", eT7, 37), by decide +kernel, rfl, rfl, by decide, rfl, Or.inl (tb3 220 rfl)⟩
theorem dM_addUp_167 : Dk mM_addUp 167 5 168 := Or.inl ⟨5, by decide +kernel, rfl, rfl⟩
theorem dM_addUp_168 : Dn mM_addUp 168 .laload 1 169 := ⟨by decide +kernel, rfl⟩
theorem dM_addUp_169 : Dv mM_addUp 169 .aload_n .aload 0 170 := Or.inl ⟨0, by decide +kernel, rfl, rfl⟩
theorem dM_addUp_170 : Df mM_addUp 170 .getfield 7 22 173 := ⟨63, ("EstateDeskModel", eT7, 37), by decide +kernel, rfl, rfl, by decide, rfl, Or.inl (tb3 209 rfl)⟩
theorem dM_addUp_173 : Dv mM_addUp 173 .iload_n .iload 1 174 := Or.inl ⟨1, by decide +kernel, rfl, rfl⟩
theorem dM_addUp_174 : Dn mM_addUp 174 .laload 1 175 := ⟨by decide +kernel, rfl⟩
theorem dM_addUp_175 : Dn mM_addUp 175 .ladd 1 176 := ⟨by decide +kernel, rfl⟩
theorem dM_addUp_176 : Dn mM_addUp 176 .lastore 1 177 := ⟨by decide +kernel, rfl⟩
theorem dM_addUp_177 : Dv mM_addUp 177 .aload_n .aload 0 178 := Or.inl ⟨0, by decide +kernel, rfl, rfl⟩
theorem dM_addUp_178 : Df mM_addUp 178 .getfield 7 33 181 := ⟨96, ("EstateDeskModel", eT7, 37), by decide +kernel, rfl, rfl, by decide, rfl, Or.inl (tb3 220 rfl)⟩
theorem dM_addUp_181 : Dk mM_addUp 181 6 183 := Or.inr (Or.inl ⟨6, by decide +kernel, by decide +kernel, rfl⟩)
theorem dM_addUp_183 : Dv mM_addUp 183 .aload_n .aload 0 184 := Or.inl ⟨0, by decide +kernel, rfl, rfl⟩
theorem dM_addUp_184 : Dv mM_addUp 184 .iload_n .iload 1 185 := Or.inl ⟨1, by decide +kernel, rfl, rfl⟩
theorem dM_addUp_185 : Dk mM_addUp 185 1 186 := Or.inl ⟨1, by decide +kernel, rfl, rfl⟩
theorem dM_addUp_186 : LkV mM_addUp 186 189 mM_isGood := ⟨187, by decide +kernel, rfl, Or.inl (tb4 175 rfl), tb4 177 rfl, ts 29 rfl⟩
theorem dM_addUp_189 : Dj mM_addUp 189 (.ifCond .eq) 192 209 := ⟨20, by decide +kernel, rfl, rfl⟩
theorem dM_addUp_192 : Dv mM_addUp 192 .aload_n .aload 0 193 := Or.inl ⟨0, by decide +kernel, rfl, rfl⟩
theorem dM_addUp_193 : Df mM_addUp 193 .getfield 7 33 196 := ⟨96, ("EstateDeskModel", eT7, 37), by decide +kernel, rfl, rfl, by decide, rfl, Or.inl (tb3 220 rfl)⟩
theorem dM_addUp_196 : Dk mM_addUp 196 6 198 := Or.inr (Or.inl ⟨6, by decide +kernel, by decide +kernel, rfl⟩)
theorem dM_addUp_198 : Dn mM_addUp 198 .laload 1 199 := ⟨by decide +kernel, rfl⟩
theorem dM_addUp_199 : Dv mM_addUp 199 .aload_n .aload 0 200 := Or.inl ⟨0, by decide +kernel, rfl, rfl⟩
theorem dM_addUp_200 : Df mM_addUp 200 .getfield 7 23 203 := ⟨66, ("EstateDeskModel", eT7, 37), by decide +kernel, rfl, rfl, by decide, rfl, Or.inl (tb3 210 rfl)⟩
theorem dM_addUp_203 : Dv mM_addUp 203 .iload_n .iload 1 204 := Or.inl ⟨1, by decide +kernel, rfl, rfl⟩
theorem dM_addUp_204 : Dn mM_addUp 204 .laload 1 205 := ⟨by decide +kernel, rfl⟩
theorem dM_addUp_205 : Dn mM_addUp 205 .ladd 1 206 := ⟨by decide +kernel, rfl⟩
theorem dM_addUp_206 : Dj mM_addUp 206 .goto 209 216 := ⟨10, by decide +kernel, rfl, rfl⟩
theorem dM_addUp_209 : Dv mM_addUp 209 .aload_n .aload 0 210 := Or.inl ⟨0, by decide +kernel, rfl, rfl⟩
theorem dM_addUp_210 : Df mM_addUp 210 .getfield 7 33 213 := ⟨96, ("EstateDeskModel", eT7, 37), by decide +kernel, rfl, rfl, by decide, rfl, Or.inl (tb3 220 rfl)⟩
theorem dM_addUp_213 : Dk mM_addUp 213 6 215 := Or.inr (Or.inl ⟨6, by decide +kernel, by decide +kernel, rfl⟩)
theorem dM_addUp_215 : Dn mM_addUp 215 .laload 1 216 := ⟨by decide +kernel, rfl⟩
theorem dM_addUp_216 : Dn mM_addUp 216 .lastore 1 217 := ⟨by decide +kernel, rfl⟩
theorem dM_addUp_217 : Dn mM_addUp 217 (.iinc 1 1) 3 220 := ⟨by decide +kernel, rfl⟩
theorem dM_addUp_220 : Dj mM_addUp 220 .goto 223 133 := ⟨-87, by decide +kernel, rfl, rfl⟩
theorem dM_addUp_223 : Dv mM_addUp 223 .aload_n .aload 0 224 := Or.inl ⟨0, by decide +kernel, rfl, rfl⟩
theorem dM_addUp_224 : Df mM_addUp 224 .getfield 7 33 227 := ⟨96, ("EstateDeskModel", eT7, 37), by decide +kernel, rfl, rfl, by decide, rfl, Or.inl (tb3 220 rfl)⟩
theorem dM_addUp_227 : Dk mM_addUp 227 2 228 := Or.inl ⟨2, by decide +kernel, rfl, rfl⟩
theorem dM_addUp_228 : Dv mM_addUp 228 .aload_n .aload 0 229 := Or.inl ⟨0, by decide +kernel, rfl, rfl⟩
theorem dM_addUp_229 : Df mM_addUp 229 .getfield 7 33 232 := ⟨96, ("EstateDeskModel", eT7, 37), by decide +kernel, rfl, rfl, by decide, rfl, Or.inl (tb3 220 rfl)⟩
theorem dM_addUp_232 : Dk mM_addUp 232 2 233 := Or.inl ⟨2, by decide +kernel, rfl, rfl⟩
theorem dM_addUp_233 : Dn mM_addUp 233 .laload 1 234 := ⟨by decide +kernel, rfl⟩
theorem dM_addUp_234 : Dv mM_addUp 234 .aload_n .aload 0 235 := Or.inl ⟨0, by decide +kernel, rfl, rfl⟩
theorem dM_addUp_235 : Df mM_addUp 235 .getfield 7 33 238 := ⟨96, ("EstateDeskModel", eT7, 37), by decide +kernel, rfl, rfl, by decide, rfl, Or.inl (tb3 220 rfl)⟩
theorem dM_addUp_238 : Dk mM_addUp 238 5 239 := Or.inl ⟨5, by decide +kernel, rfl, rfl⟩
theorem dM_addUp_239 : Dn mM_addUp 239 .laload 1 240 := ⟨by decide +kernel, rfl⟩
theorem dM_addUp_240 : Dn mM_addUp 240 .lsub 1 241 := ⟨by decide +kernel, rfl⟩
theorem dM_addUp_241 : Dn mM_addUp 241 .lastore 1 242 := ⟨by decide +kernel, rfl⟩
theorem dM_addUp_242 : Dk mM_addUp 242 1 243 := Or.inl ⟨1, by decide +kernel, rfl, rfl⟩
theorem dM_addUp_243 : Dv mM_addUp 243 .istore_n .istore 1 244 := Or.inl ⟨1, by decide +kernel, rfl, rfl⟩
theorem dM_addUp_244 : Dv mM_addUp 244 .iload_n .iload 1 245 := Or.inl ⟨1, by decide +kernel, rfl, rfl⟩
theorem dM_addUp_245 : Dk mM_addUp 245 41 247 := Or.inr (Or.inl ⟨41, by decide +kernel, by decide +kernel, rfl⟩)
theorem dM_addUp_247 : Dj mM_addUp 247 (.if_icmp .ge) 250 275 := ⟨28, by decide +kernel, rfl, rfl⟩
theorem dM_addUp_250 : Dv mM_addUp 250 .aload_n .aload 0 251 := Or.inl ⟨0, by decide +kernel, rfl, rfl⟩
theorem dM_addUp_251 : Df mM_addUp 251 .getfield 7 33 254 := ⟨96, ("EstateDeskModel", eT7, 37), by decide +kernel, rfl, rfl, by decide, rfl, Or.inl (tb3 220 rfl)⟩
theorem dM_addUp_254 : Dk mM_addUp 254 3 255 := Or.inl ⟨3, by decide +kernel, rfl, rfl⟩
theorem dM_addUp_255 : Dv mM_addUp 255 .aload_n .aload 0 256 := Or.inl ⟨0, by decide +kernel, rfl, rfl⟩
theorem dM_addUp_256 : Df mM_addUp 256 .getfield 7 33 259 := ⟨96, ("EstateDeskModel", eT7, 37), by decide +kernel, rfl, rfl, by decide, rfl, Or.inl (tb3 220 rfl)⟩
theorem dM_addUp_259 : Dk mM_addUp 259 3 260 := Or.inl ⟨3, by decide +kernel, rfl, rfl⟩
theorem dM_addUp_260 : Dn mM_addUp 260 .laload 1 261 := ⟨by decide +kernel, rfl⟩
theorem dM_addUp_261 : Dv mM_addUp 261 .aload_n .aload 0 262 := Or.inl ⟨0, by decide +kernel, rfl, rfl⟩
theorem dM_addUp_262 : Df mM_addUp 262 .getfield 7 27 265 := ⟨78, ("EstateDeskModel", eT7, 37), by decide +kernel, rfl, rfl, by decide, rfl, Or.inl (tb3 214 rfl)⟩
theorem dM_addUp_265 : Dv mM_addUp 265 .iload_n .iload 1 266 := Or.inl ⟨1, by decide +kernel, rfl, rfl⟩
theorem dM_addUp_266 : Dn mM_addUp 266 .laload 1 267 := ⟨by decide +kernel, rfl⟩
theorem dM_addUp_267 : Dn mM_addUp 267 .ladd 1 268 := ⟨by decide +kernel, rfl⟩
theorem dM_addUp_268 : Dn mM_addUp 268 .lastore 1 269 := ⟨by decide +kernel, rfl⟩
theorem dM_addUp_269 : Dn mM_addUp 269 (.iinc 1 1) 3 272 := ⟨by decide +kernel, rfl⟩
theorem dM_addUp_272 : Dj mM_addUp 272 .goto 275 244 := ⟨-28, by decide +kernel, rfl, rfl⟩
theorem dM_addUp_275 : Dn mM_addUp 275 .return_ 1 276 := ⟨by decide +kernel, rfl⟩
theorem dM_settle_0 : Dv mM_settle 0 .aload_n .aload 0 1 := Or.inl ⟨0, by decide +kernel, rfl, rfl⟩
theorem dM_settle_1 : Dv mM_settle 1 .aload_n .aload 0 2 := Or.inl ⟨0, by decide +kernel, rfl, rfl⟩
theorem dM_settle_2 : Df mM_settle 2 .getfield 7 1 5 := ⟨137, ("EstateDeskModel", eT7, 37), by decide +kernel, rfl, rfl, by decide, rfl, Or.inl (tb3 188 rfl)⟩
theorem dM_settle_5 : Dj mM_settle 5 (.ifCond .ne) 8 12 := ⟨7, by decide +kernel, rfl, rfl⟩
theorem dM_settle_8 : Dk mM_settle 8 1 9 := Or.inl ⟨1, by decide +kernel, rfl, rfl⟩
theorem dM_settle_9 : Dj mM_settle 9 .goto 12 13 := ⟨4, by decide +kernel, rfl, rfl⟩
theorem dM_settle_12 : Dk mM_settle 12 0 13 := Or.inl ⟨0, by decide +kernel, rfl, rfl⟩
theorem dM_settle_13 : LkV mM_settle 13 16 mM_refused := ⟨124, by decide +kernel, rfl, Or.inl (tb4 75 rfl), tb4 77 rfl, ts 20 rfl⟩
theorem dM_settle_16 : Dj mM_settle 16 (.ifCond .eq) 19 21 := ⟨5, by decide +kernel, rfl, rfl⟩
theorem dM_settle_19 : Dl mM_settle 19 0 20 := Or.inl ⟨0, by decide +kernel, rfl, rfl⟩
theorem dM_settle_20 : Dn mM_settle 20 .lreturn 1 21 := ⟨by decide +kernel, rfl⟩
theorem dM_settle_21 : Dv mM_settle 21 .aload_n .aload 0 22 := Or.inl ⟨0, by decide +kernel, rfl, rfl⟩
theorem dM_settle_22 : Dk mM_settle 22 1 23 := Or.inl ⟨1, by decide +kernel, rfl, rfl⟩
theorem dM_settle_23 : Df mM_settle 23 .putfield 7 3 26 := ⟨206, ("EstateDeskModel", eT7, 37), by decide +kernel, rfl, rfl, by decide, rfl, Or.inl (tb3 190 rfl)⟩
theorem dM_settle_26 : Dv mM_settle 26 .aload_n .aload 0 27 := Or.inl ⟨0, by decide +kernel, rfl, rfl⟩
theorem dM_settle_27 : Dk mM_settle 27 1 28 := Or.inl ⟨1, by decide +kernel, rfl, rfl⟩
theorem dM_settle_28 : Df mM_settle 28 .putfield 7 4 31 := ⟨128, ("EstateDeskModel", eT7, 37), by decide +kernel, rfl, rfl, by decide, rfl, Or.inl (tb3 191 rfl)⟩
theorem dM_settle_31 : Dk mM_settle 31 0 32 := Or.inl ⟨0, by decide +kernel, rfl, rfl⟩
theorem dM_settle_32 : Dv mM_settle 32 .istore_n .istore 1 33 := Or.inl ⟨1, by decide +kernel, rfl, rfl⟩
theorem dM_settle_33 : Dv mM_settle 33 .iload_n .iload 1 34 := Or.inl ⟨1, by decide +kernel, rfl, rfl⟩
theorem dM_settle_34 : Dk mM_settle 34 41 36 := Or.inr (Or.inl ⟨41, by decide +kernel, by decide +kernel, rfl⟩)
theorem dM_settle_36 : Dj mM_settle 36 (.if_icmp .ge) 39 80 := ⟨44, by decide +kernel, rfl, rfl⟩
theorem dM_settle_39 : Dv mM_settle 39 .aload_n .aload 0 40 := Or.inl ⟨0, by decide +kernel, rfl, rfl⟩
theorem dM_settle_40 : Df mM_settle 40 .getfield 7 29 43 := ⟨84, ("EstateDeskModel", eT7, 37), by decide +kernel, rfl, rfl, by decide, rfl, Or.inl (tb3 216 rfl)⟩
theorem dM_settle_43 : Dv mM_settle 43 .iload_n .iload 1 44 := Or.inl ⟨1, by decide +kernel, rfl, rfl⟩
theorem dM_settle_44 : Dl mM_settle 44 0 45 := Or.inl ⟨0, by decide +kernel, rfl, rfl⟩
theorem dM_settle_45 : Dn mM_settle 45 .lastore 1 46 := ⟨by decide +kernel, rfl⟩
theorem dM_settle_46 : Dv mM_settle 46 .aload_n .aload 0 47 := Or.inl ⟨0, by decide +kernel, rfl, rfl⟩
theorem dM_settle_47 : Df mM_settle 47 .getfield 7 30 50 := ⟨87, ("EstateDeskModel", eT7, 37), by decide +kernel, rfl, rfl, by decide, rfl, Or.inl (tb3 217 rfl)⟩
theorem dM_settle_50 : Dv mM_settle 50 .iload_n .iload 1 51 := Or.inl ⟨1, by decide +kernel, rfl, rfl⟩
theorem dM_settle_51 : Dl mM_settle 51 0 52 := Or.inl ⟨0, by decide +kernel, rfl, rfl⟩
theorem dM_settle_52 : Dn mM_settle 52 .lastore 1 53 := ⟨by decide +kernel, rfl⟩
theorem dM_settle_53 : Dv mM_settle 53 .aload_n .aload 0 54 := Or.inl ⟨0, by decide +kernel, rfl, rfl⟩
theorem dM_settle_54 : Df mM_settle 54 .getfield 7 31 57 := ⟨90, ("EstateDeskModel", eT7, 37), by decide +kernel, rfl, rfl, by decide, rfl, Or.inl (tb3 218 rfl)⟩
theorem dM_settle_57 : Dv mM_settle 57 .iload_n .iload 1 58 := Or.inl ⟨1, by decide +kernel, rfl, rfl⟩
theorem dM_settle_58 : Dl mM_settle 58 0 59 := Or.inl ⟨0, by decide +kernel, rfl, rfl⟩
theorem dM_settle_59 : Dn mM_settle 59 .lastore 1 60 := ⟨by decide +kernel, rfl⟩
theorem dM_settle_60 : Dv mM_settle 60 .aload_n .aload 0 61 := Or.inl ⟨0, by decide +kernel, rfl, rfl⟩
theorem dM_settle_61 : Df mM_settle 61 .getfield 7 32 64 := ⟨93, ("EstateDeskModel", eT7, 37), by decide +kernel, rfl, rfl, by decide, rfl, Or.inl (tb3 219 rfl)⟩
theorem dM_settle_64 : Dv mM_settle 64 .iload_n .iload 1 65 := Or.inl ⟨1, by decide +kernel, rfl, rfl⟩
theorem dM_settle_65 : Dk mM_settle 65 (-1) 66 := Or.inl ⟨-1, by decide +kernel, rfl, rfl⟩
theorem dM_settle_66 : Dn mM_settle 66 .iastore 1 67 := ⟨by decide +kernel, rfl⟩
theorem dM_settle_67 : Dv mM_settle 67 .aload_n .aload 0 68 := Or.inl ⟨0, by decide +kernel, rfl, rfl⟩
theorem dM_settle_68 : Df mM_settle 68 .getfield 7 28 71 := ⟨81, ("EstateDeskModel", eT7, 37), by decide +kernel, rfl, rfl, by decide, rfl, Or.inl (tb3 215 rfl)⟩
theorem dM_settle_71 : Dv mM_settle 71 .iload_n .iload 1 72 := Or.inl ⟨1, by decide +kernel, rfl, rfl⟩
theorem dM_settle_72 : Dl mM_settle 72 0 73 := Or.inl ⟨0, by decide +kernel, rfl, rfl⟩
theorem dM_settle_73 : Dn mM_settle 73 .lastore 1 74 := ⟨by decide +kernel, rfl⟩
theorem dM_settle_74 : Dn mM_settle 74 (.iinc 1 1) 3 77 := ⟨by decide +kernel, rfl⟩
theorem dM_settle_77 : Dj mM_settle 77 .goto 80 33 := ⟨-44, by decide +kernel, rfl, rfl⟩
theorem dM_settle_80 : Dv mM_settle 80 .aload_n .aload 0 81 := Or.inl ⟨0, by decide +kernel, rfl, rfl⟩
theorem dM_settle_81 : LkV mM_settle 81 84 mM_findStates := ⟨209, by decide +kernel, rfl, Or.inl (tb4 155 rfl), tb4 157 rfl, ts 24 rfl⟩
theorem dM_settle_84 : Dv mM_settle 84 .aload_n .aload 0 85 := Or.inl ⟨0, by decide +kernel, rfl, rfl⟩
theorem dM_settle_85 : LkV mM_settle 85 88 mM_findOwn := ⟨212, by decide +kernel, rfl, Or.inl (tb4 167 rfl), tb4 169 rfl, ts 27 rfl⟩
theorem dM_settle_88 : Dv mM_settle 88 .aload_n .aload 0 89 := Or.inl ⟨0, by decide +kernel, rfl, rfl⟩
theorem dM_settle_89 : LkV mM_settle 89 92 mM_findValues := ⟨215, by decide +kernel, rfl, Or.inl (tb4 179 rfl), tb4 181 rfl, ts 30 rfl⟩
theorem dM_settle_92 : Dv mM_settle 92 .aload_n .aload 0 93 := Or.inl ⟨0, by decide +kernel, rfl, rfl⟩
theorem dM_settle_93 : LkV mM_settle 93 96 mM_addUp := ⟨218, by decide +kernel, rfl, Or.inl (tb4 193 rfl), tb4 195 rfl, ts 32 rfl⟩
theorem dM_settle_96 : Dv mM_settle 96 .aload_n .aload 0 97 := Or.inl ⟨0, by decide +kernel, rfl, rfl⟩
theorem dM_settle_97 : Df mM_settle 97 .getfield 7 33 100 := ⟨96, ("EstateDeskModel", eT7, 37), by decide +kernel, rfl, rfl, by decide, rfl, Or.inl (tb3 220 rfl)⟩
theorem dM_settle_100 : Dk mM_settle 100 2 101 := Or.inl ⟨2, by decide +kernel, rfl, rfl⟩
theorem dM_settle_101 : Dn mM_settle 101 .laload 1 102 := ⟨by decide +kernel, rfl⟩
theorem dM_settle_102 : Dv mM_settle 102 .lstore_n .lstore 1 103 := Or.inl ⟨1, by decide +kernel, rfl, rfl⟩
theorem dM_settle_103 : Dv mM_settle 103 .aload_n .aload 0 104 := Or.inl ⟨0, by decide +kernel, rfl, rfl⟩
theorem dM_settle_104 : Df mM_settle 104 .getfield 7 33 107 := ⟨96, ("EstateDeskModel", eT7, 37), by decide +kernel, rfl, rfl, by decide, rfl, Or.inl (tb3 220 rfl)⟩
theorem dM_settle_107 : Dk mM_settle 107 3 108 := Or.inl ⟨3, by decide +kernel, rfl, rfl⟩
theorem dM_settle_108 : Dn mM_settle 108 .laload 1 109 := ⟨by decide +kernel, rfl⟩
theorem dM_settle_109 : Dv mM_settle 109 .lstore_n .lstore 3 110 := Or.inl ⟨3, by decide +kernel, rfl, rfl⟩
theorem dM_settle_110 : Dv mM_settle 110 .aload_n .aload 0 111 := Or.inl ⟨0, by decide +kernel, rfl, rfl⟩
theorem dM_settle_111 : Df mM_settle 111 .getfield 7 33 114 := ⟨96, ("EstateDeskModel", eT7, 37), by decide +kernel, rfl, rfl, by decide, rfl, Or.inl (tb3 220 rfl)⟩
theorem dM_settle_114 : Dk mM_settle 114 4 115 := Or.inl ⟨4, by decide +kernel, rfl, rfl⟩
theorem dM_settle_115 : Dn mM_settle 115 .laload 1 116 := ⟨by decide +kernel, rfl⟩
theorem dM_settle_116 : Dv mM_settle 116 .lstore_n .lstore 5 118 := Or.inr ⟨by decide +kernel, rfl⟩
theorem dM_settle_118 : Dv mM_settle 118 .aload_n .aload 0 119 := Or.inl ⟨0, by decide +kernel, rfl, rfl⟩
theorem dM_settle_119 : Df mM_settle 119 .getfield 7 33 122 := ⟨96, ("EstateDeskModel", eT7, 37), by decide +kernel, rfl, rfl, by decide, rfl, Or.inl (tb3 220 rfl)⟩
theorem dM_settle_122 : Dk mM_settle 122 5 123 := Or.inl ⟨5, by decide +kernel, rfl, rfl⟩
theorem dM_settle_123 : Dn mM_settle 123 .laload 1 124 := ⟨by decide +kernel, rfl⟩
theorem dM_settle_124 : Dv mM_settle 124 .lstore_n .lstore 7 126 := Or.inr ⟨by decide +kernel, rfl⟩
theorem dM_settle_126 : Dv mM_settle 126 .lload_n .lload 3 127 := Or.inl ⟨3, by decide +kernel, rfl, rfl⟩
theorem dM_settle_127 : Dv mM_settle 127 .lload_n .lload 1 128 := Or.inl ⟨1, by decide +kernel, rfl, rfl⟩
theorem dM_settle_128 : Dv mM_settle 128 .lload_n .lload 7 130 := Or.inr ⟨by decide +kernel, rfl⟩
theorem dM_settle_130 : Dn mM_settle 130 .ladd 1 131 := ⟨by decide +kernel, rfl⟩
theorem dM_settle_131 : Dv mM_settle 131 .aload_n .aload 0 132 := Or.inl ⟨0, by decide +kernel, rfl, rfl⟩
theorem dM_settle_132 : Df mM_settle 132 .getfield 7 33 135 := ⟨96, ("EstateDeskModel", eT7, 37), by decide +kernel, rfl, rfl, by decide, rfl, Or.inl (tb3 220 rfl)⟩
theorem dM_settle_135 : Dk mM_settle 135 6 137 := Or.inr (Or.inl ⟨6, by decide +kernel, by decide +kernel, rfl⟩)
theorem dM_settle_137 : Dn mM_settle 137 .laload 1 138 := ⟨by decide +kernel, rfl⟩
theorem dM_settle_138 : Dn mM_settle 138 .ladd 1 139 := ⟨by decide +kernel, rfl⟩
theorem dM_settle_139 : Dn mM_settle 139 .lsub 1 140 := ⟨by decide +kernel, rfl⟩
theorem dM_settle_140 : LkS mM_settle 140 143 mM_notBelow0 := ⟨221, by decide +kernel, rfl, Or.inl (tb4 197 rfl), tb4 198 rfl⟩
theorem dM_settle_143 : Dv mM_settle 143 .lstore_n .lstore 9 145 := Or.inr ⟨by decide +kernel, rfl⟩
theorem dM_settle_145 : Dv mM_settle 145 .lload_n .lload 9 147 := Or.inr ⟨by decide +kernel, rfl⟩
theorem dM_settle_147 : Dl mM_settle 147 0 148 := Or.inl ⟨0, by decide +kernel, rfl, rfl⟩
theorem dM_settle_148 : Dn mM_settle 148 .lcmp 1 149 := ⟨by decide +kernel, rfl⟩
theorem dM_settle_149 : Dj mM_settle 149 (.ifCond .le) 152 171 := ⟨22, by decide +kernel, rfl, rfl⟩
theorem dM_settle_152 : Dv mM_settle 152 .aload_n .aload 0 153 := Or.inl ⟨0, by decide +kernel, rfl, rfl⟩
theorem dM_settle_153 : Dv mM_settle 153 .lload_n .lload 1 154 := Or.inl ⟨1, by decide +kernel, rfl, rfl⟩
theorem dM_settle_154 : Dv mM_settle 154 .lload_n .lload 7 156 := Or.inr ⟨by decide +kernel, rfl⟩
theorem dM_settle_156 : Dn mM_settle 156 .ladd 1 157 := ⟨by decide +kernel, rfl⟩
theorem dM_settle_157 : Dv mM_settle 157 .aload_n .aload 0 158 := Or.inl ⟨0, by decide +kernel, rfl, rfl⟩
theorem dM_settle_158 : Df mM_settle 158 .getfield 7 33 161 := ⟨96, ("EstateDeskModel", eT7, 37), by decide +kernel, rfl, rfl, by decide, rfl, Or.inl (tb3 220 rfl)⟩
theorem dM_settle_161 : Dk mM_settle 161 6 163 := Or.inr (Or.inl ⟨6, by decide +kernel, by decide +kernel, rfl⟩)
theorem dM_settle_163 : Dn mM_settle 163 .laload 1 164 := ⟨by decide +kernel, rfl⟩
theorem dM_settle_164 : Dn mM_settle 164 .ladd 1 165 := ⟨by decide +kernel, rfl⟩
theorem dM_settle_165 : LkV mM_settle 165 168 mM_spread := ⟨225, by decide +kernel, rfl, Or.inl (tb4 200 rfl), tb4 202 rfl, ts 33 rfl⟩
theorem dM_settle_168 : Dj mM_settle 168 .goto 171 293 := ⟨125, by decide +kernel, rfl, rfl⟩
theorem dM_settle_171 : Dv mM_settle 171 .lload_n .lload 3 172 := Or.inl ⟨3, by decide +kernel, rfl, rfl⟩
theorem dM_settle_172 : Dv mM_settle 172 .lload_n .lload 1 173 := Or.inl ⟨1, by decide +kernel, rfl, rfl⟩
theorem dM_settle_173 : Dn mM_settle 173 .lsub 1 174 := ⟨by decide +kernel, rfl⟩
theorem dM_settle_174 : LkS mM_settle 174 177 mM_notBelow0 := ⟨221, by decide +kernel, rfl, Or.inl (tb4 197 rfl), tb4 198 rfl⟩
theorem dM_settle_177 : Dv mM_settle 177 .lstore_n .lstore 11 179 := Or.inr ⟨by decide +kernel, rfl⟩
theorem dM_settle_179 : Dv mM_settle 179 .lload_n .lload 7 181 := Or.inr ⟨by decide +kernel, rfl⟩
theorem dM_settle_181 : Dv mM_settle 181 .lload_n .lload 11 183 := Or.inr ⟨by decide +kernel, rfl⟩
theorem dM_settle_183 : LkS mM_settle 183 186 mM_lesser := ⟨228, by decide +kernel, rfl, Or.inl (tb4 214 rfl), tb4 215 rfl⟩
theorem dM_settle_186 : Dv mM_settle 186 .lstore_n .lstore 13 188 := Or.inr ⟨by decide +kernel, rfl⟩
theorem dM_settle_188 : Dv mM_settle 188 .aload_n .aload 0 189 := Or.inl ⟨0, by decide +kernel, rfl, rfl⟩
theorem dM_settle_189 : Dk mM_settle 189 0 190 := Or.inl ⟨0, by decide +kernel, rfl, rfl⟩
theorem dM_settle_190 : Dv mM_settle 190 .lload_n .lload 5 192 := Or.inr ⟨by decide +kernel, rfl⟩
theorem dM_settle_192 : Dv mM_settle 192 .lload_n .lload 5 194 := Or.inr ⟨by decide +kernel, rfl⟩
theorem dM_settle_194 : Dv mM_settle 194 .lload_n .lload 1 195 := Or.inl ⟨1, by decide +kernel, rfl, rfl⟩
theorem dM_settle_195 : Dv mM_settle 195 .lload_n .lload 3 196 := Or.inl ⟨3, by decide +kernel, rfl, rfl⟩
theorem dM_settle_196 : Dn mM_settle 196 .lsub 1 197 := ⟨by decide +kernel, rfl⟩
theorem dM_settle_197 : LkS mM_settle 197 200 mM_notBelow0 := ⟨221, by decide +kernel, rfl, Or.inl (tb4 197 rfl), tb4 198 rfl⟩
theorem dM_settle_200 : LkS mM_settle 200 203 mM_lesser := ⟨228, by decide +kernel, rfl, Or.inl (tb4 214 rfl), tb4 215 rfl⟩
theorem dM_settle_203 : Dn mM_settle 203 .lsub 1 204 := ⟨by decide +kernel, rfl⟩
theorem dM_settle_204 : LkV mM_settle 204 207 mM_bear := ⟨232, by decide +kernel, rfl, Or.inl (tb4 217 rfl), tb4 219 rfl, ts 36 rfl⟩
theorem dM_settle_207 : Dv mM_settle 207 .aload_n .aload 0 208 := Or.inl ⟨0, by decide +kernel, rfl, rfl⟩
theorem dM_settle_208 : Dk mM_settle 208 1 209 := Or.inl ⟨1, by decide +kernel, rfl, rfl⟩
theorem dM_settle_209 : Dv mM_settle 209 .lload_n .lload 13 211 := Or.inr ⟨by decide +kernel, rfl⟩
theorem dM_settle_211 : LkV mM_settle 211 214 mM_bear := ⟨232, by decide +kernel, rfl, Or.inl (tb4 217 rfl), tb4 219 rfl, ts 36 rfl⟩
theorem dM_settle_214 : Dv mM_settle 214 .aload_n .aload 0 215 := Or.inl ⟨0, by decide +kernel, rfl, rfl⟩
theorem dM_settle_215 : Dk mM_settle 215 2 216 := Or.inl ⟨2, by decide +kernel, rfl, rfl⟩
theorem dM_settle_216 : Dv mM_settle 216 .lload_n .lload 11 218 := Or.inr ⟨by decide +kernel, rfl⟩
theorem dM_settle_218 : Dv mM_settle 218 .lload_n .lload 13 220 := Or.inr ⟨by decide +kernel, rfl⟩
theorem dM_settle_220 : Dn mM_settle 220 .lsub 1 221 := ⟨by decide +kernel, rfl⟩
theorem dM_settle_221 : LkV mM_settle 221 224 mM_bear := ⟨232, by decide +kernel, rfl, Or.inl (tb4 217 rfl), tb4 219 rfl, ts 36 rfl⟩
theorem dM_settle_224 : Dv mM_settle 224 .aload_n .aload 0 225 := Or.inl ⟨0, by decide +kernel, rfl, rfl⟩
theorem dM_settle_225 : Df mM_settle 225 .getfield 7 33 228 := ⟨96, ("EstateDeskModel", eT7, 37), by decide +kernel, rfl, rfl, by decide, rfl, Or.inl (tb3 220 rfl)⟩
theorem dM_settle_228 : Dk mM_settle 228 7 230 := Or.inr (Or.inl ⟨7, by decide +kernel, by decide +kernel, rfl⟩)
theorem dM_settle_230 : Dv mM_settle 230 .lload_n .lload 1 231 := Or.inl ⟨1, by decide +kernel, rfl, rfl⟩
theorem dM_settle_231 : Dv mM_settle 231 .lload_n .lload 3 232 := Or.inl ⟨3, by decide +kernel, rfl, rfl⟩
theorem dM_settle_232 : Dn mM_settle 232 .lsub 1 233 := ⟨by decide +kernel, rfl⟩
theorem dM_settle_233 : Dv mM_settle 233 .lload_n .lload 5 235 := Or.inr ⟨by decide +kernel, rfl⟩
theorem dM_settle_235 : Dn mM_settle 235 .lsub 1 236 := ⟨by decide +kernel, rfl⟩
theorem dM_settle_236 : LkS mM_settle 236 239 mM_notBelow0 := ⟨221, by decide +kernel, rfl, Or.inl (tb4 197 rfl), tb4 198 rfl⟩
theorem dM_settle_239 : Dn mM_settle 239 .lastore 1 240 := ⟨by decide +kernel, rfl⟩
theorem dM_settle_240 : Dv mM_settle 240 .aload_n .aload 0 241 := Or.inl ⟨0, by decide +kernel, rfl, rfl⟩
theorem dM_settle_241 : Dv mM_settle 241 .aload_n .aload 0 242 := Or.inl ⟨0, by decide +kernel, rfl, rfl⟩
theorem dM_settle_242 : Df mM_settle 242 .getfield 7 33 245 := ⟨96, ("EstateDeskModel", eT7, 37), by decide +kernel, rfl, rfl, by decide, rfl, Or.inl (tb3 220 rfl)⟩
theorem dM_settle_245 : Dk mM_settle 245 7 247 := Or.inr (Or.inl ⟨7, by decide +kernel, by decide +kernel, rfl⟩)
theorem dM_settle_247 : Dn mM_settle 247 .laload 1 248 := ⟨by decide +kernel, rfl⟩
theorem dM_settle_248 : LkV mM_settle 248 251 mM_shareResidue := ⟨236, by decide +kernel, rfl, Or.inl (tb4 221 rfl), tb4 223 rfl, ts 37 rfl⟩
theorem dM_settle_251 : Dv mM_settle 251 .aload_n .aload 0 252 := Or.inl ⟨0, by decide +kernel, rfl, rfl⟩
theorem dM_settle_252 : LkV mM_settle 252 255 mM_hand := ⟨239, by decide +kernel, rfl, Or.inl (tb4 225 rfl), tb4 227 rfl, ts 38 rfl⟩
theorem dM_settle_255 : Dk mM_settle 255 1 256 := Or.inl ⟨1, by decide +kernel, rfl, rfl⟩
theorem dM_settle_256 : Dv mM_settle 256 .istore_n .istore 15 258 := Or.inr ⟨by decide +kernel, rfl⟩
theorem dM_settle_258 : Dv mM_settle 258 .iload_n .iload 15 260 := Or.inr ⟨by decide +kernel, rfl⟩
theorem dM_settle_260 : Dk mM_settle 260 41 262 := Or.inr (Or.inl ⟨41, by decide +kernel, by decide +kernel, rfl⟩)
theorem dM_settle_262 : Dj mM_settle 262 (.if_icmp .ge) 265 293 := ⟨31, by decide +kernel, rfl, rfl⟩
theorem dM_settle_265 : Dv mM_settle 265 .aload_n .aload 0 266 := Or.inl ⟨0, by decide +kernel, rfl, rfl⟩
theorem dM_settle_266 : Df mM_settle 266 .getfield 7 28 269 := ⟨81, ("EstateDeskModel", eT7, 37), by decide +kernel, rfl, rfl, by decide, rfl, Or.inl (tb3 215 rfl)⟩
theorem dM_settle_269 : Dv mM_settle 269 .iload_n .iload 15 271 := Or.inr ⟨by decide +kernel, rfl⟩
theorem dM_settle_271 : Dv mM_settle 271 .aload_n .aload 0 272 := Or.inl ⟨0, by decide +kernel, rfl, rfl⟩
theorem dM_settle_272 : Df mM_settle 272 .getfield 7 26 275 := ⟨75, ("EstateDeskModel", eT7, 37), by decide +kernel, rfl, rfl, by decide, rfl, Or.inl (tb3 213 rfl)⟩
theorem dM_settle_275 : Dv mM_settle 275 .iload_n .iload 15 277 := Or.inr ⟨by decide +kernel, rfl⟩
theorem dM_settle_277 : Dn mM_settle 277 .laload 1 278 := ⟨by decide +kernel, rfl⟩
theorem dM_settle_278 : Dv mM_settle 278 .aload_n .aload 0 279 := Or.inl ⟨0, by decide +kernel, rfl, rfl⟩
theorem dM_settle_279 : Df mM_settle 279 .getfield 7 27 282 := ⟨78, ("EstateDeskModel", eT7, 37), by decide +kernel, rfl, rfl, by decide, rfl, Or.inl (tb3 214 rfl)⟩
theorem dM_settle_282 : Dv mM_settle 282 .iload_n .iload 15 284 := Or.inr ⟨by decide +kernel, rfl⟩
theorem dM_settle_284 : Dn mM_settle 284 .laload 1 285 := ⟨by decide +kernel, rfl⟩
theorem dM_settle_285 : Dn mM_settle 285 .ladd 1 286 := ⟨by decide +kernel, rfl⟩
theorem dM_settle_286 : Dn mM_settle 286 .lastore 1 287 := ⟨by decide +kernel, rfl⟩
theorem dM_settle_287 : Dn mM_settle 287 (.iinc 15 1) 3 290 := ⟨by decide +kernel, rfl⟩
theorem dM_settle_290 : Dj mM_settle 290 .goto 293 258 := ⟨-32, by decide +kernel, rfl, rfl⟩
theorem dM_settle_293 : Dk mM_settle 293 1 294 := Or.inl ⟨1, by decide +kernel, rfl, rfl⟩
theorem dM_settle_294 : Dv mM_settle 294 .istore_n .istore 11 296 := Or.inr ⟨by decide +kernel, rfl⟩
theorem dM_settle_296 : Dv mM_settle 296 .iload_n .iload 11 298 := Or.inr ⟨by decide +kernel, rfl⟩
theorem dM_settle_298 : Dk mM_settle 298 41 300 := Or.inr (Or.inl ⟨41, by decide +kernel, by decide +kernel, rfl⟩)
theorem dM_settle_300 : Dj mM_settle 300 (.if_icmp .ge) 303 329 := ⟨29, by decide +kernel, rfl, rfl⟩
theorem dM_settle_303 : Dv mM_settle 303 .aload_n .aload 0 304 := Or.inl ⟨0, by decide +kernel, rfl, rfl⟩
theorem dM_settle_304 : Df mM_settle 304 .getfield 7 33 307 := ⟨96, ("EstateDeskModel", eT7, 37), by decide +kernel, rfl, rfl, by decide, rfl, Or.inl (tb3 220 rfl)⟩
theorem dM_settle_307 : Dk mM_settle 307 1 308 := Or.inl ⟨1, by decide +kernel, rfl, rfl⟩
theorem dM_settle_308 : Dv mM_settle 308 .aload_n .aload 0 309 := Or.inl ⟨0, by decide +kernel, rfl, rfl⟩
theorem dM_settle_309 : Df mM_settle 309 .getfield 7 33 312 := ⟨96, ("EstateDeskModel", eT7, 37), by decide +kernel, rfl, rfl, by decide, rfl, Or.inl (tb3 220 rfl)⟩
theorem dM_settle_312 : Dk mM_settle 312 1 313 := Or.inl ⟨1, by decide +kernel, rfl, rfl⟩
theorem dM_settle_313 : Dn mM_settle 313 .laload 1 314 := ⟨by decide +kernel, rfl⟩
theorem dM_settle_314 : Dv mM_settle 314 .aload_n .aload 0 315 := Or.inl ⟨0, by decide +kernel, rfl, rfl⟩
theorem dM_settle_315 : Df mM_settle 315 .getfield 7 28 318 := ⟨81, ("EstateDeskModel", eT7, 37), by decide +kernel, rfl, rfl, by decide, rfl, Or.inl (tb3 215 rfl)⟩
theorem dM_settle_318 : Dv mM_settle 318 .iload_n .iload 11 320 := Or.inr ⟨by decide +kernel, rfl⟩
theorem dM_settle_320 : Dn mM_settle 320 .laload 1 321 := ⟨by decide +kernel, rfl⟩
theorem dM_settle_321 : Dn mM_settle 321 .ladd 1 322 := ⟨by decide +kernel, rfl⟩
theorem dM_settle_322 : Dn mM_settle 322 .lastore 1 323 := ⟨by decide +kernel, rfl⟩
theorem dM_settle_323 : Dn mM_settle 323 (.iinc 11 1) 3 326 := ⟨by decide +kernel, rfl⟩
theorem dM_settle_326 : Dj mM_settle 326 .goto 329 296 := ⟨-30, by decide +kernel, rfl, rfl⟩
theorem dM_settle_329 : Dv mM_settle 329 .lload_n .lload 9 331 := Or.inr ⟨by decide +kernel, rfl⟩
theorem dM_settle_331 : Dn mM_settle 331 .lreturn 1 332 := ⟨by decide +kernel, rfl⟩
theorem dM_isWrong_0 : Dv mM_isWrong 0 .aload_n .aload 0 1 := Or.inl ⟨0, by decide +kernel, rfl, rfl⟩
theorem dM_isWrong_1 : Dv mM_isWrong 1 .iload_n .iload 1 2 := Or.inl ⟨1, by decide +kernel, rfl, rfl⟩
theorem dM_isWrong_2 : Dj mM_isWrong 2 (.ifCond .ne) 5 9 := ⟨7, by decide +kernel, rfl, rfl⟩
theorem dM_isWrong_5 : Dk mM_isWrong 5 1 6 := Or.inl ⟨1, by decide +kernel, rfl, rfl⟩
theorem dM_isWrong_6 : Dj mM_isWrong 6 .goto 9 21 := ⟨15, by decide +kernel, rfl, rfl⟩
theorem dM_isWrong_9 : Dv mM_isWrong 9 .aload_n .aload 0 10 := Or.inl ⟨0, by decide +kernel, rfl, rfl⟩
theorem dM_isWrong_10 : Df mM_isWrong 10 .getfield 7 3 13 := ⟨206, ("EstateDeskModel", eT7, 37), by decide +kernel, rfl, rfl, by decide, rfl, Or.inl (tb3 190 rfl)⟩
theorem dM_isWrong_13 : Dj mM_isWrong 13 (.ifCond .ne) 16 20 := ⟨7, by decide +kernel, rfl, rfl⟩
theorem dM_isWrong_16 : Dk mM_isWrong 16 2 17 := Or.inl ⟨2, by decide +kernel, rfl, rfl⟩
theorem dM_isWrong_17 : Dj mM_isWrong 17 .goto 20 21 := ⟨4, by decide +kernel, rfl, rfl⟩
theorem dM_isWrong_20 : Dk mM_isWrong 20 0 21 := Or.inl ⟨0, by decide +kernel, rfl, rfl⟩
theorem dM_isWrong_21 : LkV mM_isWrong 21 24 mM_refused := ⟨124, by decide +kernel, rfl, Or.inl (tb4 75 rfl), tb4 77 rfl, ts 20 rfl⟩
theorem dM_isWrong_24 : Dn mM_isWrong 24 .ireturn 1 25 := ⟨by decide +kernel, rfl⟩
theorem dM_gets_0 : Dv mM_gets 0 .aload_n .aload 0 1 := Or.inl ⟨0, by decide +kernel, rfl, rfl⟩
theorem dM_gets_1 : Dv mM_gets 1 .iload_n .iload 1 2 := Or.inl ⟨1, by decide +kernel, rfl, rfl⟩
theorem dM_gets_2 : Dn mM_gets 2 .i2l 1 3 := ⟨by decide +kernel, rfl⟩
theorem dM_gets_3 : Dl mM_gets 3 0 4 := Or.inl ⟨0, by decide +kernel, rfl, rfl⟩
theorem dM_gets_4 : Dl mM_gets 4 40 7 := Or.inr ⟨112, by decide +kernel, tb4 86 rfl, rfl⟩
theorem dM_gets_7 : LkS mM_gets 7 10 mM_isIn := ⟨114, by decide +kernel, rfl, Or.inl (tb4 68 rfl), tb4 69 rfl⟩
theorem dM_gets_10 : Dj mM_gets 10 (.ifCond .eq) 13 29 := ⟨19, by decide +kernel, rfl, rfl⟩
theorem dM_gets_13 : Dv mM_gets 13 .iload_n .iload 2 14 := Or.inl ⟨2, by decide +kernel, rfl, rfl⟩
theorem dM_gets_14 : Dn mM_gets 14 .i2l 1 15 := ⟨by decide +kernel, rfl⟩
theorem dM_gets_15 : Dl mM_gets 15 0 16 := Or.inl ⟨0, by decide +kernel, rfl, rfl⟩
theorem dM_gets_16 : Dl mM_gets 16 2 19 := Or.inr ⟨172, by decide +kernel, tb4 213 rfl, rfl⟩
theorem dM_gets_19 : LkS mM_gets 19 22 mM_isIn := ⟨114, by decide +kernel, rfl, Or.inl (tb4 68 rfl), tb4 69 rfl⟩
theorem dM_gets_22 : Dj mM_gets 22 (.ifCond .eq) 25 29 := ⟨7, by decide +kernel, rfl, rfl⟩
theorem dM_gets_25 : Dk mM_gets 25 1 26 := Or.inl ⟨1, by decide +kernel, rfl, rfl⟩
theorem dM_gets_26 : Dj mM_gets 26 .goto 29 30 := ⟨4, by decide +kernel, rfl, rfl⟩
theorem dM_gets_29 : Dk mM_gets 29 0 30 := Or.inl ⟨0, by decide +kernel, rfl, rfl⟩
theorem dM_gets_30 : LkV mM_gets 30 33 mM_isWrong := ⟨242, by decide +kernel, rfl, Or.inl (tb4 233 rfl), tb4 235 rfl, ts 39 rfl⟩
theorem dM_gets_33 : Dj mM_gets 33 (.ifCond .eq) 36 38 := ⟨5, by decide +kernel, rfl, rfl⟩
theorem dM_gets_36 : Dl mM_gets 36 0 37 := Or.inl ⟨0, by decide +kernel, rfl, rfl⟩
theorem dM_gets_37 : Dn mM_gets 37 .lreturn 1 38 := ⟨by decide +kernel, rfl⟩
theorem dM_gets_38 : Dv mM_gets 38 .iload_n .iload 2 39 := Or.inl ⟨2, by decide +kernel, rfl, rfl⟩
theorem dM_gets_39 : Dj mM_gets 39 (.ifCond .ne) 42 51 := ⟨12, by decide +kernel, rfl, rfl⟩
theorem dM_gets_42 : Dv mM_gets 42 .aload_n .aload 0 43 := Or.inl ⟨0, by decide +kernel, rfl, rfl⟩
theorem dM_gets_43 : Df mM_gets 43 .getfield 7 29 46 := ⟨84, ("EstateDeskModel", eT7, 37), by decide +kernel, rfl, rfl, by decide, rfl, Or.inl (tb3 216 rfl)⟩
theorem dM_gets_46 : Dv mM_gets 46 .iload_n .iload 1 47 := Or.inl ⟨1, by decide +kernel, rfl, rfl⟩
theorem dM_gets_47 : Dn mM_gets 47 .laload 1 48 := ⟨by decide +kernel, rfl⟩
theorem dM_gets_48 : Dj mM_gets 48 .goto 51 71 := ⟨23, by decide +kernel, rfl, rfl⟩
theorem dM_gets_51 : Dv mM_gets 51 .iload_n .iload 2 52 := Or.inl ⟨2, by decide +kernel, rfl, rfl⟩
theorem dM_gets_52 : Dk mM_gets 52 1 53 := Or.inl ⟨1, by decide +kernel, rfl, rfl⟩
theorem dM_gets_53 : Dj mM_gets 53 (.if_icmp .ne) 56 65 := ⟨12, by decide +kernel, rfl, rfl⟩
theorem dM_gets_56 : Dv mM_gets 56 .aload_n .aload 0 57 := Or.inl ⟨0, by decide +kernel, rfl, rfl⟩
theorem dM_gets_57 : Df mM_gets 57 .getfield 7 30 60 := ⟨87, ("EstateDeskModel", eT7, 37), by decide +kernel, rfl, rfl, by decide, rfl, Or.inl (tb3 217 rfl)⟩
theorem dM_gets_60 : Dv mM_gets 60 .iload_n .iload 1 61 := Or.inl ⟨1, by decide +kernel, rfl, rfl⟩
theorem dM_gets_61 : Dn mM_gets 61 .laload 1 62 := ⟨by decide +kernel, rfl⟩
theorem dM_gets_62 : Dj mM_gets 62 .goto 65 71 := ⟨9, by decide +kernel, rfl, rfl⟩
theorem dM_gets_65 : Dv mM_gets 65 .aload_n .aload 0 66 := Or.inl ⟨0, by decide +kernel, rfl, rfl⟩
theorem dM_gets_66 : Df mM_gets 66 .getfield 7 31 69 := ⟨90, ("EstateDeskModel", eT7, 37), by decide +kernel, rfl, rfl, by decide, rfl, Or.inl (tb3 218 rfl)⟩
theorem dM_gets_69 : Dv mM_gets 69 .iload_n .iload 1 70 := Or.inl ⟨1, by decide +kernel, rfl, rfl⟩
theorem dM_gets_70 : Dn mM_gets 70 .laload 1 71 := ⟨by decide +kernel, rfl⟩
theorem dM_gets_71 : Dn mM_gets 71 .lreturn 1 72 := ⟨by decide +kernel, rfl⟩
theorem dM_assetTo_0 : Dv mM_assetTo 0 .aload_n .aload 0 1 := Or.inl ⟨0, by decide +kernel, rfl, rfl⟩
theorem dM_assetTo_1 : Dv mM_assetTo 1 .iload_n .iload 1 2 := Or.inl ⟨1, by decide +kernel, rfl, rfl⟩
theorem dM_assetTo_2 : LkS mM_assetTo 2 5 mM_isId := ⟨140, by decide +kernel, rfl, Or.inl (tb4 83 rfl), tb4 84 rfl⟩
theorem dM_assetTo_5 : LkV mM_assetTo 5 8 mM_isWrong := ⟨242, by decide +kernel, rfl, Or.inl (tb4 233 rfl), tb4 235 rfl, ts 39 rfl⟩
theorem dM_assetTo_8 : Dj mM_assetTo 8 (.ifCond .eq) 11 15 := ⟨7, by decide +kernel, rfl, rfl⟩
theorem dM_assetTo_11 : Dk mM_assetTo 11 0 12 := Or.inl ⟨0, by decide +kernel, rfl, rfl⟩
theorem dM_assetTo_12 : Dj mM_assetTo 12 .goto 15 21 := ⟨9, by decide +kernel, rfl, rfl⟩
theorem dM_assetTo_15 : Dv mM_assetTo 15 .aload_n .aload 0 16 := Or.inl ⟨0, by decide +kernel, rfl, rfl⟩
theorem dM_assetTo_16 : Df mM_assetTo 16 .getfield 7 32 19 := ⟨93, ("EstateDeskModel", eT7, 37), by decide +kernel, rfl, rfl, by decide, rfl, Or.inl (tb3 219 rfl)⟩
theorem dM_assetTo_19 : Dv mM_assetTo 19 .iload_n .iload 1 20 := Or.inl ⟨1, by decide +kernel, rfl, rfl⟩
theorem dM_assetTo_20 : Dn mM_assetTo 20 .iaload 1 21 := ⟨by decide +kernel, rfl⟩
theorem dM_assetTo_21 : Dn mM_assetTo 21 .ireturn 1 22 := ⟨by decide +kernel, rfl⟩
theorem dM_clauseState_0 : Dv mM_clauseState 0 .aload_n .aload 0 1 := Or.inl ⟨0, by decide +kernel, rfl, rfl⟩
theorem dM_clauseState_1 : Dv mM_clauseState 1 .iload_n .iload 1 2 := Or.inl ⟨1, by decide +kernel, rfl, rfl⟩
theorem dM_clauseState_2 : LkS mM_clauseState 2 5 mM_isId := ⟨140, by decide +kernel, rfl, Or.inl (tb4 83 rfl), tb4 84 rfl⟩
theorem dM_clauseState_5 : LkV mM_clauseState 5 8 mM_isWrong := ⟨242, by decide +kernel, rfl, Or.inl (tb4 233 rfl), tb4 235 rfl, ts 39 rfl⟩
theorem dM_clauseState_8 : Dj mM_clauseState 8 (.ifCond .eq) 11 15 := ⟨7, by decide +kernel, rfl, rfl⟩
theorem dM_clauseState_11 : Dk mM_clauseState 11 0 12 := Or.inl ⟨0, by decide +kernel, rfl, rfl⟩
theorem dM_clauseState_12 : Dj mM_clauseState 12 .goto 15 21 := ⟨9, by decide +kernel, rfl, rfl⟩
theorem dM_clauseState_15 : Dv mM_clauseState 15 .aload_n .aload 0 16 := Or.inl ⟨0, by decide +kernel, rfl, rfl⟩
theorem dM_clauseState_16 : Df mM_clauseState 16 .getfield 7 19 19 := ⟨54, ("EstateDeskModel", eT7, 37), by decide +kernel, rfl, rfl, by decide, rfl, Or.inl (tb3 206 rfl)⟩
theorem dM_clauseState_19 : Dv mM_clauseState 19 .iload_n .iload 1 20 := Or.inl ⟨1, by decide +kernel, rfl, rfl⟩
theorem dM_clauseState_20 : Dn mM_clauseState 20 .iaload 1 21 := ⟨by decide +kernel, rfl⟩
theorem dM_clauseState_21 : Dn mM_clauseState 21 .ireturn 1 22 := ⟨by decide +kernel, rfl⟩
end
section
theorem dM_told_0 : Dv mM_told 0 .aload_n .aload 0 1 := Or.inl ⟨0, by decide +kernel, rfl, rfl⟩
theorem dM_told_1 : Dv mM_told 1 .iload_n .iload 1 2 := Or.inl ⟨1, by decide +kernel, rfl, rfl⟩
theorem dM_told_2 : LkS mM_told 2 5 mM_isId := ⟨140, by decide +kernel, rfl, Or.inl (tb4 83 rfl), tb4 84 rfl⟩
theorem dM_told_5 : Dj mM_told 5 (.ifCond .eq) 8 24 := ⟨19, by decide +kernel, rfl, rfl⟩
theorem dM_told_8 : Dv mM_told 8 .iload_n .iload 2 9 := Or.inl ⟨2, by decide +kernel, rfl, rfl⟩
theorem dM_told_9 : Dn mM_told 9 .i2l 1 10 := ⟨by decide +kernel, rfl⟩
theorem dM_told_10 : Dl mM_told 10 0 11 := Or.inl ⟨0, by decide +kernel, rfl, rfl⟩
theorem dM_told_11 : Dl mM_told 11 4 14 := Or.inr ⟨164, by decide +kernel, tb4 142 rfl, rfl⟩
theorem dM_told_14 : LkS mM_told 14 17 mM_isIn := ⟨114, by decide +kernel, rfl, Or.inl (tb4 68 rfl), tb4 69 rfl⟩
theorem dM_told_17 : Dj mM_told 17 (.ifCond .eq) 20 24 := ⟨7, by decide +kernel, rfl, rfl⟩
theorem dM_told_20 : Dk mM_told 20 1 21 := Or.inl ⟨1, by decide +kernel, rfl, rfl⟩
theorem dM_told_21 : Dj mM_told 21 .goto 24 25 := ⟨4, by decide +kernel, rfl, rfl⟩
theorem dM_told_24 : Dk mM_told 24 0 25 := Or.inl ⟨0, by decide +kernel, rfl, rfl⟩
theorem dM_told_25 : LkV mM_told 25 28 mM_isWrong := ⟨242, by decide +kernel, rfl, Or.inl (tb4 233 rfl), tb4 235 rfl, ts 39 rfl⟩
theorem dM_told_28 : Dj mM_told 28 (.ifCond .eq) 31 33 := ⟨5, by decide +kernel, rfl, rfl⟩
theorem dM_told_31 : Dl mM_told 31 0 32 := Or.inl ⟨0, by decide +kernel, rfl, rfl⟩
theorem dM_told_32 : Dn mM_told 32 .lreturn 1 33 := ⟨by decide +kernel, rfl⟩
theorem dM_told_33 : Dv mM_told 33 .aload_n .aload 0 34 := Or.inl ⟨0, by decide +kernel, rfl, rfl⟩
theorem dM_told_34 : Df mM_told 34 .getfield 7 19 37 := ⟨54, ("EstateDeskModel", eT7, 37), by decide +kernel, rfl, rfl, by decide, rfl, Or.inl (tb3 206 rfl)⟩
theorem dM_told_37 : Dv mM_told 37 .iload_n .iload 1 38 := Or.inl ⟨1, by decide +kernel, rfl, rfl⟩
theorem dM_told_38 : Dn mM_told 38 .iaload 1 39 := ⟨by decide +kernel, rfl⟩
theorem dM_told_39 : Dj mM_told 39 (.ifCond .eq) 42 54 := ⟨15, by decide +kernel, rfl, rfl⟩
theorem dM_told_42 : Dv mM_told 42 .aload_n .aload 0 43 := Or.inl ⟨0, by decide +kernel, rfl, rfl⟩
theorem dM_told_43 : Df mM_told 43 .getfield 7 19 46 := ⟨54, ("EstateDeskModel", eT7, 37), by decide +kernel, rfl, rfl, by decide, rfl, Or.inl (tb3 206 rfl)⟩
theorem dM_told_46 : Dv mM_told 46 .iload_n .iload 1 47 := Or.inl ⟨1, by decide +kernel, rfl, rfl⟩
theorem dM_told_47 : Dn mM_told 47 .iaload 1 48 := ⟨by decide +kernel, rfl⟩
theorem dM_told_48 : Dk mM_told 48 3 49 := Or.inl ⟨3, by decide +kernel, rfl, rfl⟩
theorem dM_told_49 : Dj mM_told 49 (.if_icmp .eq) 52 54 := ⟨5, by decide +kernel, rfl, rfl⟩
theorem dM_told_52 : Dl mM_told 52 0 53 := Or.inl ⟨0, by decide +kernel, rfl, rfl⟩
theorem dM_told_53 : Dn mM_told 53 .lreturn 1 54 := ⟨by decide +kernel, rfl⟩
theorem dM_told_54 : Dv mM_told 54 .iload_n .iload 2 55 := Or.inl ⟨2, by decide +kernel, rfl, rfl⟩
theorem dM_told_55 : decode mM_told.2.1 55 = .ok (.tableswitch 57 0 3 #[29, 36, 43, 50], 29) := by decide +kernel
theorem dM_told_84 : Dv mM_told 84 .aload_n .aload 0 85 := Or.inl ⟨0, by decide +kernel, rfl, rfl⟩
theorem dM_told_85 : Df mM_told 85 .getfield 7 23 88 := ⟨66, ("EstateDeskModel", eT7, 37), by decide +kernel, rfl, rfl, by decide, rfl, Or.inl (tb3 210 rfl)⟩
theorem dM_told_88 : Dv mM_told 88 .iload_n .iload 1 89 := Or.inl ⟨1, by decide +kernel, rfl, rfl⟩
theorem dM_told_89 : Dn mM_told 89 .laload 1 90 := ⟨by decide +kernel, rfl⟩
theorem dM_told_90 : Dn mM_told 90 .lreturn 1 91 := ⟨by decide +kernel, rfl⟩
theorem dM_told_91 : Dv mM_told 91 .aload_n .aload 0 92 := Or.inl ⟨0, by decide +kernel, rfl, rfl⟩
theorem dM_told_92 : Df mM_told 92 .getfield 7 24 95 := ⟨69, ("EstateDeskModel", eT7, 37), by decide +kernel, rfl, rfl, by decide, rfl, Or.inl (tb3 211 rfl)⟩
theorem dM_told_95 : Dv mM_told 95 .iload_n .iload 1 96 := Or.inl ⟨1, by decide +kernel, rfl, rfl⟩
theorem dM_told_96 : Dn mM_told 96 .laload 1 97 := ⟨by decide +kernel, rfl⟩
theorem dM_told_97 : Dn mM_told 97 .lreturn 1 98 := ⟨by decide +kernel, rfl⟩
theorem dM_told_98 : Dv mM_told 98 .aload_n .aload 0 99 := Or.inl ⟨0, by decide +kernel, rfl, rfl⟩
theorem dM_told_99 : Df mM_told 99 .getfield 7 22 102 := ⟨63, ("EstateDeskModel", eT7, 37), by decide +kernel, rfl, rfl, by decide, rfl, Or.inl (tb3 209 rfl)⟩
theorem dM_told_102 : Dv mM_told 102 .iload_n .iload 1 103 := Or.inl ⟨1, by decide +kernel, rfl, rfl⟩
theorem dM_told_103 : Dn mM_told 103 .laload 1 104 := ⟨by decide +kernel, rfl⟩
theorem dM_told_104 : Dn mM_told 104 .lreturn 1 105 := ⟨by decide +kernel, rfl⟩
theorem dM_told_105 : Dv mM_told 105 .aload_n .aload 0 106 := Or.inl ⟨0, by decide +kernel, rfl, rfl⟩
theorem dM_told_106 : Df mM_told 106 .getfield 7 25 109 := ⟨72, ("EstateDeskModel", eT7, 37), by decide +kernel, rfl, rfl, by decide, rfl, Or.inl (tb3 212 rfl)⟩
theorem dM_told_109 : Dv mM_told 109 .iload_n .iload 1 110 := Or.inl ⟨1, by decide +kernel, rfl, rfl⟩
theorem dM_told_110 : Dn mM_told 110 .laload 1 111 := ⟨by decide +kernel, rfl⟩
theorem dM_told_111 : Dn mM_told 111 .lreturn 1 112 := ⟨by decide +kernel, rfl⟩
theorem dM_told_112 : Dv mM_told 112 .aload_n .aload 0 113 := Or.inl ⟨0, by decide +kernel, rfl, rfl⟩
theorem dM_told_113 : Df mM_told 113 .getfield 7 20 116 := ⟨57, ("EstateDeskModel", eT7, 37), by decide +kernel, rfl, rfl, by decide, rfl, Or.inl (tb3 207 rfl)⟩
theorem dM_told_116 : Dv mM_told 116 .iload_n .iload 1 117 := Or.inl ⟨1, by decide +kernel, rfl, rfl⟩
theorem dM_told_117 : Dn mM_told 117 .iaload 1 118 := ⟨by decide +kernel, rfl⟩
theorem dM_told_118 : Dn mM_told 118 .i2l 1 119 := ⟨by decide +kernel, rfl⟩
theorem dM_told_119 : Dn mM_told 119 .lreturn 1 120 := ⟨by decide +kernel, rfl⟩
theorem dM_paid_0 : Dv mM_paid 0 .aload_n .aload 0 1 := Or.inl ⟨0, by decide +kernel, rfl, rfl⟩
theorem dM_paid_1 : Dv mM_paid 1 .iload_n .iload 1 2 := Or.inl ⟨1, by decide +kernel, rfl, rfl⟩
theorem dM_paid_2 : LkS mM_paid 2 5 mM_isId := ⟨140, by decide +kernel, rfl, Or.inl (tb4 83 rfl), tb4 84 rfl⟩
theorem dM_paid_5 : LkV mM_paid 5 8 mM_isWrong := ⟨242, by decide +kernel, rfl, Or.inl (tb4 233 rfl), tb4 235 rfl, ts 39 rfl⟩
theorem dM_paid_8 : Dj mM_paid 8 (.ifCond .eq) 11 15 := ⟨7, by decide +kernel, rfl, rfl⟩
theorem dM_paid_11 : Dl mM_paid 11 0 12 := Or.inl ⟨0, by decide +kernel, rfl, rfl⟩
theorem dM_paid_12 : Dj mM_paid 12 .goto 15 21 := ⟨9, by decide +kernel, rfl, rfl⟩
theorem dM_paid_15 : Dv mM_paid 15 .aload_n .aload 0 16 := Or.inl ⟨0, by decide +kernel, rfl, rfl⟩
theorem dM_paid_16 : Df mM_paid 16 .getfield 7 28 19 := ⟨81, ("EstateDeskModel", eT7, 37), by decide +kernel, rfl, rfl, by decide, rfl, Or.inl (tb3 215 rfl)⟩
theorem dM_paid_19 : Dv mM_paid 19 .iload_n .iload 1 20 := Or.inl ⟨1, by decide +kernel, rfl, rfl⟩
theorem dM_paid_20 : Dn mM_paid 20 .laload 1 21 := ⟨by decide +kernel, rfl⟩
theorem dM_paid_21 : Dn mM_paid 21 .lreturn 1 22 := ⟨by decide +kernel, rfl⟩
theorem dM_sum_0 : Dv mM_sum 0 .aload_n .aload 0 1 := Or.inl ⟨0, by decide +kernel, rfl, rfl⟩
theorem dM_sum_1 : Dv mM_sum 1 .iload_n .iload 1 2 := Or.inl ⟨1, by decide +kernel, rfl, rfl⟩
theorem dM_sum_2 : Dn mM_sum 2 .i2l 1 3 := ⟨by decide +kernel, rfl⟩
theorem dM_sum_3 : Dl mM_sum 3 0 4 := Or.inl ⟨0, by decide +kernel, rfl, rfl⟩
theorem dM_sum_4 : Dl mM_sum 4 7 7 := Or.inr ⟨246, by decide +kernel, tb5 17 rfl, rfl⟩
theorem dM_sum_7 : LkS mM_sum 7 10 mM_isIn := ⟨114, by decide +kernel, rfl, Or.inl (tb4 68 rfl), tb4 69 rfl⟩
theorem dM_sum_10 : LkV mM_sum 10 13 mM_isWrong := ⟨242, by decide +kernel, rfl, Or.inl (tb4 233 rfl), tb4 235 rfl, ts 39 rfl⟩
theorem dM_sum_13 : Dj mM_sum 13 (.ifCond .eq) 16 20 := ⟨7, by decide +kernel, rfl, rfl⟩
theorem dM_sum_16 : Dl mM_sum 16 0 17 := Or.inl ⟨0, by decide +kernel, rfl, rfl⟩
theorem dM_sum_17 : Dj mM_sum 17 .goto 20 26 := ⟨9, by decide +kernel, rfl, rfl⟩
theorem dM_sum_20 : Dv mM_sum 20 .aload_n .aload 0 21 := Or.inl ⟨0, by decide +kernel, rfl, rfl⟩
theorem dM_sum_21 : Df mM_sum 21 .getfield 7 33 24 := ⟨96, ("EstateDeskModel", eT7, 37), by decide +kernel, rfl, rfl, by decide, rfl, Or.inl (tb3 220 rfl)⟩
theorem dM_sum_24 : Dv mM_sum 24 .iload_n .iload 1 25 := Or.inl ⟨1, by decide +kernel, rfl, rfl⟩
theorem dM_sum_25 : Dn mM_sum 25 .laload 1 26 := ⟨by decide +kernel, rfl⟩
theorem dM_sum_26 : Dn mM_sum 26 .lreturn 1 27 := ⟨by decide +kernel, rfl⟩
theorem dM_close_0 : Dv mM_close 0 .aload_n .aload 0 1 := Or.inl ⟨0, by decide +kernel, rfl, rfl⟩
theorem dM_close_1 : Dv mM_close 1 .aload_n .aload 0 2 := Or.inl ⟨0, by decide +kernel, rfl, rfl⟩
theorem dM_close_2 : Df mM_close 2 .getfield 7 2 5 := ⟨120, ("EstateDeskModel", eT7, 37), by decide +kernel, rfl, rfl, by decide, rfl, Or.inl (tb3 189 rfl)⟩
theorem dM_close_5 : Dj mM_close 5 (.ifCond .ne) 8 15 := ⟨10, by decide +kernel, rfl, rfl⟩
theorem dM_close_8 : Dv mM_close 8 .aload_n .aload 0 9 := Or.inl ⟨0, by decide +kernel, rfl, rfl⟩
theorem dM_close_9 : Df mM_close 9 .getfield 7 4 12 := ⟨128, ("EstateDeskModel", eT7, 37), by decide +kernel, rfl, rfl, by decide, rfl, Or.inl (tb3 191 rfl)⟩
theorem dM_close_12 : Dj mM_close 12 (.ifCond .ne) 15 19 := ⟨7, by decide +kernel, rfl, rfl⟩
theorem dM_close_15 : Dk mM_close 15 1 16 := Or.inl ⟨1, by decide +kernel, rfl, rfl⟩
theorem dM_close_16 : Dj mM_close 16 .goto 19 20 := ⟨4, by decide +kernel, rfl, rfl⟩
theorem dM_close_19 : Dk mM_close 19 0 20 := Or.inl ⟨0, by decide +kernel, rfl, rfl⟩
theorem dM_close_20 : LkV mM_close 20 23 mM_refused := ⟨124, by decide +kernel, rfl, Or.inl (tb4 75 rfl), tb4 77 rfl, ts 20 rfl⟩
theorem dM_close_23 : Dj mM_close 23 (.ifCond .ne) 26 31 := ⟨8, by decide +kernel, rfl, rfl⟩
theorem dM_close_26 : Dv mM_close 26 .aload_n .aload 0 27 := Or.inl ⟨0, by decide +kernel, rfl, rfl⟩
theorem dM_close_27 : Dk mM_close 27 1 28 := Or.inl ⟨1, by decide +kernel, rfl, rfl⟩
theorem dM_close_28 : Df mM_close 28 .putfield 7 2 31 := ⟨120, ("EstateDeskModel", eT7, 37), by decide +kernel, rfl, rfl, by decide, rfl, Or.inl (tb3 189 rfl)⟩
theorem dM_close_31 : Dn mM_close 31 .return_ 1 32 := ⟨by decide +kernel, rfl⟩
theorem dM_worth_0 : Dv mM_worth 0 .lload_n .lload 1 1 := Or.inl ⟨1, by decide +kernel, rfl, rfl⟩
theorem dM_worth_1 : Dl mM_worth 1 0 2 := Or.inl ⟨0, by decide +kernel, rfl, rfl⟩
theorem dM_worth_2 : Dl mM_worth 2 1000000000 5 := Or.inr ⟨158, by decide +kernel, tb4 127 rfl, rfl⟩
theorem dM_worth_5 : LkS mM_worth 5 8 mM_isIn := ⟨114, by decide +kernel, rfl, Or.inl (tb4 68 rfl), tb4 69 rfl⟩
theorem dM_worth_8 : Dj mM_worth 8 (.ifCond .eq) 11 27 := ⟨19, by decide +kernel, rfl, rfl⟩
theorem dM_worth_11 : Dv mM_worth 11 .iload_n .iload 3 12 := Or.inl ⟨3, by decide +kernel, rfl, rfl⟩
theorem dM_worth_12 : Dn mM_worth 12 .i2l 1 13 := ⟨by decide +kernel, rfl⟩
theorem dM_worth_13 : Dl mM_worth 13 0 14 := Or.inl ⟨0, by decide +kernel, rfl, rfl⟩
theorem dM_worth_14 : Dl mM_worth 14 99 17 := Or.inr ⟨160, by decide +kernel, tb4 128 rfl, rfl⟩
theorem dM_worth_17 : LkS mM_worth 17 20 mM_isIn := ⟨114, by decide +kernel, rfl, Or.inl (tb4 68 rfl), tb4 69 rfl⟩
theorem dM_worth_20 : Dj mM_worth 20 (.ifCond .eq) 23 27 := ⟨7, by decide +kernel, rfl, rfl⟩
theorem dM_worth_23 : Dk mM_worth 23 1 24 := Or.inl ⟨1, by decide +kernel, rfl, rfl⟩
theorem dM_worth_24 : Dj mM_worth 24 .goto 27 28 := ⟨4, by decide +kernel, rfl, rfl⟩
theorem dM_worth_27 : Dk mM_worth 27 0 28 := Or.inl ⟨0, by decide +kernel, rfl, rfl⟩
theorem dM_worth_28 : Dv mM_worth 28 .istore_n .istore 4 30 := Or.inr ⟨by decide +kernel, rfl⟩
theorem dM_worth_30 : Dv mM_worth 30 .aload_n .aload 0 31 := Or.inl ⟨0, by decide +kernel, rfl, rfl⟩
theorem dM_worth_31 : Dv mM_worth 31 .iload_n .iload 4 33 := Or.inr ⟨by decide +kernel, rfl⟩
theorem dM_worth_33 : Dj mM_worth 33 (.ifCond .eq) 36 40 := ⟨7, by decide +kernel, rfl, rfl⟩
theorem dM_worth_36 : Dk mM_worth 36 0 37 := Or.inl ⟨0, by decide +kernel, rfl, rfl⟩
theorem dM_worth_37 : Dj mM_worth 37 .goto 40 41 := ⟨4, by decide +kernel, rfl, rfl⟩
theorem dM_worth_40 : Dk mM_worth 40 1 41 := Or.inl ⟨1, by decide +kernel, rfl, rfl⟩
theorem dM_worth_41 : LkV mM_worth 41 44 mM_refused := ⟨124, by decide +kernel, rfl, Or.inl (tb4 75 rfl), tb4 77 rfl, ts 20 rfl⟩
theorem dM_worth_44 : Dj mM_worth 44 (.ifCond .eq) 47 51 := ⟨7, by decide +kernel, rfl, rfl⟩
theorem dM_worth_47 : Dl mM_worth 47 0 48 := Or.inl ⟨0, by decide +kernel, rfl, rfl⟩
theorem dM_worth_48 : Dj mM_worth 48 .goto 51 56 := ⟨8, by decide +kernel, rfl, rfl⟩
theorem dM_worth_51 : Dv mM_worth 51 .lload_n .lload 1 52 := Or.inl ⟨1, by decide +kernel, rfl, rfl⟩
theorem dM_worth_52 : Dv mM_worth 52 .iload_n .iload 3 53 := Or.inl ⟨3, by decide +kernel, rfl, rfl⟩
theorem dM_worth_53 : LkS mM_worth 53 56 mM_table := ⟨198, by decide +kernel, rfl, Or.inl (tb4 187 rfl), tb4 188 rfl⟩
theorem dM_worth_56 : Dn mM_worth 56 .lreturn 1 57 := ⟨by decide +kernel, rfl⟩
end
section
theorem dP_init_0 : Dv mP_init 0 .aload_n .aload 0 1 := Or.inl ⟨0, by decide +kernel, rfl, rfl⟩
theorem dP_init_1 : Dn mP_init 1 (.invokespecial 3) 3 4 := ⟨by decide +kernel, rfl⟩
theorem dP_init_4 : Dv mP_init 4 .aload_n .aload 0 5 := Or.inl ⟨0, by decide +kernel, rfl, rfl⟩
theorem dP_init_5 : Dk mP_init 5 41 7 := Or.inr (Or.inl ⟨41, by decide +kernel, by decide +kernel, rfl⟩)
theorem dP_init_7 : Dn mP_init 7 (.newarray .int) 2 9 := ⟨by decide +kernel, rfl⟩
theorem dP_init_9 : Dfp mP_init 9 1 1 12 := ⟨9, ("EstateDesk$Persons", eT1, 5), by decide +kernel, rfl, rfl, by decide, rfl, tb1 32 rfl⟩
theorem dP_init_12 : Dv mP_init 12 .aload_n .aload 0 13 := Or.inl ⟨0, by decide +kernel, rfl, rfl⟩
theorem dP_init_13 : Dk mP_init 13 41 15 := Or.inr (Or.inl ⟨41, by decide +kernel, by decide +kernel, rfl⟩)
theorem dP_init_15 : Dn mP_init 15 (.newarray .long) 2 17 := ⟨by decide +kernel, rfl⟩
theorem dP_init_17 : Dfp mP_init 17 1 2 20 := ⟨15, ("EstateDesk$Persons", eT1, 5), by decide +kernel, rfl, rfl, by decide, rfl, tb1 34 rfl⟩
theorem dP_init_20 : Dv mP_init 20 .aload_n .aload 0 21 := Or.inl ⟨0, by decide +kernel, rfl, rfl⟩
theorem dP_init_21 : Dk mP_init 21 41 23 := Or.inr (Or.inl ⟨41, by decide +kernel, by decide +kernel, rfl⟩)
theorem dP_init_23 : Dn mP_init 23 (.newarray .long) 2 25 := ⟨by decide +kernel, rfl⟩
theorem dP_init_25 : Dfp mP_init 25 1 3 28 := ⟨19, ("EstateDesk$Persons", eT1, 5), by decide +kernel, rfl, rfl, by decide, rfl, tb1 37 rfl⟩
theorem dP_init_28 : Dv mP_init 28 .aload_n .aload 0 29 := Or.inl ⟨0, by decide +kernel, rfl, rfl⟩
theorem dP_init_29 : Dk mP_init 29 41 31 := Or.inr (Or.inl ⟨41, by decide +kernel, by decide +kernel, rfl⟩)
theorem dP_init_31 : Dn mP_init 31 (.newarray .long) 2 33 := ⟨by decide +kernel, rfl⟩
theorem dP_init_33 : Dfp mP_init 33 1 4 36 := ⟨22, ("EstateDesk$Persons", eT1, 5), by decide +kernel, rfl, rfl, by decide, rfl, tb1 40 rfl⟩
theorem dP_init_36 : Dn mP_init 36 .return_ 1 37 := ⟨by decide +kernel, rfl⟩
theorem dP_outlived_0 : Dv mP_outlived 0 .aload_n .aload 0 1 := Or.inl ⟨0, by decide +kernel, rfl, rfl⟩
theorem dP_outlived_1 : Df mP_outlived 1 .getfield 1 1 4 := ⟨9, ("EstateDesk$Persons", eT1, 5), by decide +kernel, rfl, rfl, by decide, rfl, Or.inl (tb1 32 rfl)⟩
theorem dP_outlived_4 : Dv mP_outlived 4 .iload_n .iload 1 5 := Or.inl ⟨1, by decide +kernel, rfl, rfl⟩
theorem dP_outlived_5 : Dn mP_outlived 5 .iaload 1 6 := ⟨by decide +kernel, rfl⟩
theorem dP_outlived_6 : Dj mP_outlived 6 (.ifCond .eq) 9 22 := ⟨16, by decide +kernel, rfl, rfl⟩
theorem dP_outlived_9 : Dv mP_outlived 9 .aload_n .aload 0 10 := Or.inl ⟨0, by decide +kernel, rfl, rfl⟩
theorem dP_outlived_10 : Df mP_outlived 10 .getfield 1 1 13 := ⟨9, ("EstateDesk$Persons", eT1, 5), by decide +kernel, rfl, rfl, by decide, rfl, Or.inl (tb1 32 rfl)⟩
theorem dP_outlived_13 : Dv mP_outlived 13 .iload_n .iload 1 14 := Or.inl ⟨1, by decide +kernel, rfl, rfl⟩
theorem dP_outlived_14 : Dn mP_outlived 14 .iaload 1 15 := ⟨by decide +kernel, rfl⟩
theorem dP_outlived_15 : Dv mP_outlived 15 .aload_n .aload 0 16 := Or.inl ⟨0, by decide +kernel, rfl, rfl⟩
theorem dP_outlived_16 : Df mP_outlived 16 .getfield 1 0 19 := ⟨25, ("EstateDesk$Persons", eT1, 5), by decide +kernel, rfl, rfl, by decide, rfl, Or.inl (tb1 30 rfl)⟩
theorem dP_outlived_19 : Dj mP_outlived 19 (.if_icmp .le) 22 26 := ⟨7, by decide +kernel, rfl, rfl⟩
theorem dP_outlived_22 : Dk mP_outlived 22 1 23 := Or.inl ⟨1, by decide +kernel, rfl, rfl⟩
theorem dP_outlived_23 : Dj mP_outlived 23 .goto 26 27 := ⟨4, by decide +kernel, rfl, rfl⟩
theorem dP_outlived_26 : Dk mP_outlived 26 0 27 := Or.inl ⟨0, by decide +kernel, rfl, rfl⟩
theorem dP_outlived_27 : Dn mP_outlived 27 .ireturn 1 28 := ⟨by decide +kernel, rfl⟩
theorem dP_forgetSettling_0 : Dv mP_forgetSettling 0 .aload_n .aload 0 1 := Or.inl ⟨0, by decide +kernel, rfl, rfl⟩
theorem dP_forgetSettling_1 : Df mP_forgetSettling 1 .getfield 1 2 4 := ⟨15, ("EstateDesk$Persons", eT1, 5), by decide +kernel, rfl, rfl, by decide, rfl, Or.inl (tb1 34 rfl)⟩
theorem dP_forgetSettling_4 : Dl mP_forgetSettling 4 0 5 := Or.inl ⟨0, by decide +kernel, rfl, rfl⟩
theorem dP_forgetSettling_5 : LkS mP_forgetSettling 5 8 mJ_fillL := ⟨29, by decide +kernel, rfl, Or.inl (tb3 14 rfl), tb3 15 rfl⟩
theorem dP_forgetSettling_8 : Dv mP_forgetSettling 8 .aload_n .aload 0 9 := Or.inl ⟨0, by decide +kernel, rfl, rfl⟩
theorem dP_forgetSettling_9 : Df mP_forgetSettling 9 .getfield 1 3 12 := ⟨19, ("EstateDesk$Persons", eT1, 5), by decide +kernel, rfl, rfl, by decide, rfl, Or.inl (tb1 37 rfl)⟩
theorem dP_forgetSettling_12 : Dl mP_forgetSettling 12 0 13 := Or.inl ⟨0, by decide +kernel, rfl, rfl⟩
theorem dP_forgetSettling_13 : LkS mP_forgetSettling 13 16 mJ_fillL := ⟨29, by decide +kernel, rfl, Or.inl (tb3 14 rfl), tb3 15 rfl⟩
theorem dP_forgetSettling_16 : Dv mP_forgetSettling 16 .aload_n .aload 0 17 := Or.inl ⟨0, by decide +kernel, rfl, rfl⟩
theorem dP_forgetSettling_17 : Df mP_forgetSettling 17 .getfield 1 4 20 := ⟨22, ("EstateDesk$Persons", eT1, 5), by decide +kernel, rfl, rfl, by decide, rfl, Or.inl (tb1 40 rfl)⟩
theorem dP_forgetSettling_20 : Dl mP_forgetSettling 20 0 21 := Or.inl ⟨0, by decide +kernel, rfl, rfl⟩
theorem dP_forgetSettling_21 : LkS mP_forgetSettling 21 24 mJ_fillL := ⟨29, by decide +kernel, rfl, Or.inl (tb3 14 rfl), tb3 15 rfl⟩
theorem dP_forgetSettling_24 : Dn mP_forgetSettling 24 .return_ 1 25 := ⟨by decide +kernel, rfl⟩
end
section
theorem dS_init_0 : Dv mS_init 0 .aload_n .aload 0 1 := Or.inl ⟨0, by decide +kernel, rfl, rfl⟩
theorem dS_init_1 : Dn mS_init 1 (.invokespecial 3) 3 4 := ⟨by decide +kernel, rfl⟩
theorem dS_init_4 : Dv mS_init 4 .aload_n .aload 0 5 := Or.inl ⟨0, by decide +kernel, rfl, rfl⟩
theorem dS_init_5 : Dn mS_init 5 (.new 9) 3 8 := ⟨by decide +kernel, rfl⟩
theorem dS_init_8 : Dn mS_init 8 .dup 1 9 := ⟨by decide +kernel, rfl⟩
theorem dS_init_9 : Dn mS_init 9 (.invokespecial 11) 3 12 := ⟨by decide +kernel, rfl⟩
theorem dS_init_12 : Dfp mS_init 12 5 4 15 := ⟨12, ("EstateDesk$Settling", eT5, 7), by decide +kernel, rfl, rfl, by decide, rfl, tb1 214 rfl⟩
theorem dS_init_15 : Dv mS_init 15 .aload_n .aload 0 16 := Or.inl ⟨0, by decide +kernel, rfl, rfl⟩
theorem dS_init_16 : Dk mS_init 16 8 18 := Or.inr (Or.inl ⟨8, by decide +kernel, by decide +kernel, rfl⟩)
theorem dS_init_18 : Dn mS_init 18 (.newarray .long) 2 20 := ⟨by decide +kernel, rfl⟩
theorem dS_init_20 : Dfp mS_init 20 5 5 23 := ⟨18, ("EstateDesk$Settling", eT5, 7), by decide +kernel, rfl, rfl, by decide, rfl, tb1 215 rfl⟩
theorem dS_init_23 : Dv mS_init 23 .aload_n .aload 0 24 := Or.inl ⟨0, by decide +kernel, rfl, rfl⟩
theorem dS_init_24 : Dv mS_init 24 .aload_n .aload 1 25 := Or.inl ⟨1, by decide +kernel, rfl, rfl⟩
theorem dS_init_25 : Dfp mS_init 25 5 0 28 := ⟨22, ("EstateDesk$Settling", eT5, 7), by decide +kernel, rfl, rfl, by decide, rfl, tb1 210 rfl⟩
theorem dS_init_28 : Dv mS_init 28 .aload_n .aload 0 29 := Or.inl ⟨0, by decide +kernel, rfl, rfl⟩
theorem dS_init_29 : Dv mS_init 29 .aload_n .aload 2 30 := Or.inl ⟨2, by decide +kernel, rfl, rfl⟩
theorem dS_init_30 : Dfp mS_init 30 5 1 33 := ⟨26, ("EstateDesk$Settling", eT5, 7), by decide +kernel, rfl, rfl, by decide, rfl, tb1 211 rfl⟩
theorem dS_init_33 : Dv mS_init 33 .aload_n .aload 0 34 := Or.inl ⟨0, by decide +kernel, rfl, rfl⟩
theorem dS_init_34 : Dv mS_init 34 .aload_n .aload 3 35 := Or.inl ⟨3, by decide +kernel, rfl, rfl⟩
theorem dS_init_35 : Dfp mS_init 35 5 2 38 := ⟨30, ("EstateDesk$Settling", eT5, 7), by decide +kernel, rfl, rfl, by decide, rfl, tb1 212 rfl⟩
theorem dS_init_38 : Dv mS_init 38 .aload_n .aload 0 39 := Or.inl ⟨0, by decide +kernel, rfl, rfl⟩
theorem dS_init_39 : Dv mS_init 39 .aload_n .aload 4 41 := Or.inr ⟨by decide +kernel, rfl⟩
theorem dS_init_41 : Dfp mS_init 41 5 3 44 := ⟨34, ("EstateDesk$Settling", eT5, 7), by decide +kernel, rfl, rfl, by decide, rfl, tb1 213 rfl⟩
theorem dS_init_44 : Dn mS_init 44 .return_ 1 45 := ⟨by decide +kernel, rfl⟩
theorem dS_run_0 : Dv mS_run 0 .aload_n .aload 0 1 := Or.inl ⟨0, by decide +kernel, rfl, rfl⟩
theorem dS_run_1 : Df mS_run 1 .getfield 5 0 4 := ⟨22, ("EstateDesk$Settling", eT5, 7), by decide +kernel, rfl, rfl, by decide, rfl, Or.inl (tb1 210 rfl)⟩
theorem dS_run_4 : LkV mS_run 4 7 mP_forgetSettling := ⟨38, by decide +kernel, rfl, Or.inl (tb3 10 rfl), tb3 11 rfl, tb3 12 rfl⟩
theorem dS_run_7 : Dv mS_run 7 .aload_n .aload 0 8 := Or.inl ⟨0, by decide +kernel, rfl, rfl⟩
theorem dS_run_8 : Df mS_run 8 .getfield 5 1 11 := ⟨26, ("EstateDesk$Settling", eT5, 7), by decide +kernel, rfl, rfl, by decide, rfl, Or.inl (tb1 211 rfl)⟩
theorem dS_run_11 : LkV mS_run 11 14 mA_forgetSettling := ⟨43, by decide +kernel, rfl, Or.inl (tb3 17 rfl), tb3 18 rfl, tb3 19 rfl⟩
theorem dS_run_14 : Dv mS_run 14 .aload_n .aload 0 15 := Or.inl ⟨0, by decide +kernel, rfl, rfl⟩
theorem dS_run_15 : Df mS_run 15 .getfield 5 2 18 := ⟨30, ("EstateDesk$Settling", eT5, 7), by decide +kernel, rfl, rfl, by decide, rfl, Or.inl (tb1 212 rfl)⟩
theorem dS_run_18 : LkV mS_run 18 21 mC_forgetSettling := ⟨46, by decide +kernel, rfl, Or.inl (tb3 28 rfl), tb3 29 rfl, tb3 30 rfl⟩
theorem dS_run_21 : Dv mS_run 21 .aload_n .aload 0 22 := Or.inl ⟨0, by decide +kernel, rfl, rfl⟩
theorem dS_run_22 : LkV mS_run 22 25 mS_judgeClauses := ⟨49, by decide +kernel, rfl, Or.inl (tb3 34 rfl), tb3 36 rfl, ts 5 rfl⟩
theorem dS_run_25 : Dv mS_run 25 .aload_n .aload 0 26 := Or.inl ⟨0, by decide +kernel, rfl, rfl⟩
theorem dS_run_26 : LkV mS_run 26 29 mS_divideDebts := ⟨52, by decide +kernel, rfl, Or.inl (tb3 50 rfl), tb3 52 rfl, ts 8 rfl⟩
theorem dS_run_29 : Dv mS_run 29 .aload_n .aload 0 30 := Or.inl ⟨0, by decide +kernel, rfl, rfl⟩
theorem dS_run_30 : LkV mS_run 30 33 mS_valueClauses := ⟨55, by decide +kernel, rfl, Or.inl (tb3 61 rfl), tb3 63 rfl, ts 9 rfl⟩
theorem dS_run_33 : Dv mS_run 33 .aload_n .aload 0 34 := Or.inl ⟨0, by decide +kernel, rfl, rfl⟩
theorem dS_run_34 : LkV mS_run 34 37 mS_addUp := ⟨58, by decide +kernel, rfl, Or.inl (tb3 69 rfl), tb3 71 rfl, ts 11 rfl⟩
theorem dS_run_37 : Dv mS_run 37 .aload_n .aload 0 38 := Or.inl ⟨0, by decide +kernel, rfl, rfl⟩
theorem dS_run_38 : Df mS_run 38 .getfield 5 5 41 := ⟨18, ("EstateDesk$Settling", eT5, 7), by decide +kernel, rfl, rfl, by decide, rfl, Or.inl (tb1 215 rfl)⟩
theorem dS_run_41 : Dk mS_run 41 2 42 := Or.inl ⟨2, by decide +kernel, rfl, rfl⟩
theorem dS_run_42 : Dn mS_run 42 .laload 1 43 := ⟨by decide +kernel, rfl⟩
theorem dS_run_43 : Dv mS_run 43 .aload_n .aload 0 44 := Or.inl ⟨0, by decide +kernel, rfl, rfl⟩
theorem dS_run_44 : Df mS_run 44 .getfield 5 5 47 := ⟨18, ("EstateDesk$Settling", eT5, 7), by decide +kernel, rfl, rfl, by decide, rfl, Or.inl (tb1 215 rfl)⟩
theorem dS_run_47 : Dk mS_run 47 5 48 := Or.inl ⟨5, by decide +kernel, rfl, rfl⟩
theorem dS_run_48 : Dn mS_run 48 .laload 1 49 := ⟨by decide +kernel, rfl⟩
theorem dS_run_49 : Dn mS_run 49 .ladd 1 50 := ⟨by decide +kernel, rfl⟩
theorem dS_run_50 : Dv mS_run 50 .aload_n .aload 0 51 := Or.inl ⟨0, by decide +kernel, rfl, rfl⟩
theorem dS_run_51 : Df mS_run 51 .getfield 5 5 54 := ⟨18, ("EstateDesk$Settling", eT5, 7), by decide +kernel, rfl, rfl, by decide, rfl, Or.inl (tb1 215 rfl)⟩
theorem dS_run_54 : Dk mS_run 54 6 56 := Or.inr (Or.inl ⟨6, by decide +kernel, by decide +kernel, rfl⟩)
theorem dS_run_56 : Dn mS_run 56 .laload 1 57 := ⟨by decide +kernel, rfl⟩
theorem dS_run_57 : Dn mS_run 57 .ladd 1 58 := ⟨by decide +kernel, rfl⟩
theorem dS_run_58 : Dv mS_run 58 .lstore_n .lstore 1 59 := Or.inl ⟨1, by decide +kernel, rfl, rfl⟩
theorem dS_run_59 : Dv mS_run 59 .aload_n .aload 0 60 := Or.inl ⟨0, by decide +kernel, rfl, rfl⟩
theorem dS_run_60 : Dl mS_run 60 0 61 := Or.inl ⟨0, by decide +kernel, rfl, rfl⟩
theorem dS_run_61 : Dv mS_run 61 .aload_n .aload 0 62 := Or.inl ⟨0, by decide +kernel, rfl, rfl⟩
theorem dS_run_62 : Df mS_run 62 .getfield 5 5 65 := ⟨18, ("EstateDesk$Settling", eT5, 7), by decide +kernel, rfl, rfl, by decide, rfl, Or.inl (tb1 215 rfl)⟩
theorem dS_run_65 : Dk mS_run 65 3 66 := Or.inl ⟨3, by decide +kernel, rfl, rfl⟩
theorem dS_run_66 : Dn mS_run 66 .laload 1 67 := ⟨by decide +kernel, rfl⟩
theorem dS_run_67 : Dv mS_run 67 .lload_n .lload 1 68 := Or.inl ⟨1, by decide +kernel, rfl, rfl⟩
theorem dS_run_68 : Dn mS_run 68 .lsub 1 69 := ⟨by decide +kernel, rfl⟩
theorem dS_run_69 : LkS mS_run 69 72 mJ_max := ⟨61, by decide +kernel, rfl, Or.inl (tb3 77 rfl), tb3 78 rfl⟩
theorem dS_run_72 : Df mS_run 72 .putfield 5 6 75 := ⟨67, ("EstateDesk$Settling", eT5, 7), by decide +kernel, rfl, rfl, by decide, rfl, Or.inl (tb1 217 rfl)⟩
theorem dS_run_75 : Dv mS_run 75 .aload_n .aload 0 76 := Or.inl ⟨0, by decide +kernel, rfl, rfl⟩
theorem dS_run_76 : Df mS_run 76 .getfield 5 6 79 := ⟨67, ("EstateDesk$Settling", eT5, 7), by decide +kernel, rfl, rfl, by decide, rfl, Or.inl (tb1 217 rfl)⟩
theorem dS_run_79 : Dl mS_run 79 0 80 := Or.inl ⟨0, by decide +kernel, rfl, rfl⟩
theorem dS_run_80 : Dn mS_run 80 .lcmp 1 81 := ⟨by decide +kernel, rfl⟩
theorem dS_run_81 : Dj mS_run 81 (.ifCond .le) 84 92 := ⟨11, by decide +kernel, rfl, rfl⟩
theorem dS_run_84 : Dv mS_run 84 .aload_n .aload 0 85 := Or.inl ⟨0, by decide +kernel, rfl, rfl⟩
theorem dS_run_85 : Dv mS_run 85 .lload_n .lload 1 86 := Or.inl ⟨1, by decide +kernel, rfl, rfl⟩
theorem dS_run_86 : LkV mS_run 86 89 mS_payInProportion := ⟨71, by decide +kernel, rfl, Or.inl (tb3 80 rfl), tb3 82 rfl, ts 12 rfl⟩
theorem dS_run_89 : Dj mS_run 89 .goto 92 104 := ⟨15, by decide +kernel, rfl, rfl⟩
theorem dS_run_92 : Dv mS_run 92 .aload_n .aload 0 93 := Or.inl ⟨0, by decide +kernel, rfl, rfl⟩
theorem dS_run_93 : LkV mS_run 93 96 mS_abateByClass := ⟨75, by decide +kernel, rfl, Or.inl (tb3 105 rfl), tb3 107 rfl, ts 15 rfl⟩
theorem dS_run_96 : Dv mS_run 96 .aload_n .aload 0 97 := Or.inl ⟨0, by decide +kernel, rfl, rfl⟩
theorem dS_run_97 : LkV mS_run 97 100 mS_shareResidue := ⟨78, by decide +kernel, rfl, Or.inl (tb3 114 rfl), tb3 116 rfl, ts 17 rfl⟩
theorem dS_run_100 : Dv mS_run 100 .aload_n .aload 0 101 := Or.inl ⟨0, by decide +kernel, rfl, rfl⟩
theorem dS_run_101 : LkV mS_run 101 104 mS_handOut := ⟨81, by decide +kernel, rfl, Or.inl (tb3 118 rfl), tb3 120 rfl, ts 18 rfl⟩
theorem dS_run_104 : Dv mS_run 104 .aload_n .aload 0 105 := Or.inl ⟨0, by decide +kernel, rfl, rfl⟩
theorem dS_run_105 : Df mS_run 105 .getfield 5 5 108 := ⟨18, ("EstateDesk$Settling", eT5, 7), by decide +kernel, rfl, rfl, by decide, rfl, Or.inl (tb1 215 rfl)⟩
theorem dS_run_108 : Dk mS_run 108 1 109 := Or.inl ⟨1, by decide +kernel, rfl, rfl⟩
theorem dS_run_109 : Dv mS_run 109 .aload_n .aload 0 110 := Or.inl ⟨0, by decide +kernel, rfl, rfl⟩
theorem dS_run_110 : Df mS_run 110 .getfield 5 3 113 := ⟨34, ("EstateDesk$Settling", eT5, 7), by decide +kernel, rfl, rfl, by decide, rfl, Or.inl (tb1 213 rfl)⟩
theorem dS_run_113 : Df mS_run 113 .getfield 4 3 116 := ⟨84, ("EstateDesk$Debts", eT4, 4), by decide +kernel, rfl, rfl, by decide, rfl, Or.inr ⟨"EstateDesk", tb1 179 rfl⟩⟩
theorem dS_run_116 : LkS mS_run 116 119 mD_total := ⟨89, by decide +kernel, rfl, Or.inr ⟨"EstateDesk", tb3 74 rfl⟩, tb3 75 rfl⟩
theorem dS_run_119 : Dn mS_run 119 .lastore 1 120 := ⟨by decide +kernel, rfl⟩
theorem dS_run_120 : Dn mS_run 120 .return_ 1 121 := ⟨by decide +kernel, rfl⟩
theorem dS_judgeClauses_0 : Dk mS_judgeClauses 0 1 1 := Or.inl ⟨1, by decide +kernel, rfl, rfl⟩
theorem dS_judgeClauses_1 : Dv mS_judgeClauses 1 .istore_n .istore 1 2 := Or.inl ⟨1, by decide +kernel, rfl, rfl⟩
theorem dS_judgeClauses_2 : Dv mS_judgeClauses 2 .iload_n .iload 1 3 := Or.inl ⟨1, by decide +kernel, rfl, rfl⟩
theorem dS_judgeClauses_3 : Dk mS_judgeClauses 3 40 5 := Or.inr (Or.inl ⟨40, by decide +kernel, by decide +kernel, rfl⟩)
theorem dS_judgeClauses_5 : Dj mS_judgeClauses 5 (.if_icmp .gt) 8 44 := ⟨39, by decide +kernel, rfl, rfl⟩
theorem dS_judgeClauses_8 : Dv mS_judgeClauses 8 .aload_n .aload 0 9 := Or.inl ⟨0, by decide +kernel, rfl, rfl⟩
theorem dS_judgeClauses_9 : Df mS_judgeClauses 9 .getfield 5 2 12 := ⟨30, ("EstateDesk$Settling", eT5, 7), by decide +kernel, rfl, rfl, by decide, rfl, Or.inl (tb1 212 rfl)⟩
theorem dS_judgeClauses_12 : Df mS_judgeClauses 12 .getfield 3 0 15 := ⟨93, ("EstateDesk$Clauses", eT3, 13), by decide +kernel, rfl, rfl, by decide, rfl, Or.inr ⟨"EstateDesk", tb1 104 rfl⟩⟩
theorem dS_judgeClauses_15 : Dv mS_judgeClauses 15 .iload_n .iload 1 16 := Or.inl ⟨1, by decide +kernel, rfl, rfl⟩
theorem dS_judgeClauses_16 : Dn mS_judgeClauses 16 .iaload 1 17 := ⟨by decide +kernel, rfl⟩
theorem dS_judgeClauses_17 : Dj mS_judgeClauses 17 (.ifCond .eq) 20 38 := ⟨21, by decide +kernel, rfl, rfl⟩
theorem dS_judgeClauses_20 : Dv mS_judgeClauses 20 .aload_n .aload 0 21 := Or.inl ⟨0, by decide +kernel, rfl, rfl⟩
theorem dS_judgeClauses_21 : Dv mS_judgeClauses 21 .iload_n .iload 1 22 := Or.inl ⟨1, by decide +kernel, rfl, rfl⟩
theorem dS_judgeClauses_22 : Dv mS_judgeClauses 22 .aload_n .aload 0 23 := Or.inl ⟨0, by decide +kernel, rfl, rfl⟩
theorem dS_judgeClauses_23 : Dv mS_judgeClauses 23 .aload_n .aload 0 24 := Or.inl ⟨0, by decide +kernel, rfl, rfl⟩
theorem dS_judgeClauses_24 : Df mS_judgeClauses 24 .getfield 5 2 27 := ⟨30, ("EstateDesk$Settling", eT5, 7), by decide +kernel, rfl, rfl, by decide, rfl, Or.inl (tb1 212 rfl)⟩
theorem dS_judgeClauses_27 : Df mS_judgeClauses 27 .getfield 3 4 30 := ⟨97, ("EstateDesk$Clauses", eT3, 13), by decide +kernel, rfl, rfl, by decide, rfl, Or.inr ⟨"EstateDesk", tb1 114 rfl⟩⟩
theorem dS_judgeClauses_30 : Dv mS_judgeClauses 30 .iload_n .iload 1 31 := Or.inl ⟨1, by decide +kernel, rfl, rfl⟩
theorem dS_judgeClauses_31 : Dn mS_judgeClauses 31 .aaload 1 32 := ⟨by decide +kernel, rfl⟩
theorem dS_judgeClauses_32 : LkV mS_judgeClauses 32 35 mS_firstWhoOutlived := ⟨101, by decide +kernel, rfl, Or.inl (tb3 38 rfl), tb3 40 rfl, ts 6 rfl⟩
theorem dS_judgeClauses_35 : LkV mS_judgeClauses 35 38 mS_judge := ⟨105, by decide +kernel, rfl, Or.inl (tb3 46 rfl), tb3 48 rfl, ts 7 rfl⟩
theorem dS_judgeClauses_38 : Dn mS_judgeClauses 38 (.iinc 1 1) 3 41 := ⟨by decide +kernel, rfl⟩
theorem dS_judgeClauses_41 : Dj mS_judgeClauses 41 .goto 44 2 := ⟨-39, by decide +kernel, rfl, rfl⟩
theorem dS_judgeClauses_44 : Dn mS_judgeClauses 44 .return_ 1 45 := ⟨by decide +kernel, rfl⟩
theorem dS_judge_0 : Dv mS_judge 0 .aload_n .aload 0 1 := Or.inl ⟨0, by decide +kernel, rfl, rfl⟩
theorem dS_judge_1 : Df mS_judge 1 .getfield 5 2 4 := ⟨30, ("EstateDesk$Settling", eT5, 7), by decide +kernel, rfl, rfl, by decide, rfl, Or.inl (tb1 212 rfl)⟩
theorem dS_judge_4 : Df mS_judge 4 .getfield 3 0 7 := ⟨93, ("EstateDesk$Clauses", eT3, 13), by decide +kernel, rfl, rfl, by decide, rfl, Or.inr ⟨"EstateDesk", tb1 104 rfl⟩⟩
theorem dS_judge_7 : Dv mS_judge 7 .iload_n .iload 1 8 := Or.inl ⟨1, by decide +kernel, rfl, rfl⟩
theorem dS_judge_8 : Dn mS_judge 8 .iaload 1 9 := ⟨by decide +kernel, rfl⟩
theorem dS_judge_9 : Dk mS_judge 9 1 10 := Or.inl ⟨1, by decide +kernel, rfl, rfl⟩
theorem dS_judge_10 : Dj mS_judge 10 (.if_icmp .ne) 13 17 := ⟨7, by decide +kernel, rfl, rfl⟩
theorem dS_judge_13 : Dk mS_judge 13 1 14 := Or.inl ⟨1, by decide +kernel, rfl, rfl⟩
theorem dS_judge_14 : Dj mS_judge 14 .goto 17 18 := ⟨4, by decide +kernel, rfl, rfl⟩
theorem dS_judge_17 : Dk mS_judge 17 0 18 := Or.inl ⟨0, by decide +kernel, rfl, rfl⟩
theorem dS_judge_18 : Dv mS_judge 18 .istore_n .istore 3 19 := Or.inl ⟨3, by decide +kernel, rfl, rfl⟩
theorem dS_judge_19 : Dv mS_judge 19 .aload_n .aload 0 20 := Or.inl ⟨0, by decide +kernel, rfl, rfl⟩
theorem dS_judge_20 : Df mS_judge 20 .getfield 5 2 23 := ⟨30, ("EstateDesk$Settling", eT5, 7), by decide +kernel, rfl, rfl, by decide, rfl, Or.inl (tb1 212 rfl)⟩
theorem dS_judge_23 : Df mS_judge 23 .getfield 3 2 26 := ⟨109, ("EstateDesk$Clauses", eT3, 13), by decide +kernel, rfl, rfl, by decide, rfl, Or.inr ⟨"EstateDesk", tb1 109 rfl⟩⟩
theorem dS_judge_26 : Dv mS_judge 26 .iload_n .iload 1 27 := Or.inl ⟨1, by decide +kernel, rfl, rfl⟩
theorem dS_judge_27 : Dn mS_judge 27 .iaload 1 28 := ⟨by decide +kernel, rfl⟩
theorem dS_judge_28 : Dv mS_judge 28 .istore_n .istore 4 30 := Or.inr ⟨by decide +kernel, rfl⟩
theorem dS_judge_30 : Dv mS_judge 30 .iload_n .iload 2 31 := Or.inl ⟨2, by decide +kernel, rfl, rfl⟩
theorem dS_judge_31 : Dj mS_judge 31 (.ifCond .ne) 34 47 := ⟨16, by decide +kernel, rfl, rfl⟩
theorem dS_judge_34 : Dv mS_judge 34 .aload_n .aload 0 35 := Or.inl ⟨0, by decide +kernel, rfl, rfl⟩
theorem dS_judge_35 : Df mS_judge 35 .getfield 5 2 38 := ⟨30, ("EstateDesk$Settling", eT5, 7), by decide +kernel, rfl, rfl, by decide, rfl, Or.inl (tb1 212 rfl)⟩
theorem dS_judge_38 : Df mS_judge 38 .getfield 3 5 41 := ⟨112, ("EstateDesk$Clauses", eT3, 13), by decide +kernel, rfl, rfl, by decide, rfl, Or.inr ⟨"EstateDesk", tb1 117 rfl⟩⟩
theorem dS_judge_41 : Dv mS_judge 41 .iload_n .iload 1 42 := Or.inl ⟨1, by decide +kernel, rfl, rfl⟩
theorem dS_judge_42 : Dk mS_judge 42 1 43 := Or.inl ⟨1, by decide +kernel, rfl, rfl⟩
theorem dS_judge_43 : Dn mS_judge 43 .iastore 1 44 := ⟨by decide +kernel, rfl⟩
theorem dS_judge_44 : Dj mS_judge 44 .goto 47 112 := ⟨68, by decide +kernel, rfl, rfl⟩
theorem dS_judge_47 : Dv mS_judge 47 .iload_n .iload 3 48 := Or.inl ⟨3, by decide +kernel, rfl, rfl⟩
theorem dS_judge_48 : Dj mS_judge 48 (.ifCond .eq) 51 77 := ⟨29, by decide +kernel, rfl, rfl⟩
theorem dS_judge_51 : Dv mS_judge 51 .aload_n .aload 0 52 := Or.inl ⟨0, by decide +kernel, rfl, rfl⟩
theorem dS_judge_52 : Df mS_judge 52 .getfield 5 1 55 := ⟨26, ("EstateDesk$Settling", eT5, 7), by decide +kernel, rfl, rfl, by decide, rfl, Or.inl (tb1 211 rfl)⟩
theorem dS_judge_55 : Df mS_judge 55 .getfield 2 3 58 := ⟨115, ("EstateDesk$Assets", eT2, 7), by decide +kernel, rfl, rfl, by decide, rfl, Or.inr ⟨"EstateDesk", tb1 70 rfl⟩⟩
theorem dS_judge_58 : Dv mS_judge 58 .iload_n .iload 4 60 := Or.inr ⟨by decide +kernel, rfl⟩
theorem dS_judge_60 : Dn mS_judge 60 .baload 1 61 := ⟨by decide +kernel, rfl⟩
theorem dS_judge_61 : Dj mS_judge 61 (.ifCond .eq) 64 77 := ⟨16, by decide +kernel, rfl, rfl⟩
theorem dS_judge_64 : Dv mS_judge 64 .aload_n .aload 0 65 := Or.inl ⟨0, by decide +kernel, rfl, rfl⟩
theorem dS_judge_65 : Df mS_judge 65 .getfield 5 2 68 := ⟨30, ("EstateDesk$Settling", eT5, 7), by decide +kernel, rfl, rfl, by decide, rfl, Or.inl (tb1 212 rfl)⟩
theorem dS_judge_68 : Df mS_judge 68 .getfield 3 5 71 := ⟨112, ("EstateDesk$Clauses", eT3, 13), by decide +kernel, rfl, rfl, by decide, rfl, Or.inr ⟨"EstateDesk", tb1 117 rfl⟩⟩
theorem dS_judge_71 : Dv mS_judge 71 .iload_n .iload 1 72 := Or.inl ⟨1, by decide +kernel, rfl, rfl⟩
theorem dS_judge_72 : Dk mS_judge 72 2 73 := Or.inl ⟨2, by decide +kernel, rfl, rfl⟩
theorem dS_judge_73 : Dn mS_judge 73 .iastore 1 74 := ⟨by decide +kernel, rfl⟩
theorem dS_judge_74 : Dj mS_judge 74 .goto 77 112 := ⟨38, by decide +kernel, rfl, rfl⟩
theorem dS_judge_77 : Dv mS_judge 77 .aload_n .aload 0 78 := Or.inl ⟨0, by decide +kernel, rfl, rfl⟩
theorem dS_judge_78 : Df mS_judge 78 .getfield 5 2 81 := ⟨30, ("EstateDesk$Settling", eT5, 7), by decide +kernel, rfl, rfl, by decide, rfl, Or.inl (tb1 212 rfl)⟩
theorem dS_judge_81 : Df mS_judge 81 .getfield 3 5 84 := ⟨112, ("EstateDesk$Clauses", eT3, 13), by decide +kernel, rfl, rfl, by decide, rfl, Or.inr ⟨"EstateDesk", tb1 117 rfl⟩⟩
theorem dS_judge_84 : Dv mS_judge 84 .iload_n .iload 1 85 := Or.inl ⟨1, by decide +kernel, rfl, rfl⟩
theorem dS_judge_85 : Dk mS_judge 85 0 86 := Or.inl ⟨0, by decide +kernel, rfl, rfl⟩
theorem dS_judge_86 : Dn mS_judge 86 .iastore 1 87 := ⟨by decide +kernel, rfl⟩
theorem dS_judge_87 : Dv mS_judge 87 .aload_n .aload 0 88 := Or.inl ⟨0, by decide +kernel, rfl, rfl⟩
theorem dS_judge_88 : Df mS_judge 88 .getfield 5 2 91 := ⟨30, ("EstateDesk$Settling", eT5, 7), by decide +kernel, rfl, rfl, by decide, rfl, Or.inl (tb1 212 rfl)⟩
theorem dS_judge_91 : Df mS_judge 91 .getfield 3 6 94 := ⟨119, ("EstateDesk$Clauses", eT3, 13), by decide +kernel, rfl, rfl, by decide, rfl, Or.inr ⟨"EstateDesk", tb1 120 rfl⟩⟩
theorem dS_judge_94 : Dv mS_judge 94 .iload_n .iload 1 95 := Or.inl ⟨1, by decide +kernel, rfl, rfl⟩
theorem dS_judge_95 : Dv mS_judge 95 .iload_n .iload 2 96 := Or.inl ⟨2, by decide +kernel, rfl, rfl⟩
theorem dS_judge_96 : Dn mS_judge 96 .iastore 1 97 := ⟨by decide +kernel, rfl⟩
theorem dS_judge_97 : Dv mS_judge 97 .iload_n .iload 3 98 := Or.inl ⟨3, by decide +kernel, rfl, rfl⟩
theorem dS_judge_98 : Dj mS_judge 98 (.ifCond .eq) 101 112 := ⟨14, by decide +kernel, rfl, rfl⟩
theorem dS_judge_101 : Dv mS_judge 101 .aload_n .aload 0 102 := Or.inl ⟨0, by decide +kernel, rfl, rfl⟩
theorem dS_judge_102 : Df mS_judge 102 .getfield 5 1 105 := ⟨26, ("EstateDesk$Settling", eT5, 7), by decide +kernel, rfl, rfl, by decide, rfl, Or.inl (tb1 211 rfl)⟩
theorem dS_judge_105 : Df mS_judge 105 .getfield 2 5 108 := ⟨122, ("EstateDesk$Assets", eT2, 7), by decide +kernel, rfl, rfl, by decide, rfl, Or.inr ⟨"EstateDesk", tb1 75 rfl⟩⟩
theorem dS_judge_108 : Dv mS_judge 108 .iload_n .iload 4 110 := Or.inr ⟨by decide +kernel, rfl⟩
theorem dS_judge_110 : Dv mS_judge 110 .iload_n .iload 1 111 := Or.inl ⟨1, by decide +kernel, rfl, rfl⟩
theorem dS_judge_111 : Dn mS_judge 111 .iastore 1 112 := ⟨by decide +kernel, rfl⟩
theorem dS_judge_112 : Dn mS_judge 112 .return_ 1 113 := ⟨by decide +kernel, rfl⟩
theorem dS_firstWhoOutlived_0 : Dk mS_firstWhoOutlived 0 1 1 := Or.inl ⟨1, by decide +kernel, rfl, rfl⟩
theorem dS_firstWhoOutlived_1 : Dv mS_firstWhoOutlived 1 .istore_n .istore 2 2 := Or.inl ⟨2, by decide +kernel, rfl, rfl⟩
theorem dS_firstWhoOutlived_2 : Dv mS_firstWhoOutlived 2 .iload_n .iload 2 3 := Or.inl ⟨2, by decide +kernel, rfl, rfl⟩
theorem dS_firstWhoOutlived_3 : Dk mS_firstWhoOutlived 3 4 4 := Or.inl ⟨4, by decide +kernel, rfl, rfl⟩
theorem dS_firstWhoOutlived_4 : Dj mS_firstWhoOutlived 4 (.if_icmp .gt) 7 36 := ⟨32, by decide +kernel, rfl, rfl⟩
theorem dS_firstWhoOutlived_7 : Dv mS_firstWhoOutlived 7 .aload_n .aload 1 8 := Or.inl ⟨1, by decide +kernel, rfl, rfl⟩
theorem dS_firstWhoOutlived_8 : Dv mS_firstWhoOutlived 8 .iload_n .iload 2 9 := Or.inl ⟨2, by decide +kernel, rfl, rfl⟩
theorem dS_firstWhoOutlived_9 : Dn mS_firstWhoOutlived 9 .iaload 1 10 := ⟨by decide +kernel, rfl⟩
theorem dS_firstWhoOutlived_10 : Dj mS_firstWhoOutlived 10 (.ifCond .eq) 13 30 := ⟨20, by decide +kernel, rfl, rfl⟩
theorem dS_firstWhoOutlived_13 : Dv mS_firstWhoOutlived 13 .aload_n .aload 0 14 := Or.inl ⟨0, by decide +kernel, rfl, rfl⟩
theorem dS_firstWhoOutlived_14 : Df mS_firstWhoOutlived 14 .getfield 5 0 17 := ⟨22, ("EstateDesk$Settling", eT5, 7), by decide +kernel, rfl, rfl, by decide, rfl, Or.inl (tb1 210 rfl)⟩
theorem dS_firstWhoOutlived_17 : Dv mS_firstWhoOutlived 17 .aload_n .aload 1 18 := Or.inl ⟨1, by decide +kernel, rfl, rfl⟩
theorem dS_firstWhoOutlived_18 : Dv mS_firstWhoOutlived 18 .iload_n .iload 2 19 := Or.inl ⟨2, by decide +kernel, rfl, rfl⟩
theorem dS_firstWhoOutlived_19 : Dn mS_firstWhoOutlived 19 .iaload 1 20 := ⟨by decide +kernel, rfl⟩
theorem dS_firstWhoOutlived_20 : LkV mS_firstWhoOutlived 20 23 mP_outlived := ⟨125, by decide +kernel, rfl, Or.inl (tb3 42 rfl), tb3 43 rfl, tb3 44 rfl⟩
theorem dS_firstWhoOutlived_23 : Dj mS_firstWhoOutlived 23 (.ifCond .eq) 26 30 := ⟨7, by decide +kernel, rfl, rfl⟩
theorem dS_firstWhoOutlived_26 : Dv mS_firstWhoOutlived 26 .aload_n .aload 1 27 := Or.inl ⟨1, by decide +kernel, rfl, rfl⟩
theorem dS_firstWhoOutlived_27 : Dv mS_firstWhoOutlived 27 .iload_n .iload 2 28 := Or.inl ⟨2, by decide +kernel, rfl, rfl⟩
theorem dS_firstWhoOutlived_28 : Dn mS_firstWhoOutlived 28 .iaload 1 29 := ⟨by decide +kernel, rfl⟩
theorem dS_firstWhoOutlived_29 : Dn mS_firstWhoOutlived 29 .ireturn 1 30 := ⟨by decide +kernel, rfl⟩
theorem dS_firstWhoOutlived_30 : Dn mS_firstWhoOutlived 30 (.iinc 2 1) 3 33 := ⟨by decide +kernel, rfl⟩
theorem dS_firstWhoOutlived_33 : Dj mS_firstWhoOutlived 33 .goto 36 2 := ⟨-31, by decide +kernel, rfl, rfl⟩
theorem dS_firstWhoOutlived_36 : Dk mS_firstWhoOutlived 36 0 37 := Or.inl ⟨0, by decide +kernel, rfl, rfl⟩
theorem dS_firstWhoOutlived_37 : Dn mS_firstWhoOutlived 37 .ireturn 1 38 := ⟨by decide +kernel, rfl⟩
theorem dS_divideDebts_0 : Dk mS_divideDebts 0 1 1 := Or.inl ⟨1, by decide +kernel, rfl, rfl⟩
theorem dS_divideDebts_1 : Dv mS_divideDebts 1 .istore_n .istore 1 2 := Or.inl ⟨1, by decide +kernel, rfl, rfl⟩
theorem dS_divideDebts_2 : Dv mS_divideDebts 2 .iload_n .iload 1 3 := Or.inl ⟨1, by decide +kernel, rfl, rfl⟩
theorem dS_divideDebts_3 : Dk mS_divideDebts 3 40 5 := Or.inr (Or.inl ⟨40, by decide +kernel, by decide +kernel, rfl⟩)
theorem dS_divideDebts_5 : Dj mS_divideDebts 5 (.if_icmp .gt) 8 119 := ⟨114, by decide +kernel, rfl, rfl⟩
theorem dS_divideDebts_8 : Dv mS_divideDebts 8 .aload_n .aload 0 9 := Or.inl ⟨0, by decide +kernel, rfl, rfl⟩
theorem dS_divideDebts_9 : Df mS_divideDebts 9 .getfield 5 3 12 := ⟨34, ("EstateDesk$Settling", eT5, 7), by decide +kernel, rfl, rfl, by decide, rfl, Or.inl (tb1 213 rfl)⟩
theorem dS_divideDebts_12 : Df mS_divideDebts 12 .getfield 4 0 15 := ⟨129, ("EstateDesk$Debts", eT4, 4), by decide +kernel, rfl, rfl, by decide, rfl, Or.inr ⟨"EstateDesk", tb1 171 rfl⟩⟩
theorem dS_divideDebts_15 : Dv mS_divideDebts 15 .iload_n .iload 1 16 := Or.inl ⟨1, by decide +kernel, rfl, rfl⟩
theorem dS_divideDebts_16 : Dn mS_divideDebts 16 .laload 1 17 := ⟨by decide +kernel, rfl⟩
theorem dS_divideDebts_17 : Dv mS_divideDebts 17 .lstore_n .lstore 2 18 := Or.inl ⟨2, by decide +kernel, rfl, rfl⟩
theorem dS_divideDebts_18 : Dv mS_divideDebts 18 .aload_n .aload 0 19 := Or.inl ⟨0, by decide +kernel, rfl, rfl⟩
theorem dS_divideDebts_19 : Df mS_divideDebts 19 .getfield 5 1 22 := ⟨26, ("EstateDesk$Settling", eT5, 7), by decide +kernel, rfl, rfl, by decide, rfl, Or.inl (tb1 211 rfl)⟩
theorem dS_divideDebts_22 : Df mS_divideDebts 22 .getfield 2 5 25 := ⟨122, ("EstateDesk$Assets", eT2, 7), by decide +kernel, rfl, rfl, by decide, rfl, Or.inr ⟨"EstateDesk", tb1 75 rfl⟩⟩
theorem dS_divideDebts_25 : Dv mS_divideDebts 25 .aload_n .aload 0 26 := Or.inl ⟨0, by decide +kernel, rfl, rfl⟩
theorem dS_divideDebts_26 : Df mS_divideDebts 26 .getfield 5 3 29 := ⟨34, ("EstateDesk$Settling", eT5, 7), by decide +kernel, rfl, rfl, by decide, rfl, Or.inl (tb1 213 rfl)⟩
theorem dS_divideDebts_29 : Df mS_divideDebts 29 .getfield 4 1 32 := ⟨132, ("EstateDesk$Debts", eT4, 4), by decide +kernel, rfl, rfl, by decide, rfl, Or.inr ⟨"EstateDesk", tb1 174 rfl⟩⟩
theorem dS_divideDebts_32 : Dv mS_divideDebts 32 .iload_n .iload 1 33 := Or.inl ⟨1, by decide +kernel, rfl, rfl⟩
theorem dS_divideDebts_33 : Dn mS_divideDebts 33 .iaload 1 34 := ⟨by decide +kernel, rfl⟩
theorem dS_divideDebts_34 : Dn mS_divideDebts 34 .iaload 1 35 := ⟨by decide +kernel, rfl⟩
theorem dS_divideDebts_35 : Dv mS_divideDebts 35 .istore_n .istore 4 37 := Or.inr ⟨by decide +kernel, rfl⟩
theorem dS_divideDebts_37 : Dv mS_divideDebts 37 .iload_n .iload 4 39 := Or.inr ⟨by decide +kernel, rfl⟩
theorem dS_divideDebts_39 : Dj mS_divideDebts 39 (.ifCond .eq) 42 59 := ⟨20, by decide +kernel, rfl, rfl⟩
theorem dS_divideDebts_42 : Dv mS_divideDebts 42 .aload_n .aload 0 43 := Or.inl ⟨0, by decide +kernel, rfl, rfl⟩
theorem dS_divideDebts_43 : Df mS_divideDebts 43 .getfield 5 2 46 := ⟨30, ("EstateDesk$Settling", eT5, 7), by decide +kernel, rfl, rfl, by decide, rfl, Or.inl (tb1 212 rfl)⟩
theorem dS_divideDebts_46 : Df mS_divideDebts 46 .getfield 3 3 49 := ⟨133, ("EstateDesk$Clauses", eT3, 13), by decide +kernel, rfl, rfl, by decide, rfl, Or.inr ⟨"EstateDesk", tb1 111 rfl⟩⟩
theorem dS_divideDebts_49 : Dv mS_divideDebts 49 .iload_n .iload 4 51 := Or.inr ⟨by decide +kernel, rfl⟩
theorem dS_divideDebts_51 : Dn mS_divideDebts 51 .baload 1 52 := ⟨by decide +kernel, rfl⟩
theorem dS_divideDebts_52 : Dj mS_divideDebts 52 (.ifCond .eq) 55 59 := ⟨7, by decide +kernel, rfl, rfl⟩
theorem dS_divideDebts_55 : Dk mS_divideDebts 55 1 56 := Or.inl ⟨1, by decide +kernel, rfl, rfl⟩
theorem dS_divideDebts_56 : Dj mS_divideDebts 56 .goto 59 60 := ⟨4, by decide +kernel, rfl, rfl⟩
theorem dS_divideDebts_59 : Dk mS_divideDebts 59 0 60 := Or.inl ⟨0, by decide +kernel, rfl, rfl⟩
theorem dS_divideDebts_60 : Dv mS_divideDebts 60 .istore_n .istore 5 62 := Or.inr ⟨by decide +kernel, rfl⟩
theorem dS_divideDebts_62 : Dv mS_divideDebts 62 .iload_n .iload 5 64 := Or.inr ⟨by decide +kernel, rfl⟩
theorem dS_divideDebts_64 : Dj mS_divideDebts 64 (.ifCond .eq) 67 87 := ⟨23, by decide +kernel, rfl, rfl⟩
theorem dS_divideDebts_67 : Dv mS_divideDebts 67 .aload_n .aload 0 68 := Or.inl ⟨0, by decide +kernel, rfl, rfl⟩
theorem dS_divideDebts_68 : Df mS_divideDebts 68 .getfield 5 1 71 := ⟨26, ("EstateDesk$Settling", eT5, 7), by decide +kernel, rfl, rfl, by decide, rfl, Or.inl (tb1 211 rfl)⟩
theorem dS_divideDebts_71 : Dv mS_divideDebts 71 .aload_n .aload 0 72 := Or.inl ⟨0, by decide +kernel, rfl, rfl⟩
theorem dS_divideDebts_72 : Df mS_divideDebts 72 .getfield 5 3 75 := ⟨34, ("EstateDesk$Settling", eT5, 7), by decide +kernel, rfl, rfl, by decide, rfl, Or.inl (tb1 213 rfl)⟩
theorem dS_divideDebts_75 : Df mS_divideDebts 75 .getfield 4 1 78 := ⟨132, ("EstateDesk$Debts", eT4, 4), by decide +kernel, rfl, rfl, by decide, rfl, Or.inr ⟨"EstateDesk", tb1 174 rfl⟩⟩
theorem dS_divideDebts_78 : Dv mS_divideDebts 78 .iload_n .iload 1 79 := Or.inl ⟨1, by decide +kernel, rfl, rfl⟩
theorem dS_divideDebts_79 : Dn mS_divideDebts 79 .iaload 1 80 := ⟨by decide +kernel, rfl⟩
theorem dS_divideDebts_80 : Dv mS_divideDebts 80 .lload_n .lload 2 81 := Or.inl ⟨2, by decide +kernel, rfl, rfl⟩
theorem dS_divideDebts_81 : LkV mS_divideDebts 81 84 mA_takeOut := ⟨136, by decide +kernel, rfl, Or.inl (tb3 54 rfl), tb3 55 rfl, tb3 56 rfl⟩
theorem dS_divideDebts_84 : Dj mS_divideDebts 84 .goto 87 88 := ⟨4, by decide +kernel, rfl, rfl⟩
theorem dS_divideDebts_87 : Dl mS_divideDebts 87 0 88 := Or.inl ⟨0, by decide +kernel, rfl, rfl⟩
theorem dS_divideDebts_88 : Dv mS_divideDebts 88 .lstore_n .lstore 6 90 := Or.inr ⟨by decide +kernel, rfl⟩
theorem dS_divideDebts_90 : Dv mS_divideDebts 90 .aload_n .aload 0 91 := Or.inl ⟨0, by decide +kernel, rfl, rfl⟩
theorem dS_divideDebts_91 : Df mS_divideDebts 91 .getfield 5 3 94 := ⟨34, ("EstateDesk$Settling", eT5, 7), by decide +kernel, rfl, rfl, by decide, rfl, Or.inl (tb1 213 rfl)⟩
theorem dS_divideDebts_94 : Df mS_divideDebts 94 .getfield 4 2 97 := ⟨140, ("EstateDesk$Debts", eT4, 4), by decide +kernel, rfl, rfl, by decide, rfl, Or.inr ⟨"EstateDesk", tb1 177 rfl⟩⟩
theorem dS_divideDebts_97 : Dv mS_divideDebts 97 .iload_n .iload 1 98 := Or.inl ⟨1, by decide +kernel, rfl, rfl⟩
theorem dS_divideDebts_98 : Dv mS_divideDebts 98 .lload_n .lload 2 99 := Or.inl ⟨2, by decide +kernel, rfl, rfl⟩
theorem dS_divideDebts_99 : Dv mS_divideDebts 99 .lload_n .lload 6 101 := Or.inr ⟨by decide +kernel, rfl⟩
theorem dS_divideDebts_101 : Dn mS_divideDebts 101 .lsub 1 102 := ⟨by decide +kernel, rfl⟩
theorem dS_divideDebts_102 : Dn mS_divideDebts 102 .lastore 1 103 := ⟨by decide +kernel, rfl⟩
theorem dS_divideDebts_103 : Dv mS_divideDebts 103 .aload_n .aload 0 104 := Or.inl ⟨0, by decide +kernel, rfl, rfl⟩
theorem dS_divideDebts_104 : Df mS_divideDebts 104 .getfield 5 3 107 := ⟨34, ("EstateDesk$Settling", eT5, 7), by decide +kernel, rfl, rfl, by decide, rfl, Or.inl (tb1 213 rfl)⟩
theorem dS_divideDebts_107 : Df mS_divideDebts 107 .getfield 4 3 110 := ⟨84, ("EstateDesk$Debts", eT4, 4), by decide +kernel, rfl, rfl, by decide, rfl, Or.inr ⟨"EstateDesk", tb1 179 rfl⟩⟩
theorem dS_divideDebts_110 : Dv mS_divideDebts 110 .iload_n .iload 1 111 := Or.inl ⟨1, by decide +kernel, rfl, rfl⟩
theorem dS_divideDebts_111 : Dv mS_divideDebts 111 .lload_n .lload 2 112 := Or.inl ⟨2, by decide +kernel, rfl, rfl⟩
theorem dS_divideDebts_112 : Dn mS_divideDebts 112 .lastore 1 113 := ⟨by decide +kernel, rfl⟩
theorem dS_divideDebts_113 : Dn mS_divideDebts 113 (.iinc 1 1) 3 116 := ⟨by decide +kernel, rfl⟩
theorem dS_divideDebts_116 : Dj mS_divideDebts 116 .goto 119 2 := ⟨-114, by decide +kernel, rfl, rfl⟩
theorem dS_divideDebts_119 : Dn mS_divideDebts 119 .return_ 1 120 := ⟨by decide +kernel, rfl⟩
theorem dS_valueClauses_0 : Dk mS_valueClauses 0 1 1 := Or.inl ⟨1, by decide +kernel, rfl, rfl⟩
theorem dS_valueClauses_1 : Dv mS_valueClauses 1 .istore_n .istore 1 2 := Or.inl ⟨1, by decide +kernel, rfl, rfl⟩
theorem dS_valueClauses_2 : Dv mS_valueClauses 2 .iload_n .iload 1 3 := Or.inl ⟨1, by decide +kernel, rfl, rfl⟩
theorem dS_valueClauses_3 : Dk mS_valueClauses 3 40 5 := Or.inr (Or.inl ⟨40, by decide +kernel, by decide +kernel, rfl⟩)
theorem dS_valueClauses_5 : Dj mS_valueClauses 5 (.if_icmp .gt) 8 31 := ⟨26, by decide +kernel, rfl, rfl⟩
theorem dS_valueClauses_8 : Dv mS_valueClauses 8 .aload_n .aload 0 9 := Or.inl ⟨0, by decide +kernel, rfl, rfl⟩
theorem dS_valueClauses_9 : Df mS_valueClauses 9 .getfield 5 2 12 := ⟨30, ("EstateDesk$Settling", eT5, 7), by decide +kernel, rfl, rfl, by decide, rfl, Or.inl (tb1 212 rfl)⟩
theorem dS_valueClauses_12 : Df mS_valueClauses 12 .getfield 3 5 15 := ⟨112, ("EstateDesk$Clauses", eT3, 13), by decide +kernel, rfl, rfl, by decide, rfl, Or.inr ⟨"EstateDesk", tb1 117 rfl⟩⟩
theorem dS_valueClauses_15 : Dv mS_valueClauses 15 .iload_n .iload 1 16 := Or.inl ⟨1, by decide +kernel, rfl, rfl⟩
theorem dS_valueClauses_16 : Dn mS_valueClauses 16 .iaload 1 17 := ⟨by decide +kernel, rfl⟩
theorem dS_valueClauses_17 : Dj mS_valueClauses 17 (.ifCond .ne) 20 25 := ⟨8, by decide +kernel, rfl, rfl⟩
theorem dS_valueClauses_20 : Dv mS_valueClauses 20 .aload_n .aload 0 21 := Or.inl ⟨0, by decide +kernel, rfl, rfl⟩
theorem dS_valueClauses_21 : Dv mS_valueClauses 21 .iload_n .iload 1 22 := Or.inl ⟨1, by decide +kernel, rfl, rfl⟩
theorem dS_valueClauses_22 : LkV mS_valueClauses 22 25 mS_valueGood := ⟨143, by decide +kernel, rfl, Or.inl (tb3 65 rfl), tb3 67 rfl, ts 10 rfl⟩
theorem dS_valueClauses_25 : Dn mS_valueClauses 25 (.iinc 1 1) 3 28 := ⟨by decide +kernel, rfl⟩
theorem dS_valueClauses_28 : Dj mS_valueClauses 28 .goto 31 2 := ⟨-26, by decide +kernel, rfl, rfl⟩
theorem dS_valueClauses_31 : Dn mS_valueClauses 31 .return_ 1 32 := ⟨by decide +kernel, rfl⟩
theorem dS_valueGood_0 : Dv mS_valueGood 0 .aload_n .aload 0 1 := Or.inl ⟨0, by decide +kernel, rfl, rfl⟩
theorem dS_valueGood_1 : Df mS_valueGood 1 .getfield 5 2 4 := ⟨30, ("EstateDesk$Settling", eT5, 7), by decide +kernel, rfl, rfl, by decide, rfl, Or.inl (tb1 212 rfl)⟩
theorem dS_valueGood_4 : Df mS_valueGood 4 .getfield 3 2 7 := ⟨109, ("EstateDesk$Clauses", eT3, 13), by decide +kernel, rfl, rfl, by decide, rfl, Or.inr ⟨"EstateDesk", tb1 109 rfl⟩⟩
theorem dS_valueGood_7 : Dv mS_valueGood 7 .iload_n .iload 1 8 := Or.inl ⟨1, by decide +kernel, rfl, rfl⟩
theorem dS_valueGood_8 : Dn mS_valueGood 8 .iaload 1 9 := ⟨by decide +kernel, rfl⟩
theorem dS_valueGood_9 : Dv mS_valueGood 9 .istore_n .istore 2 10 := Or.inl ⟨2, by decide +kernel, rfl, rfl⟩
theorem dS_valueGood_10 : Dv mS_valueGood 10 .aload_n .aload 0 11 := Or.inl ⟨0, by decide +kernel, rfl, rfl⟩
theorem dS_valueGood_11 : Df mS_valueGood 11 .getfield 5 2 14 := ⟨30, ("EstateDesk$Settling", eT5, 7), by decide +kernel, rfl, rfl, by decide, rfl, Or.inl (tb1 212 rfl)⟩
theorem dS_valueGood_14 : Df mS_valueGood 14 .getfield 3 1 17 := ⟨147, ("EstateDesk$Clauses", eT3, 13), by decide +kernel, rfl, rfl, by decide, rfl, Or.inr ⟨"EstateDesk", tb1 107 rfl⟩⟩
theorem dS_valueGood_17 : Dv mS_valueGood 17 .iload_n .iload 1 18 := Or.inl ⟨1, by decide +kernel, rfl, rfl⟩
theorem dS_valueGood_18 : Dn mS_valueGood 18 .laload 1 19 := ⟨by decide +kernel, rfl⟩
theorem dS_valueGood_19 : Dv mS_valueGood 19 .lstore_n .lstore 3 20 := Or.inl ⟨3, by decide +kernel, rfl, rfl⟩
theorem dS_valueGood_20 : Dv mS_valueGood 20 .aload_n .aload 0 21 := Or.inl ⟨0, by decide +kernel, rfl, rfl⟩
theorem dS_valueGood_21 : Df mS_valueGood 21 .getfield 5 2 24 := ⟨30, ("EstateDesk$Settling", eT5, 7), by decide +kernel, rfl, rfl, by decide, rfl, Or.inl (tb1 212 rfl)⟩
theorem dS_valueGood_24 : Df mS_valueGood 24 .getfield 3 0 27 := ⟨93, ("EstateDesk$Clauses", eT3, 13), by decide +kernel, rfl, rfl, by decide, rfl, Or.inr ⟨"EstateDesk", tb1 104 rfl⟩⟩
theorem dS_valueGood_27 : Dv mS_valueGood 27 .iload_n .iload 1 28 := Or.inl ⟨1, by decide +kernel, rfl, rfl⟩
theorem dS_valueGood_28 : Dn mS_valueGood 28 .iaload 1 29 := ⟨by decide +kernel, rfl⟩
theorem dS_valueGood_29 : decode mS_valueGood.2.1 29 = .ok (.lookupswitch 61 #[(1, 27), (4, 48)], 27) := by decide +kernel
theorem dS_valueGood_56 : Dv mS_valueGood 56 .aload_n .aload 0 57 := Or.inl ⟨0, by decide +kernel, rfl, rfl⟩
theorem dS_valueGood_57 : Df mS_valueGood 57 .getfield 5 2 60 := ⟨30, ("EstateDesk$Settling", eT5, 7), by decide +kernel, rfl, rfl, by decide, rfl, Or.inl (tb1 212 rfl)⟩
theorem dS_valueGood_60 : Df mS_valueGood 60 .getfield 3 7 63 := ⟨150, ("EstateDesk$Clauses", eT3, 13), by decide +kernel, rfl, rfl, by decide, rfl, Or.inr ⟨"EstateDesk", tb1 123 rfl⟩⟩
theorem dS_valueGood_63 : Dv mS_valueGood 63 .iload_n .iload 1 64 := Or.inl ⟨1, by decide +kernel, rfl, rfl⟩
theorem dS_valueGood_64 : Dv mS_valueGood 64 .aload_n .aload 0 65 := Or.inl ⟨0, by decide +kernel, rfl, rfl⟩
theorem dS_valueGood_65 : Df mS_valueGood 65 .getfield 5 1 68 := ⟨26, ("EstateDesk$Settling", eT5, 7), by decide +kernel, rfl, rfl, by decide, rfl, Or.inl (tb1 211 rfl)⟩
theorem dS_valueGood_68 : Df mS_valueGood 68 .getfield 2 4 71 := ⟨153, ("EstateDesk$Assets", eT2, 7), by decide +kernel, rfl, rfl, by decide, rfl, Or.inr ⟨"EstateDesk", tb1 73 rfl⟩⟩
theorem dS_valueGood_71 : Dv mS_valueGood 71 .iload_n .iload 2 72 := Or.inl ⟨2, by decide +kernel, rfl, rfl⟩
theorem dS_valueGood_72 : Dn mS_valueGood 72 .laload 1 73 := ⟨by decide +kernel, rfl⟩
theorem dS_valueGood_73 : Dn mS_valueGood 73 .lastore 1 74 := ⟨by decide +kernel, rfl⟩
theorem dS_valueGood_74 : Dj mS_valueGood 74 .goto 77 128 := ⟨54, by decide +kernel, rfl, rfl⟩
theorem dS_valueGood_77 : Dv mS_valueGood 77 .aload_n .aload 0 78 := Or.inl ⟨0, by decide +kernel, rfl, rfl⟩
theorem dS_valueGood_78 : Df mS_valueGood 78 .getfield 5 2 81 := ⟨30, ("EstateDesk$Settling", eT5, 7), by decide +kernel, rfl, rfl, by decide, rfl, Or.inl (tb1 212 rfl)⟩
theorem dS_valueGood_81 : Df mS_valueGood 81 .getfield 3 10 84 := ⟨156, ("EstateDesk$Clauses", eT3, 13), by decide +kernel, rfl, rfl, by decide, rfl, Or.inr ⟨"EstateDesk", tb1 130 rfl⟩⟩
theorem dS_valueGood_84 : Dv mS_valueGood 84 .iload_n .iload 1 85 := Or.inl ⟨1, by decide +kernel, rfl, rfl⟩
theorem dS_valueGood_85 : Dv mS_valueGood 85 .lload_n .lload 3 86 := Or.inl ⟨3, by decide +kernel, rfl, rfl⟩
theorem dS_valueGood_86 : Dn mS_valueGood 86 .lastore 1 87 := ⟨by decide +kernel, rfl⟩
theorem dS_valueGood_87 : Dj mS_valueGood 87 .goto 90 128 := ⟨41, by decide +kernel, rfl, rfl⟩
theorem dS_valueGood_90 : Dv mS_valueGood 90 .aload_n .aload 0 91 := Or.inl ⟨0, by decide +kernel, rfl, rfl⟩
theorem dS_valueGood_91 : Df mS_valueGood 91 .getfield 5 2 94 := ⟨30, ("EstateDesk$Settling", eT5, 7), by decide +kernel, rfl, rfl, by decide, rfl, Or.inl (tb1 212 rfl)⟩
theorem dS_valueGood_94 : Df mS_valueGood 94 .getfield 3 8 97 := ⟨159, ("EstateDesk$Clauses", eT3, 13), by decide +kernel, rfl, rfl, by decide, rfl, Or.inr ⟨"EstateDesk", tb1 125 rfl⟩⟩
theorem dS_valueGood_97 : Dv mS_valueGood 97 .iload_n .iload 1 98 := Or.inl ⟨1, by decide +kernel, rfl, rfl⟩
theorem dS_valueGood_98 : Dv mS_valueGood 98 .aload_n .aload 0 99 := Or.inl ⟨0, by decide +kernel, rfl, rfl⟩
theorem dS_valueGood_99 : Df mS_valueGood 99 .getfield 5 1 102 := ⟨26, ("EstateDesk$Settling", eT5, 7), by decide +kernel, rfl, rfl, by decide, rfl, Or.inl (tb1 211 rfl)⟩
theorem dS_valueGood_102 : Dv mS_valueGood 102 .iload_n .iload 2 103 := Or.inl ⟨2, by decide +kernel, rfl, rfl⟩
theorem dS_valueGood_103 : Dv mS_valueGood 103 .lload_n .lload 3 104 := Or.inl ⟨3, by decide +kernel, rfl, rfl⟩
theorem dS_valueGood_104 : LkV mS_valueGood 104 107 mA_takeOut := ⟨136, by decide +kernel, rfl, Or.inl (tb3 54 rfl), tb3 55 rfl, tb3 56 rfl⟩
theorem dS_valueGood_107 : Dn mS_valueGood 107 .lastore 1 108 := ⟨by decide +kernel, rfl⟩
theorem dS_valueGood_108 : Dv mS_valueGood 108 .aload_n .aload 0 109 := Or.inl ⟨0, by decide +kernel, rfl, rfl⟩
theorem dS_valueGood_109 : Df mS_valueGood 109 .getfield 5 2 112 := ⟨30, ("EstateDesk$Settling", eT5, 7), by decide +kernel, rfl, rfl, by decide, rfl, Or.inl (tb1 212 rfl)⟩
theorem dS_valueGood_112 : Df mS_valueGood 112 .getfield 3 9 115 := ⟨162, ("EstateDesk$Clauses", eT3, 13), by decide +kernel, rfl, rfl, by decide, rfl, Or.inr ⟨"EstateDesk", tb1 128 rfl⟩⟩
theorem dS_valueGood_115 : Dv mS_valueGood 115 .iload_n .iload 1 116 := Or.inl ⟨1, by decide +kernel, rfl, rfl⟩
theorem dS_valueGood_116 : Dv mS_valueGood 116 .lload_n .lload 3 117 := Or.inl ⟨3, by decide +kernel, rfl, rfl⟩
theorem dS_valueGood_117 : Dv mS_valueGood 117 .aload_n .aload 0 118 := Or.inl ⟨0, by decide +kernel, rfl, rfl⟩
theorem dS_valueGood_118 : Df mS_valueGood 118 .getfield 5 2 121 := ⟨30, ("EstateDesk$Settling", eT5, 7), by decide +kernel, rfl, rfl, by decide, rfl, Or.inl (tb1 212 rfl)⟩
theorem dS_valueGood_121 : Df mS_valueGood 121 .getfield 3 8 124 := ⟨159, ("EstateDesk$Clauses", eT3, 13), by decide +kernel, rfl, rfl, by decide, rfl, Or.inr ⟨"EstateDesk", tb1 125 rfl⟩⟩
theorem dS_valueGood_124 : Dv mS_valueGood 124 .iload_n .iload 1 125 := Or.inl ⟨1, by decide +kernel, rfl, rfl⟩
theorem dS_valueGood_125 : Dn mS_valueGood 125 .laload 1 126 := ⟨by decide +kernel, rfl⟩
theorem dS_valueGood_126 : Dn mS_valueGood 126 .lsub 1 127 := ⟨by decide +kernel, rfl⟩
theorem dS_valueGood_127 : Dn mS_valueGood 127 .lastore 1 128 := ⟨by decide +kernel, rfl⟩
theorem dS_valueGood_128 : Dn mS_valueGood 128 .return_ 1 129 := ⟨by decide +kernel, rfl⟩
theorem dS_addUp_0 : Dv mS_addUp 0 .aload_n .aload 0 1 := Or.inl ⟨0, by decide +kernel, rfl, rfl⟩
theorem dS_addUp_1 : Df mS_addUp 1 .getfield 5 5 4 := ⟨18, ("EstateDesk$Settling", eT5, 7), by decide +kernel, rfl, rfl, by decide, rfl, Or.inl (tb1 215 rfl)⟩
theorem dS_addUp_4 : Dk mS_addUp 4 0 5 := Or.inl ⟨0, by decide +kernel, rfl, rfl⟩
theorem dS_addUp_5 : Dl mS_addUp 5 0 6 := Or.inl ⟨0, by decide +kernel, rfl, rfl⟩
theorem dS_addUp_6 : Dn mS_addUp 6 .lastore 1 7 := ⟨by decide +kernel, rfl⟩
theorem dS_addUp_7 : Dv mS_addUp 7 .aload_n .aload 0 8 := Or.inl ⟨0, by decide +kernel, rfl, rfl⟩
theorem dS_addUp_8 : Df mS_addUp 8 .getfield 5 5 11 := ⟨18, ("EstateDesk$Settling", eT5, 7), by decide +kernel, rfl, rfl, by decide, rfl, Or.inl (tb1 215 rfl)⟩
theorem dS_addUp_11 : Dk mS_addUp 11 2 12 := Or.inl ⟨2, by decide +kernel, rfl, rfl⟩
theorem dS_addUp_12 : Dl mS_addUp 12 0 13 := Or.inl ⟨0, by decide +kernel, rfl, rfl⟩
theorem dS_addUp_13 : Dn mS_addUp 13 .lastore 1 14 := ⟨by decide +kernel, rfl⟩
theorem dS_addUp_14 : Dk mS_addUp 14 1 15 := Or.inl ⟨1, by decide +kernel, rfl, rfl⟩
theorem dS_addUp_15 : Dv mS_addUp 15 .istore_n .istore 1 16 := Or.inl ⟨1, by decide +kernel, rfl, rfl⟩
theorem dS_addUp_16 : Dv mS_addUp 16 .iload_n .iload 1 17 := Or.inl ⟨1, by decide +kernel, rfl, rfl⟩
theorem dS_addUp_17 : Dk mS_addUp 17 40 19 := Or.inr (Or.inl ⟨40, by decide +kernel, by decide +kernel, rfl⟩)
theorem dS_addUp_19 : Dj mS_addUp 19 (.if_icmp .gt) 22 91 := ⟨72, by decide +kernel, rfl, rfl⟩
theorem dS_addUp_22 : Dv mS_addUp 22 .aload_n .aload 0 23 := Or.inl ⟨0, by decide +kernel, rfl, rfl⟩
theorem dS_addUp_23 : Df mS_addUp 23 .getfield 5 1 26 := ⟨26, ("EstateDesk$Settling", eT5, 7), by decide +kernel, rfl, rfl, by decide, rfl, Or.inl (tb1 211 rfl)⟩
theorem dS_addUp_26 : Dv mS_addUp 26 .iload_n .iload 1 27 := Or.inl ⟨1, by decide +kernel, rfl, rfl⟩
theorem dS_addUp_27 : LkV mS_addUp 27 30 mA_isThere := ⟨165, by decide +kernel, rfl, Or.inl (tb3 73 rfl), tb3 22 rfl, tb3 23 rfl⟩
theorem dS_addUp_30 : Dj mS_addUp 30 (.ifCond .eq) 33 85 := ⟨55, by decide +kernel, rfl, rfl⟩
theorem dS_addUp_33 : Dv mS_addUp 33 .aload_n .aload 0 34 := Or.inl ⟨0, by decide +kernel, rfl, rfl⟩
theorem dS_addUp_34 : Df mS_addUp 34 .getfield 5 5 37 := ⟨18, ("EstateDesk$Settling", eT5, 7), by decide +kernel, rfl, rfl, by decide, rfl, Or.inl (tb1 215 rfl)⟩
theorem dS_addUp_37 : Dk mS_addUp 37 0 38 := Or.inl ⟨0, by decide +kernel, rfl, rfl⟩
theorem dS_addUp_38 : Dn mS_addUp 38 .dup2 1 39 := ⟨by decide +kernel, rfl⟩
theorem dS_addUp_39 : Dn mS_addUp 39 .laload 1 40 := ⟨by decide +kernel, rfl⟩
theorem dS_addUp_40 : Dv mS_addUp 40 .aload_n .aload 0 41 := Or.inl ⟨0, by decide +kernel, rfl, rfl⟩
theorem dS_addUp_41 : Df mS_addUp 41 .getfield 5 1 44 := ⟨26, ("EstateDesk$Settling", eT5, 7), by decide +kernel, rfl, rfl, by decide, rfl, Or.inl (tb1 211 rfl)⟩
theorem dS_addUp_44 : Df mS_addUp 44 .getfield 2 1 47 := ⟨168, ("EstateDesk$Assets", eT2, 7), by decide +kernel, rfl, rfl, by decide, rfl, Or.inr ⟨"EstateDesk", tb1 66 rfl⟩⟩
theorem dS_addUp_47 : Dv mS_addUp 47 .iload_n .iload 1 48 := Or.inl ⟨1, by decide +kernel, rfl, rfl⟩
theorem dS_addUp_48 : Dn mS_addUp 48 .laload 1 49 := ⟨by decide +kernel, rfl⟩
theorem dS_addUp_49 : Dn mS_addUp 49 .ladd 1 50 := ⟨by decide +kernel, rfl⟩
theorem dS_addUp_50 : Dn mS_addUp 50 .lastore 1 51 := ⟨by decide +kernel, rfl⟩
theorem dS_addUp_51 : Dv mS_addUp 51 .aload_n .aload 0 52 := Or.inl ⟨0, by decide +kernel, rfl, rfl⟩
theorem dS_addUp_52 : Df mS_addUp 52 .getfield 5 5 55 := ⟨18, ("EstateDesk$Settling", eT5, 7), by decide +kernel, rfl, rfl, by decide, rfl, Or.inl (tb1 215 rfl)⟩
theorem dS_addUp_55 : Dk mS_addUp 55 2 56 := Or.inl ⟨2, by decide +kernel, rfl, rfl⟩
theorem dS_addUp_56 : Dn mS_addUp 56 .dup2 1 57 := ⟨by decide +kernel, rfl⟩
theorem dS_addUp_57 : Dn mS_addUp 57 .laload 1 58 := ⟨by decide +kernel, rfl⟩
theorem dS_addUp_58 : Dv mS_addUp 58 .aload_n .aload 0 59 := Or.inl ⟨0, by decide +kernel, rfl, rfl⟩
theorem dS_addUp_59 : Df mS_addUp 59 .getfield 5 1 62 := ⟨26, ("EstateDesk$Settling", eT5, 7), by decide +kernel, rfl, rfl, by decide, rfl, Or.inl (tb1 211 rfl)⟩
theorem dS_addUp_62 : Df mS_addUp 62 .getfield 2 5 65 := ⟨122, ("EstateDesk$Assets", eT2, 7), by decide +kernel, rfl, rfl, by decide, rfl, Or.inr ⟨"EstateDesk", tb1 75 rfl⟩⟩
theorem dS_addUp_65 : Dv mS_addUp 65 .iload_n .iload 1 66 := Or.inl ⟨1, by decide +kernel, rfl, rfl⟩
theorem dS_addUp_66 : Dn mS_addUp 66 .iaload 1 67 := ⟨by decide +kernel, rfl⟩
theorem dS_addUp_67 : Dj mS_addUp 67 (.ifCond .ne) 70 82 := ⟨15, by decide +kernel, rfl, rfl⟩
theorem dS_addUp_70 : Dv mS_addUp 70 .aload_n .aload 0 71 := Or.inl ⟨0, by decide +kernel, rfl, rfl⟩
theorem dS_addUp_71 : Df mS_addUp 71 .getfield 5 1 74 := ⟨26, ("EstateDesk$Settling", eT5, 7), by decide +kernel, rfl, rfl, by decide, rfl, Or.inl (tb1 211 rfl)⟩
theorem dS_addUp_74 : Df mS_addUp 74 .getfield 2 4 77 := ⟨153, ("EstateDesk$Assets", eT2, 7), by decide +kernel, rfl, rfl, by decide, rfl, Or.inr ⟨"EstateDesk", tb1 73 rfl⟩⟩
theorem dS_addUp_77 : Dv mS_addUp 77 .iload_n .iload 1 78 := Or.inl ⟨1, by decide +kernel, rfl, rfl⟩
theorem dS_addUp_78 : Dn mS_addUp 78 .laload 1 79 := ⟨by decide +kernel, rfl⟩
theorem dS_addUp_79 : Dj mS_addUp 79 .goto 82 83 := ⟨4, by decide +kernel, rfl, rfl⟩
theorem dS_addUp_82 : Dl mS_addUp 82 0 83 := Or.inl ⟨0, by decide +kernel, rfl, rfl⟩
theorem dS_addUp_83 : Dn mS_addUp 83 .ladd 1 84 := ⟨by decide +kernel, rfl⟩
theorem dS_addUp_84 : Dn mS_addUp 84 .lastore 1 85 := ⟨by decide +kernel, rfl⟩
theorem dS_addUp_85 : Dn mS_addUp 85 (.iinc 1 1) 3 88 := ⟨by decide +kernel, rfl⟩
theorem dS_addUp_88 : Dj mS_addUp 88 .goto 91 16 := ⟨-72, by decide +kernel, rfl, rfl⟩
theorem dS_addUp_91 : Dv mS_addUp 91 .aload_n .aload 0 92 := Or.inl ⟨0, by decide +kernel, rfl, rfl⟩
theorem dS_addUp_92 : Df mS_addUp 92 .getfield 5 5 95 := ⟨18, ("EstateDesk$Settling", eT5, 7), by decide +kernel, rfl, rfl, by decide, rfl, Or.inl (tb1 215 rfl)⟩
theorem dS_addUp_95 : Dk mS_addUp 95 3 96 := Or.inl ⟨3, by decide +kernel, rfl, rfl⟩
theorem dS_addUp_96 : Dv mS_addUp 96 .aload_n .aload 0 97 := Or.inl ⟨0, by decide +kernel, rfl, rfl⟩
theorem dS_addUp_97 : Df mS_addUp 97 .getfield 5 3 100 := ⟨34, ("EstateDesk$Settling", eT5, 7), by decide +kernel, rfl, rfl, by decide, rfl, Or.inl (tb1 213 rfl)⟩
theorem dS_addUp_100 : Df mS_addUp 100 .getfield 4 2 103 := ⟨140, ("EstateDesk$Debts", eT4, 4), by decide +kernel, rfl, rfl, by decide, rfl, Or.inr ⟨"EstateDesk", tb1 177 rfl⟩⟩
theorem dS_addUp_103 : LkS mS_addUp 103 106 mD_total := ⟨89, by decide +kernel, rfl, Or.inr ⟨"EstateDesk", tb3 74 rfl⟩, tb3 75 rfl⟩
theorem dS_addUp_106 : Dn mS_addUp 106 .lastore 1 107 := ⟨by decide +kernel, rfl⟩
theorem dS_addUp_107 : Dv mS_addUp 107 .aload_n .aload 0 108 := Or.inl ⟨0, by decide +kernel, rfl, rfl⟩
theorem dS_addUp_108 : Df mS_addUp 108 .getfield 5 5 111 := ⟨18, ("EstateDesk$Settling", eT5, 7), by decide +kernel, rfl, rfl, by decide, rfl, Or.inl (tb1 215 rfl)⟩
theorem dS_addUp_111 : Dk mS_addUp 111 4 112 := Or.inl ⟨4, by decide +kernel, rfl, rfl⟩
theorem dS_addUp_112 : Dv mS_addUp 112 .aload_n .aload 0 113 := Or.inl ⟨0, by decide +kernel, rfl, rfl⟩
theorem dS_addUp_113 : Df mS_addUp 113 .getfield 5 2 116 := ⟨30, ("EstateDesk$Settling", eT5, 7), by decide +kernel, rfl, rfl, by decide, rfl, Or.inl (tb1 212 rfl)⟩
theorem dS_addUp_116 : Df mS_addUp 116 .getfield 3 9 119 := ⟨162, ("EstateDesk$Clauses", eT3, 13), by decide +kernel, rfl, rfl, by decide, rfl, Or.inr ⟨"EstateDesk", tb1 128 rfl⟩⟩
theorem dS_addUp_119 : LkS mS_addUp 119 122 mD_total := ⟨89, by decide +kernel, rfl, Or.inr ⟨"EstateDesk", tb3 74 rfl⟩, tb3 75 rfl⟩
theorem dS_addUp_122 : Dn mS_addUp 122 .lastore 1 123 := ⟨by decide +kernel, rfl⟩
theorem dS_addUp_123 : Dv mS_addUp 123 .aload_n .aload 0 124 := Or.inl ⟨0, by decide +kernel, rfl, rfl⟩
theorem dS_addUp_124 : Df mS_addUp 124 .getfield 5 5 127 := ⟨18, ("EstateDesk$Settling", eT5, 7), by decide +kernel, rfl, rfl, by decide, rfl, Or.inl (tb1 215 rfl)⟩
theorem dS_addUp_127 : Dk mS_addUp 127 5 128 := Or.inl ⟨5, by decide +kernel, rfl, rfl⟩
theorem dS_addUp_128 : Dv mS_addUp 128 .aload_n .aload 0 129 := Or.inl ⟨0, by decide +kernel, rfl, rfl⟩
theorem dS_addUp_129 : Df mS_addUp 129 .getfield 5 2 132 := ⟨30, ("EstateDesk$Settling", eT5, 7), by decide +kernel, rfl, rfl, by decide, rfl, Or.inl (tb1 212 rfl)⟩
theorem dS_addUp_132 : Df mS_addUp 132 .getfield 3 8 135 := ⟨159, ("EstateDesk$Clauses", eT3, 13), by decide +kernel, rfl, rfl, by decide, rfl, Or.inr ⟨"EstateDesk", tb1 125 rfl⟩⟩
theorem dS_addUp_135 : LkS mS_addUp 135 138 mD_total := ⟨89, by decide +kernel, rfl, Or.inr ⟨"EstateDesk", tb3 74 rfl⟩, tb3 75 rfl⟩
theorem dS_addUp_138 : Dn mS_addUp 138 .lastore 1 139 := ⟨by decide +kernel, rfl⟩
theorem dS_addUp_139 : Dv mS_addUp 139 .aload_n .aload 0 140 := Or.inl ⟨0, by decide +kernel, rfl, rfl⟩
theorem dS_addUp_140 : Df mS_addUp 140 .getfield 5 5 143 := ⟨18, ("EstateDesk$Settling", eT5, 7), by decide +kernel, rfl, rfl, by decide, rfl, Or.inl (tb1 215 rfl)⟩
theorem dS_addUp_143 : Dk mS_addUp 143 6 145 := Or.inr (Or.inl ⟨6, by decide +kernel, by decide +kernel, rfl⟩)
theorem dS_addUp_145 : Dv mS_addUp 145 .aload_n .aload 0 146 := Or.inl ⟨0, by decide +kernel, rfl, rfl⟩
theorem dS_addUp_146 : Df mS_addUp 146 .getfield 5 2 149 := ⟨30, ("EstateDesk$Settling", eT5, 7), by decide +kernel, rfl, rfl, by decide, rfl, Or.inl (tb1 212 rfl)⟩
theorem dS_addUp_149 : Df mS_addUp 149 .getfield 3 7 152 := ⟨150, ("EstateDesk$Clauses", eT3, 13), by decide +kernel, rfl, rfl, by decide, rfl, Or.inr ⟨"EstateDesk", tb1 123 rfl⟩⟩
theorem dS_addUp_152 : LkS mS_addUp 152 155 mD_total := ⟨89, by decide +kernel, rfl, Or.inr ⟨"EstateDesk", tb3 74 rfl⟩, tb3 75 rfl⟩
theorem dS_addUp_155 : Dn mS_addUp 155 .lastore 1 156 := ⟨by decide +kernel, rfl⟩
theorem dS_addUp_156 : Dv mS_addUp 156 .aload_n .aload 0 157 := Or.inl ⟨0, by decide +kernel, rfl, rfl⟩
theorem dS_addUp_157 : Df mS_addUp 157 .getfield 5 5 160 := ⟨18, ("EstateDesk$Settling", eT5, 7), by decide +kernel, rfl, rfl, by decide, rfl, Or.inl (tb1 215 rfl)⟩
theorem dS_addUp_160 : Dk mS_addUp 160 7 162 := Or.inr (Or.inl ⟨7, by decide +kernel, by decide +kernel, rfl⟩)
theorem dS_addUp_162 : Dl mS_addUp 162 0 163 := Or.inl ⟨0, by decide +kernel, rfl, rfl⟩
theorem dS_addUp_163 : Dv mS_addUp 163 .aload_n .aload 0 164 := Or.inl ⟨0, by decide +kernel, rfl, rfl⟩
theorem dS_addUp_164 : Df mS_addUp 164 .getfield 5 5 167 := ⟨18, ("EstateDesk$Settling", eT5, 7), by decide +kernel, rfl, rfl, by decide, rfl, Or.inl (tb1 215 rfl)⟩
theorem dS_addUp_167 : Dk mS_addUp 167 2 168 := Or.inl ⟨2, by decide +kernel, rfl, rfl⟩
theorem dS_addUp_168 : Dn mS_addUp 168 .laload 1 169 := ⟨by decide +kernel, rfl⟩
theorem dS_addUp_169 : Dv mS_addUp 169 .aload_n .aload 0 170 := Or.inl ⟨0, by decide +kernel, rfl, rfl⟩
theorem dS_addUp_170 : Df mS_addUp 170 .getfield 5 5 173 := ⟨18, ("EstateDesk$Settling", eT5, 7), by decide +kernel, rfl, rfl, by decide, rfl, Or.inl (tb1 215 rfl)⟩
theorem dS_addUp_173 : Dk mS_addUp 173 3 174 := Or.inl ⟨3, by decide +kernel, rfl, rfl⟩
theorem dS_addUp_174 : Dn mS_addUp 174 .laload 1 175 := ⟨by decide +kernel, rfl⟩
theorem dS_addUp_175 : Dn mS_addUp 175 .lsub 1 176 := ⟨by decide +kernel, rfl⟩
theorem dS_addUp_176 : Dv mS_addUp 176 .aload_n .aload 0 177 := Or.inl ⟨0, by decide +kernel, rfl, rfl⟩
theorem dS_addUp_177 : Df mS_addUp 177 .getfield 5 5 180 := ⟨18, ("EstateDesk$Settling", eT5, 7), by decide +kernel, rfl, rfl, by decide, rfl, Or.inl (tb1 215 rfl)⟩
theorem dS_addUp_180 : Dk mS_addUp 180 4 181 := Or.inl ⟨4, by decide +kernel, rfl, rfl⟩
theorem dS_addUp_181 : Dn mS_addUp 181 .laload 1 182 := ⟨by decide +kernel, rfl⟩
theorem dS_addUp_182 : Dn mS_addUp 182 .lsub 1 183 := ⟨by decide +kernel, rfl⟩
theorem dS_addUp_183 : LkS mS_addUp 183 186 mJ_max := ⟨61, by decide +kernel, rfl, Or.inl (tb3 77 rfl), tb3 78 rfl⟩
theorem dS_addUp_186 : Dn mS_addUp 186 .lastore 1 187 := ⟨by decide +kernel, rfl⟩
theorem dS_addUp_187 : Dn mS_addUp 187 .return_ 1 188 := ⟨by decide +kernel, rfl⟩
theorem dS_payInProportion_0 : Dv mS_payInProportion 0 .aload_n .aload 0 1 := Or.inl ⟨0, by decide +kernel, rfl, rfl⟩
theorem dS_payInProportion_1 : Df mS_payInProportion 1 .getfield 5 4 4 := ⟨12, ("EstateDesk$Settling", eT5, 7), by decide +kernel, rfl, rfl, by decide, rfl, Or.inl (tb1 214 rfl)⟩
theorem dS_payInProportion_4 : Dv mS_payInProportion 4 .aload_n .aload 0 5 := Or.inl ⟨0, by decide +kernel, rfl, rfl⟩
theorem dS_payInProportion_5 : Df mS_payInProportion 5 .getfield 5 3 8 := ⟨34, ("EstateDesk$Settling", eT5, 7), by decide +kernel, rfl, rfl, by decide, rfl, Or.inl (tb1 213 rfl)⟩
theorem dS_payInProportion_8 : Df mS_payInProportion 8 .getfield 4 2 11 := ⟨140, ("EstateDesk$Debts", eT4, 4), by decide +kernel, rfl, rfl, by decide, rfl, Or.inr ⟨"EstateDesk", tb1 177 rfl⟩⟩
theorem dS_payInProportion_11 : Dv mS_payInProportion 11 .lload_n .lload 1 12 := Or.inl ⟨1, by decide +kernel, rfl, rfl⟩
theorem dS_payInProportion_12 : LkV mS_payInProportion 12 15 mT_among := ⟨171, by decide +kernel, rfl, Or.inl (tb3 84 rfl), tb3 85 rfl, tb3 86 rfl⟩
theorem dS_payInProportion_15 : Dk mS_payInProportion 15 1 16 := Or.inl ⟨1, by decide +kernel, rfl, rfl⟩
theorem dS_payInProportion_16 : Dv mS_payInProportion 16 .istore_n .istore 3 17 := Or.inl ⟨3, by decide +kernel, rfl, rfl⟩
theorem dS_payInProportion_17 : Dv mS_payInProportion 17 .iload_n .iload 3 18 := Or.inl ⟨3, by decide +kernel, rfl, rfl⟩
theorem dS_payInProportion_18 : Dk mS_payInProportion 18 40 20 := Or.inr (Or.inl ⟨40, by decide +kernel, by decide +kernel, rfl⟩)
theorem dS_payInProportion_20 : Dj mS_payInProportion 20 (.if_icmp .gt) 23 60 := ⟨40, by decide +kernel, rfl, rfl⟩
theorem dS_payInProportion_23 : Dv mS_payInProportion 23 .aload_n .aload 0 24 := Or.inl ⟨0, by decide +kernel, rfl, rfl⟩
theorem dS_payInProportion_24 : Df mS_payInProportion 24 .getfield 5 3 27 := ⟨34, ("EstateDesk$Settling", eT5, 7), by decide +kernel, rfl, rfl, by decide, rfl, Or.inl (tb1 213 rfl)⟩
theorem dS_payInProportion_27 : Df mS_payInProportion 27 .getfield 4 3 30 := ⟨84, ("EstateDesk$Debts", eT4, 4), by decide +kernel, rfl, rfl, by decide, rfl, Or.inr ⟨"EstateDesk", tb1 179 rfl⟩⟩
theorem dS_payInProportion_30 : Dv mS_payInProportion 30 .iload_n .iload 3 31 := Or.inl ⟨3, by decide +kernel, rfl, rfl⟩
theorem dS_payInProportion_31 : Dn mS_payInProportion 31 .dup2 1 32 := ⟨by decide +kernel, rfl⟩
theorem dS_payInProportion_32 : Dn mS_payInProportion 32 .laload 1 33 := ⟨by decide +kernel, rfl⟩
theorem dS_payInProportion_33 : Dv mS_payInProportion 33 .aload_n .aload 0 34 := Or.inl ⟨0, by decide +kernel, rfl, rfl⟩
theorem dS_payInProportion_34 : Df mS_payInProportion 34 .getfield 5 3 37 := ⟨34, ("EstateDesk$Settling", eT5, 7), by decide +kernel, rfl, rfl, by decide, rfl, Or.inl (tb1 213 rfl)⟩
theorem dS_payInProportion_37 : Df mS_payInProportion 37 .getfield 4 2 40 := ⟨140, ("EstateDesk$Debts", eT4, 4), by decide +kernel, rfl, rfl, by decide, rfl, Or.inr ⟨"EstateDesk", tb1 177 rfl⟩⟩
theorem dS_payInProportion_40 : Dv mS_payInProportion 40 .iload_n .iload 3 41 := Or.inl ⟨3, by decide +kernel, rfl, rfl⟩
theorem dS_payInProportion_41 : Dn mS_payInProportion 41 .laload 1 42 := ⟨by decide +kernel, rfl⟩
theorem dS_payInProportion_42 : Dv mS_payInProportion 42 .aload_n .aload 0 43 := Or.inl ⟨0, by decide +kernel, rfl, rfl⟩
theorem dS_payInProportion_43 : Df mS_payInProportion 43 .getfield 5 4 46 := ⟨12, ("EstateDesk$Settling", eT5, 7), by decide +kernel, rfl, rfl, by decide, rfl, Or.inl (tb1 214 rfl)⟩
theorem dS_payInProportion_46 : Df mS_payInProportion 46 .getfield 6 0 49 := ⟨175, ("EstateDesk$Split", eT6, 2), by decide +kernel, rfl, rfl, by decide, rfl, Or.inr ⟨"EstateDesk", tb1 203 rfl⟩⟩
theorem dS_payInProportion_49 : Dv mS_payInProportion 49 .iload_n .iload 3 50 := Or.inl ⟨3, by decide +kernel, rfl, rfl⟩
theorem dS_payInProportion_50 : Dn mS_payInProportion 50 .laload 1 51 := ⟨by decide +kernel, rfl⟩
theorem dS_payInProportion_51 : Dn mS_payInProportion 51 .lsub 1 52 := ⟨by decide +kernel, rfl⟩
theorem dS_payInProportion_52 : Dn mS_payInProportion 52 .lsub 1 53 := ⟨by decide +kernel, rfl⟩
theorem dS_payInProportion_53 : Dn mS_payInProportion 53 .lastore 1 54 := ⟨by decide +kernel, rfl⟩
theorem dS_payInProportion_54 : Dn mS_payInProportion 54 (.iinc 3 1) 3 57 := ⟨by decide +kernel, rfl⟩
theorem dS_payInProportion_57 : Dj mS_payInProportion 57 .goto 60 17 := ⟨-40, by decide +kernel, rfl, rfl⟩
theorem dS_payInProportion_60 : Dk mS_payInProportion 60 1 61 := Or.inl ⟨1, by decide +kernel, rfl, rfl⟩
theorem dS_payInProportion_61 : Dv mS_payInProportion 61 .istore_n .istore 3 62 := Or.inl ⟨3, by decide +kernel, rfl, rfl⟩
theorem dS_payInProportion_62 : Dv mS_payInProportion 62 .iload_n .iload 3 63 := Or.inl ⟨3, by decide +kernel, rfl, rfl⟩
theorem dS_payInProportion_63 : Dk mS_payInProportion 63 40 65 := Or.inr (Or.inl ⟨40, by decide +kernel, by decide +kernel, rfl⟩)
theorem dS_payInProportion_65 : Dj mS_payInProportion 65 (.if_icmp .gt) 68 113 := ⟨48, by decide +kernel, rfl, rfl⟩
theorem dS_payInProportion_68 : Dv mS_payInProportion 68 .aload_n .aload 0 69 := Or.inl ⟨0, by decide +kernel, rfl, rfl⟩
theorem dS_payInProportion_69 : Df mS_payInProportion 69 .getfield 5 2 72 := ⟨30, ("EstateDesk$Settling", eT5, 7), by decide +kernel, rfl, rfl, by decide, rfl, Or.inl (tb1 212 rfl)⟩
theorem dS_payInProportion_72 : Df mS_payInProportion 72 .getfield 3 11 75 := ⟨178, ("EstateDesk$Clauses", eT3, 13), by decide +kernel, rfl, rfl, by decide, rfl, Or.inr ⟨"EstateDesk", tb1 132 rfl⟩⟩
theorem dS_payInProportion_75 : Dv mS_payInProportion 75 .iload_n .iload 3 76 := Or.inl ⟨3, by decide +kernel, rfl, rfl⟩
theorem dS_payInProportion_76 : Dv mS_payInProportion 76 .aload_n .aload 0 77 := Or.inl ⟨0, by decide +kernel, rfl, rfl⟩
theorem dS_payInProportion_77 : Df mS_payInProportion 77 .getfield 5 2 80 := ⟨30, ("EstateDesk$Settling", eT5, 7), by decide +kernel, rfl, rfl, by decide, rfl, Or.inl (tb1 212 rfl)⟩
theorem dS_payInProportion_80 : Dv mS_payInProportion 80 .iload_n .iload 3 81 := Or.inl ⟨3, by decide +kernel, rfl, rfl⟩
theorem dS_payInProportion_81 : LkV mS_payInProportion 81 84 mC_worthInAll := ⟨181, by decide +kernel, rfl, Or.inl (tb3 101 rfl), tb3 102 rfl, tb3 103 rfl⟩
theorem dS_payInProportion_84 : Dn mS_payInProportion 84 .lastore 1 85 := ⟨by decide +kernel, rfl⟩
theorem dS_payInProportion_85 : Dv mS_payInProportion 85 .aload_n .aload 0 86 := Or.inl ⟨0, by decide +kernel, rfl, rfl⟩
theorem dS_payInProportion_86 : Df mS_payInProportion 86 .getfield 5 2 89 := ⟨30, ("EstateDesk$Settling", eT5, 7), by decide +kernel, rfl, rfl, by decide, rfl, Or.inl (tb1 212 rfl)⟩
theorem dS_payInProportion_89 : Df mS_payInProportion 89 .getfield 3 5 92 := ⟨112, ("EstateDesk$Clauses", eT3, 13), by decide +kernel, rfl, rfl, by decide, rfl, Or.inr ⟨"EstateDesk", tb1 117 rfl⟩⟩
theorem dS_payInProportion_92 : Dv mS_payInProportion 92 .iload_n .iload 3 93 := Or.inl ⟨3, by decide +kernel, rfl, rfl⟩
theorem dS_payInProportion_93 : Dn mS_payInProportion 93 .iaload 1 94 := ⟨by decide +kernel, rfl⟩
theorem dS_payInProportion_94 : Dj mS_payInProportion 94 (.ifCond .ne) 97 107 := ⟨13, by decide +kernel, rfl, rfl⟩
theorem dS_payInProportion_97 : Dv mS_payInProportion 97 .aload_n .aload 0 98 := Or.inl ⟨0, by decide +kernel, rfl, rfl⟩
theorem dS_payInProportion_98 : Df mS_payInProportion 98 .getfield 5 2 101 := ⟨30, ("EstateDesk$Settling", eT5, 7), by decide +kernel, rfl, rfl, by decide, rfl, Or.inl (tb1 212 rfl)⟩
theorem dS_payInProportion_101 : Df mS_payInProportion 101 .getfield 3 5 104 := ⟨112, ("EstateDesk$Clauses", eT3, 13), by decide +kernel, rfl, rfl, by decide, rfl, Or.inr ⟨"EstateDesk", tb1 117 rfl⟩⟩
theorem dS_payInProportion_104 : Dv mS_payInProportion 104 .iload_n .iload 3 105 := Or.inl ⟨3, by decide +kernel, rfl, rfl⟩
theorem dS_payInProportion_105 : Dk mS_payInProportion 105 3 106 := Or.inl ⟨3, by decide +kernel, rfl, rfl⟩
theorem dS_payInProportion_106 : Dn mS_payInProportion 106 .iastore 1 107 := ⟨by decide +kernel, rfl⟩
theorem dS_payInProportion_107 : Dn mS_payInProportion 107 (.iinc 3 1) 3 110 := ⟨by decide +kernel, rfl⟩
theorem dS_payInProportion_110 : Dj mS_payInProportion 110 .goto 113 62 := ⟨-48, by decide +kernel, rfl, rfl⟩
theorem dS_payInProportion_113 : Dn mS_payInProportion 113 .return_ 1 114 := ⟨by decide +kernel, rfl⟩
end
section
theorem dS_abateByClass_0 : Dl mS_abateByClass 0 0 1 := Or.inl ⟨0, by decide +kernel, rfl, rfl⟩
theorem dS_abateByClass_1 : Dv mS_abateByClass 1 .aload_n .aload 0 2 := Or.inl ⟨0, by decide +kernel, rfl, rfl⟩
theorem dS_abateByClass_2 : Df mS_abateByClass 2 .getfield 5 5 5 := ⟨18, ("EstateDesk$Settling", eT5, 7), by decide +kernel, rfl, rfl, by decide, rfl, Or.inl (tb1 215 rfl)⟩
theorem dS_abateByClass_5 : Dk mS_abateByClass 5 2 6 := Or.inl ⟨2, by decide +kernel, rfl, rfl⟩
theorem dS_abateByClass_6 : Dn mS_abateByClass 6 .laload 1 7 := ⟨by decide +kernel, rfl⟩
theorem dS_abateByClass_7 : Dv mS_abateByClass 7 .aload_n .aload 0 8 := Or.inl ⟨0, by decide +kernel, rfl, rfl⟩
theorem dS_abateByClass_8 : Df mS_abateByClass 8 .getfield 5 5 11 := ⟨18, ("EstateDesk$Settling", eT5, 7), by decide +kernel, rfl, rfl, by decide, rfl, Or.inl (tb1 215 rfl)⟩
theorem dS_abateByClass_11 : Dk mS_abateByClass 11 3 12 := Or.inl ⟨3, by decide +kernel, rfl, rfl⟩
theorem dS_abateByClass_12 : Dn mS_abateByClass 12 .laload 1 13 := ⟨by decide +kernel, rfl⟩
theorem dS_abateByClass_13 : Dn mS_abateByClass 13 .lsub 1 14 := ⟨by decide +kernel, rfl⟩
theorem dS_abateByClass_14 : LkS mS_abateByClass 14 17 mJ_max := ⟨61, by decide +kernel, rfl, Or.inl (tb3 77 rfl), tb3 78 rfl⟩
theorem dS_abateByClass_17 : Dv mS_abateByClass 17 .lstore_n .lstore 1 18 := Or.inl ⟨1, by decide +kernel, rfl, rfl⟩
theorem dS_abateByClass_18 : Dl mS_abateByClass 18 0 19 := Or.inl ⟨0, by decide +kernel, rfl, rfl⟩
theorem dS_abateByClass_19 : Dv mS_abateByClass 19 .aload_n .aload 0 20 := Or.inl ⟨0, by decide +kernel, rfl, rfl⟩
theorem dS_abateByClass_20 : Df mS_abateByClass 20 .getfield 5 5 23 := ⟨18, ("EstateDesk$Settling", eT5, 7), by decide +kernel, rfl, rfl, by decide, rfl, Or.inl (tb1 215 rfl)⟩
theorem dS_abateByClass_23 : Dk mS_abateByClass 23 3 24 := Or.inl ⟨3, by decide +kernel, rfl, rfl⟩
theorem dS_abateByClass_24 : Dn mS_abateByClass 24 .laload 1 25 := ⟨by decide +kernel, rfl⟩
theorem dS_abateByClass_25 : Dv mS_abateByClass 25 .aload_n .aload 0 26 := Or.inl ⟨0, by decide +kernel, rfl, rfl⟩
theorem dS_abateByClass_26 : Df mS_abateByClass 26 .getfield 5 5 29 := ⟨18, ("EstateDesk$Settling", eT5, 7), by decide +kernel, rfl, rfl, by decide, rfl, Or.inl (tb1 215 rfl)⟩
theorem dS_abateByClass_29 : Dk mS_abateByClass 29 2 30 := Or.inl ⟨2, by decide +kernel, rfl, rfl⟩
theorem dS_abateByClass_30 : Dn mS_abateByClass 30 .laload 1 31 := ⟨by decide +kernel, rfl⟩
theorem dS_abateByClass_31 : Dn mS_abateByClass 31 .lsub 1 32 := ⟨by decide +kernel, rfl⟩
theorem dS_abateByClass_32 : LkS mS_abateByClass 32 35 mJ_max := ⟨61, by decide +kernel, rfl, Or.inl (tb3 77 rfl), tb3 78 rfl⟩
theorem dS_abateByClass_35 : Dv mS_abateByClass 35 .lstore_n .lstore 3 36 := Or.inl ⟨3, by decide +kernel, rfl, rfl⟩
theorem dS_abateByClass_36 : Dv mS_abateByClass 36 .aload_n .aload 0 37 := Or.inl ⟨0, by decide +kernel, rfl, rfl⟩
theorem dS_abateByClass_37 : Df mS_abateByClass 37 .getfield 5 5 40 := ⟨18, ("EstateDesk$Settling", eT5, 7), by decide +kernel, rfl, rfl, by decide, rfl, Or.inl (tb1 215 rfl)⟩
theorem dS_abateByClass_40 : Dk mS_abateByClass 40 5 41 := Or.inl ⟨5, by decide +kernel, rfl, rfl⟩
theorem dS_abateByClass_41 : Dn mS_abateByClass 41 .laload 1 42 := ⟨by decide +kernel, rfl⟩
theorem dS_abateByClass_42 : Dv mS_abateByClass 42 .lload_n .lload 3 43 := Or.inl ⟨3, by decide +kernel, rfl, rfl⟩
theorem dS_abateByClass_43 : LkS mS_abateByClass 43 46 mJ_min := ⟨185, by decide +kernel, rfl, Or.inl (tb3 109 rfl), tb3 59 rfl⟩
theorem dS_abateByClass_46 : Dv mS_abateByClass 46 .lstore_n .lstore 5 48 := Or.inr ⟨by decide +kernel, rfl⟩
theorem dS_abateByClass_48 : Dv mS_abateByClass 48 .aload_n .aload 0 49 := Or.inl ⟨0, by decide +kernel, rfl, rfl⟩
theorem dS_abateByClass_49 : Dv mS_abateByClass 49 .aload_n .aload 0 50 := Or.inl ⟨0, by decide +kernel, rfl, rfl⟩
theorem dS_abateByClass_50 : Df mS_abateByClass 50 .getfield 5 2 53 := ⟨30, ("EstateDesk$Settling", eT5, 7), by decide +kernel, rfl, rfl, by decide, rfl, Or.inl (tb1 212 rfl)⟩
theorem dS_abateByClass_53 : Df mS_abateByClass 53 .getfield 3 9 56 := ⟨162, ("EstateDesk$Clauses", eT3, 13), by decide +kernel, rfl, rfl, by decide, rfl, Or.inr ⟨"EstateDesk", tb1 128 rfl⟩⟩
theorem dS_abateByClass_56 : Dv mS_abateByClass 56 .aload_n .aload 0 57 := Or.inl ⟨0, by decide +kernel, rfl, rfl⟩
theorem dS_abateByClass_57 : Df mS_abateByClass 57 .getfield 5 5 60 := ⟨18, ("EstateDesk$Settling", eT5, 7), by decide +kernel, rfl, rfl, by decide, rfl, Or.inl (tb1 215 rfl)⟩
theorem dS_abateByClass_60 : Dk mS_abateByClass 60 4 61 := Or.inl ⟨4, by decide +kernel, rfl, rfl⟩
theorem dS_abateByClass_61 : Dn mS_abateByClass 61 .laload 1 62 := ⟨by decide +kernel, rfl⟩
theorem dS_abateByClass_62 : Dv mS_abateByClass 62 .aload_n .aload 0 63 := Or.inl ⟨0, by decide +kernel, rfl, rfl⟩
theorem dS_abateByClass_63 : Df mS_abateByClass 63 .getfield 5 5 66 := ⟨18, ("EstateDesk$Settling", eT5, 7), by decide +kernel, rfl, rfl, by decide, rfl, Or.inl (tb1 215 rfl)⟩
theorem dS_abateByClass_66 : Dk mS_abateByClass 66 4 67 := Or.inl ⟨4, by decide +kernel, rfl, rfl⟩
theorem dS_abateByClass_67 : Dn mS_abateByClass 67 .laload 1 68 := ⟨by decide +kernel, rfl⟩
theorem dS_abateByClass_68 : Dv mS_abateByClass 68 .lload_n .lload 1 69 := Or.inl ⟨1, by decide +kernel, rfl, rfl⟩
theorem dS_abateByClass_69 : LkS mS_abateByClass 69 72 mJ_min := ⟨185, by decide +kernel, rfl, Or.inl (tb3 109 rfl), tb3 59 rfl⟩
theorem dS_abateByClass_72 : Dn mS_abateByClass 72 .lsub 1 73 := ⟨by decide +kernel, rfl⟩
theorem dS_abateByClass_73 : LkV mS_abateByClass 73 76 mS_bear := ⟨188, by decide +kernel, rfl, Or.inl (tb3 110 rfl), tb3 112 rfl, ts 16 rfl⟩
theorem dS_abateByClass_76 : Dv mS_abateByClass 76 .aload_n .aload 0 77 := Or.inl ⟨0, by decide +kernel, rfl, rfl⟩
theorem dS_abateByClass_77 : Dv mS_abateByClass 77 .aload_n .aload 0 78 := Or.inl ⟨0, by decide +kernel, rfl, rfl⟩
theorem dS_abateByClass_78 : Df mS_abateByClass 78 .getfield 5 2 81 := ⟨30, ("EstateDesk$Settling", eT5, 7), by decide +kernel, rfl, rfl, by decide, rfl, Or.inl (tb1 212 rfl)⟩
theorem dS_abateByClass_81 : Df mS_abateByClass 81 .getfield 3 8 84 := ⟨159, ("EstateDesk$Clauses", eT3, 13), by decide +kernel, rfl, rfl, by decide, rfl, Or.inr ⟨"EstateDesk", tb1 125 rfl⟩⟩
theorem dS_abateByClass_84 : Dv mS_abateByClass 84 .lload_n .lload 5 86 := Or.inr ⟨by decide +kernel, rfl⟩
theorem dS_abateByClass_86 : LkV mS_abateByClass 86 89 mS_bear := ⟨188, by decide +kernel, rfl, Or.inl (tb3 110 rfl), tb3 112 rfl, ts 16 rfl⟩
theorem dS_abateByClass_89 : Dv mS_abateByClass 89 .aload_n .aload 0 90 := Or.inl ⟨0, by decide +kernel, rfl, rfl⟩
theorem dS_abateByClass_90 : Dv mS_abateByClass 90 .aload_n .aload 0 91 := Or.inl ⟨0, by decide +kernel, rfl, rfl⟩
theorem dS_abateByClass_91 : Df mS_abateByClass 91 .getfield 5 2 94 := ⟨30, ("EstateDesk$Settling", eT5, 7), by decide +kernel, rfl, rfl, by decide, rfl, Or.inl (tb1 212 rfl)⟩
theorem dS_abateByClass_94 : Df mS_abateByClass 94 .getfield 3 7 97 := ⟨150, ("EstateDesk$Clauses", eT3, 13), by decide +kernel, rfl, rfl, by decide, rfl, Or.inr ⟨"EstateDesk", tb1 123 rfl⟩⟩
theorem dS_abateByClass_97 : Dv mS_abateByClass 97 .lload_n .lload 3 98 := Or.inl ⟨3, by decide +kernel, rfl, rfl⟩
theorem dS_abateByClass_98 : Dv mS_abateByClass 98 .lload_n .lload 5 100 := Or.inr ⟨by decide +kernel, rfl⟩
theorem dS_abateByClass_100 : Dn mS_abateByClass 100 .lsub 1 101 := ⟨by decide +kernel, rfl⟩
theorem dS_abateByClass_101 : LkV mS_abateByClass 101 104 mS_bear := ⟨188, by decide +kernel, rfl, Or.inl (tb3 110 rfl), tb3 112 rfl, ts 16 rfl⟩
theorem dS_abateByClass_104 : Dk mS_abateByClass 104 1 105 := Or.inl ⟨1, by decide +kernel, rfl, rfl⟩
theorem dS_abateByClass_105 : Dv mS_abateByClass 105 .istore_n .istore 7 107 := Or.inr ⟨by decide +kernel, rfl⟩
theorem dS_abateByClass_107 : Dv mS_abateByClass 107 .iload_n .iload 7 109 := Or.inr ⟨by decide +kernel, rfl⟩
theorem dS_abateByClass_109 : Dk mS_abateByClass 109 40 111 := Or.inr (Or.inl ⟨40, by decide +kernel, by decide +kernel, rfl⟩)
theorem dS_abateByClass_111 : Dj mS_abateByClass 111 (.if_icmp .gt) 114 146 := ⟨35, by decide +kernel, rfl, rfl⟩
theorem dS_abateByClass_114 : Dv mS_abateByClass 114 .aload_n .aload 0 115 := Or.inl ⟨0, by decide +kernel, rfl, rfl⟩
theorem dS_abateByClass_115 : Df mS_abateByClass 115 .getfield 5 2 118 := ⟨30, ("EstateDesk$Settling", eT5, 7), by decide +kernel, rfl, rfl, by decide, rfl, Or.inl (tb1 212 rfl)⟩
theorem dS_abateByClass_118 : Df mS_abateByClass 118 .getfield 3 11 121 := ⟨178, ("EstateDesk$Clauses", eT3, 13), by decide +kernel, rfl, rfl, by decide, rfl, Or.inr ⟨"EstateDesk", tb1 132 rfl⟩⟩
theorem dS_abateByClass_121 : Dv mS_abateByClass 121 .iload_n .iload 7 123 := Or.inr ⟨by decide +kernel, rfl⟩
theorem dS_abateByClass_123 : Dn mS_abateByClass 123 .laload 1 124 := ⟨by decide +kernel, rfl⟩
theorem dS_abateByClass_124 : Dl mS_abateByClass 124 0 125 := Or.inl ⟨0, by decide +kernel, rfl, rfl⟩
theorem dS_abateByClass_125 : Dn mS_abateByClass 125 .lcmp 1 126 := ⟨by decide +kernel, rfl⟩
theorem dS_abateByClass_126 : Dj mS_abateByClass 126 (.ifCond .le) 129 140 := ⟨14, by decide +kernel, rfl, rfl⟩
theorem dS_abateByClass_129 : Dv mS_abateByClass 129 .aload_n .aload 0 130 := Or.inl ⟨0, by decide +kernel, rfl, rfl⟩
theorem dS_abateByClass_130 : Df mS_abateByClass 130 .getfield 5 2 133 := ⟨30, ("EstateDesk$Settling", eT5, 7), by decide +kernel, rfl, rfl, by decide, rfl, Or.inl (tb1 212 rfl)⟩
theorem dS_abateByClass_133 : Df mS_abateByClass 133 .getfield 3 5 136 := ⟨112, ("EstateDesk$Clauses", eT3, 13), by decide +kernel, rfl, rfl, by decide, rfl, Or.inr ⟨"EstateDesk", tb1 117 rfl⟩⟩
theorem dS_abateByClass_136 : Dv mS_abateByClass 136 .iload_n .iload 7 138 := Or.inr ⟨by decide +kernel, rfl⟩
theorem dS_abateByClass_138 : Dk mS_abateByClass 138 3 139 := Or.inl ⟨3, by decide +kernel, rfl, rfl⟩
theorem dS_abateByClass_139 : Dn mS_abateByClass 139 .iastore 1 140 := ⟨by decide +kernel, rfl⟩
theorem dS_abateByClass_140 : Dn mS_abateByClass 140 (.iinc 7 1) 3 143 := ⟨by decide +kernel, rfl⟩
theorem dS_abateByClass_143 : Dj mS_abateByClass 143 .goto 146 107 := ⟨-36, by decide +kernel, rfl, rfl⟩
theorem dS_abateByClass_146 : Dn mS_abateByClass 146 .return_ 1 147 := ⟨by decide +kernel, rfl⟩
theorem dS_bear_0 : Dv mS_bear 0 .aload_n .aload 0 1 := Or.inl ⟨0, by decide +kernel, rfl, rfl⟩
theorem dS_bear_1 : Df mS_bear 1 .getfield 5 4 4 := ⟨12, ("EstateDesk$Settling", eT5, 7), by decide +kernel, rfl, rfl, by decide, rfl, Or.inl (tb1 214 rfl)⟩
theorem dS_bear_4 : Dv mS_bear 4 .aload_n .aload 1 5 := Or.inl ⟨1, by decide +kernel, rfl, rfl⟩
theorem dS_bear_5 : Dv mS_bear 5 .lload_n .lload 2 6 := Or.inl ⟨2, by decide +kernel, rfl, rfl⟩
theorem dS_bear_6 : LkV mS_bear 6 9 mT_among := ⟨171, by decide +kernel, rfl, Or.inl (tb3 84 rfl), tb3 85 rfl, tb3 86 rfl⟩
theorem dS_bear_9 : Dk mS_bear 9 1 10 := Or.inl ⟨1, by decide +kernel, rfl, rfl⟩
theorem dS_bear_10 : Dv mS_bear 10 .istore_n .istore 4 12 := Or.inr ⟨by decide +kernel, rfl⟩
theorem dS_bear_12 : Dv mS_bear 12 .iload_n .iload 4 14 := Or.inr ⟨by decide +kernel, rfl⟩
theorem dS_bear_14 : Dk mS_bear 14 40 16 := Or.inr (Or.inl ⟨40, by decide +kernel, by decide +kernel, rfl⟩)
theorem dS_bear_16 : Dj mS_bear 16 (.if_icmp .gt) 19 48 := ⟨32, by decide +kernel, rfl, rfl⟩
theorem dS_bear_19 : Dv mS_bear 19 .aload_n .aload 0 20 := Or.inl ⟨0, by decide +kernel, rfl, rfl⟩
theorem dS_bear_20 : Df mS_bear 20 .getfield 5 2 23 := ⟨30, ("EstateDesk$Settling", eT5, 7), by decide +kernel, rfl, rfl, by decide, rfl, Or.inl (tb1 212 rfl)⟩
theorem dS_bear_23 : Df mS_bear 23 .getfield 3 11 26 := ⟨178, ("EstateDesk$Clauses", eT3, 13), by decide +kernel, rfl, rfl, by decide, rfl, Or.inr ⟨"EstateDesk", tb1 132 rfl⟩⟩
theorem dS_bear_26 : Dv mS_bear 26 .iload_n .iload 4 28 := Or.inr ⟨by decide +kernel, rfl⟩
theorem dS_bear_28 : Dn mS_bear 28 .dup2 1 29 := ⟨by decide +kernel, rfl⟩
theorem dS_bear_29 : Dn mS_bear 29 .laload 1 30 := ⟨by decide +kernel, rfl⟩
theorem dS_bear_30 : Dv mS_bear 30 .aload_n .aload 0 31 := Or.inl ⟨0, by decide +kernel, rfl, rfl⟩
theorem dS_bear_31 : Df mS_bear 31 .getfield 5 4 34 := ⟨12, ("EstateDesk$Settling", eT5, 7), by decide +kernel, rfl, rfl, by decide, rfl, Or.inl (tb1 214 rfl)⟩
theorem dS_bear_34 : Df mS_bear 34 .getfield 6 0 37 := ⟨175, ("EstateDesk$Split", eT6, 2), by decide +kernel, rfl, rfl, by decide, rfl, Or.inr ⟨"EstateDesk", tb1 203 rfl⟩⟩
theorem dS_bear_37 : Dv mS_bear 37 .iload_n .iload 4 39 := Or.inr ⟨by decide +kernel, rfl⟩
theorem dS_bear_39 : Dn mS_bear 39 .laload 1 40 := ⟨by decide +kernel, rfl⟩
theorem dS_bear_40 : Dn mS_bear 40 .ladd 1 41 := ⟨by decide +kernel, rfl⟩
theorem dS_bear_41 : Dn mS_bear 41 .lastore 1 42 := ⟨by decide +kernel, rfl⟩
theorem dS_bear_42 : Dn mS_bear 42 (.iinc 4 1) 3 45 := ⟨by decide +kernel, rfl⟩
theorem dS_bear_45 : Dj mS_bear 45 .goto 48 12 := ⟨-33, by decide +kernel, rfl, rfl⟩
theorem dS_bear_48 : Dn mS_bear 48 .return_ 1 49 := ⟨by decide +kernel, rfl⟩
theorem dS_shareResidue_0 : Dv mS_shareResidue 0 .aload_n .aload 0 1 := Or.inl ⟨0, by decide +kernel, rfl, rfl⟩
theorem dS_shareResidue_1 : Df mS_shareResidue 1 .getfield 5 4 4 := ⟨12, ("EstateDesk$Settling", eT5, 7), by decide +kernel, rfl, rfl, by decide, rfl, Or.inl (tb1 214 rfl)⟩
theorem dS_shareResidue_4 : Dv mS_shareResidue 4 .aload_n .aload 0 5 := Or.inl ⟨0, by decide +kernel, rfl, rfl⟩
theorem dS_shareResidue_5 : Df mS_shareResidue 5 .getfield 5 2 8 := ⟨30, ("EstateDesk$Settling", eT5, 7), by decide +kernel, rfl, rfl, by decide, rfl, Or.inl (tb1 212 rfl)⟩
theorem dS_shareResidue_8 : Df mS_shareResidue 8 .getfield 3 10 11 := ⟨156, ("EstateDesk$Clauses", eT3, 13), by decide +kernel, rfl, rfl, by decide, rfl, Or.inr ⟨"EstateDesk", tb1 130 rfl⟩⟩
theorem dS_shareResidue_11 : Dv mS_shareResidue 11 .aload_n .aload 0 12 := Or.inl ⟨0, by decide +kernel, rfl, rfl⟩
theorem dS_shareResidue_12 : Df mS_shareResidue 12 .getfield 5 5 15 := ⟨18, ("EstateDesk$Settling", eT5, 7), by decide +kernel, rfl, rfl, by decide, rfl, Or.inl (tb1 215 rfl)⟩
theorem dS_shareResidue_15 : Dk mS_shareResidue 15 7 17 := Or.inr (Or.inl ⟨7, by decide +kernel, by decide +kernel, rfl⟩)
theorem dS_shareResidue_17 : Dn mS_shareResidue 17 .laload 1 18 := ⟨by decide +kernel, rfl⟩
theorem dS_shareResidue_18 : LkV mS_shareResidue 18 21 mT_among := ⟨171, by decide +kernel, rfl, Or.inl (tb3 84 rfl), tb3 85 rfl, tb3 86 rfl⟩
theorem dS_shareResidue_21 : Dk mS_shareResidue 21 1 22 := Or.inl ⟨1, by decide +kernel, rfl, rfl⟩
theorem dS_shareResidue_22 : Dv mS_shareResidue 22 .istore_n .istore 1 23 := Or.inl ⟨1, by decide +kernel, rfl, rfl⟩
theorem dS_shareResidue_23 : Dv mS_shareResidue 23 .iload_n .iload 1 24 := Or.inl ⟨1, by decide +kernel, rfl, rfl⟩
theorem dS_shareResidue_24 : Dk mS_shareResidue 24 40 26 := Or.inr (Or.inl ⟨40, by decide +kernel, by decide +kernel, rfl⟩)
theorem dS_shareResidue_26 : Dj mS_shareResidue 26 (.if_icmp .gt) 29 53 := ⟨27, by decide +kernel, rfl, rfl⟩
theorem dS_shareResidue_29 : Dv mS_shareResidue 29 .aload_n .aload 0 30 := Or.inl ⟨0, by decide +kernel, rfl, rfl⟩
theorem dS_shareResidue_30 : Df mS_shareResidue 30 .getfield 5 2 33 := ⟨30, ("EstateDesk$Settling", eT5, 7), by decide +kernel, rfl, rfl, by decide, rfl, Or.inl (tb1 212 rfl)⟩
theorem dS_shareResidue_33 : Df mS_shareResidue 33 .getfield 3 12 36 := ⟨191, ("EstateDesk$Clauses", eT3, 13), by decide +kernel, rfl, rfl, by decide, rfl, Or.inr ⟨"EstateDesk", tb1 135 rfl⟩⟩
theorem dS_shareResidue_36 : Dv mS_shareResidue 36 .iload_n .iload 1 37 := Or.inl ⟨1, by decide +kernel, rfl, rfl⟩
theorem dS_shareResidue_37 : Dv mS_shareResidue 37 .aload_n .aload 0 38 := Or.inl ⟨0, by decide +kernel, rfl, rfl⟩
theorem dS_shareResidue_38 : Df mS_shareResidue 38 .getfield 5 4 41 := ⟨12, ("EstateDesk$Settling", eT5, 7), by decide +kernel, rfl, rfl, by decide, rfl, Or.inl (tb1 214 rfl)⟩
theorem dS_shareResidue_41 : Df mS_shareResidue 41 .getfield 6 0 44 := ⟨175, ("EstateDesk$Split", eT6, 2), by decide +kernel, rfl, rfl, by decide, rfl, Or.inr ⟨"EstateDesk", tb1 203 rfl⟩⟩
theorem dS_shareResidue_44 : Dv mS_shareResidue 44 .iload_n .iload 1 45 := Or.inl ⟨1, by decide +kernel, rfl, rfl⟩
theorem dS_shareResidue_45 : Dn mS_shareResidue 45 .laload 1 46 := ⟨by decide +kernel, rfl⟩
theorem dS_shareResidue_46 : Dn mS_shareResidue 46 .lastore 1 47 := ⟨by decide +kernel, rfl⟩
theorem dS_shareResidue_47 : Dn mS_shareResidue 47 (.iinc 1 1) 3 50 := ⟨by decide +kernel, rfl⟩
theorem dS_shareResidue_50 : Dj mS_shareResidue 50 .goto 53 23 := ⟨-27, by decide +kernel, rfl, rfl⟩
theorem dS_shareResidue_53 : Dv mS_shareResidue 53 .aload_n .aload 0 54 := Or.inl ⟨0, by decide +kernel, rfl, rfl⟩
theorem dS_shareResidue_54 : Df mS_shareResidue 54 .getfield 5 2 57 := ⟨30, ("EstateDesk$Settling", eT5, 7), by decide +kernel, rfl, rfl, by decide, rfl, Or.inl (tb1 212 rfl)⟩
theorem dS_shareResidue_57 : Df mS_shareResidue 57 .getfield 3 10 60 := ⟨156, ("EstateDesk$Clauses", eT3, 13), by decide +kernel, rfl, rfl, by decide, rfl, Or.inr ⟨"EstateDesk", tb1 130 rfl⟩⟩
theorem dS_shareResidue_60 : LkS mS_shareResidue 60 63 mD_total := ⟨89, by decide +kernel, rfl, Or.inr ⟨"EstateDesk", tb3 74 rfl⟩, tb3 75 rfl⟩
theorem dS_shareResidue_63 : Dl mS_shareResidue 63 0 64 := Or.inl ⟨0, by decide +kernel, rfl, rfl⟩
theorem dS_shareResidue_64 : Dn mS_shareResidue 64 .lcmp 1 65 := ⟨by decide +kernel, rfl⟩
theorem dS_shareResidue_65 : Dj mS_shareResidue 65 (.ifCond .ne) 68 84 := ⟨19, by decide +kernel, rfl, rfl⟩
theorem dS_shareResidue_68 : Dv mS_shareResidue 68 .aload_n .aload 0 69 := Or.inl ⟨0, by decide +kernel, rfl, rfl⟩
theorem dS_shareResidue_69 : Df mS_shareResidue 69 .getfield 5 0 72 := ⟨22, ("EstateDesk$Settling", eT5, 7), by decide +kernel, rfl, rfl, by decide, rfl, Or.inl (tb1 210 rfl)⟩
theorem dS_shareResidue_72 : Df mS_shareResidue 72 .getfield 1 3 75 := ⟨194, ("EstateDesk$Persons", eT1, 5), by decide +kernel, rfl, rfl, by decide, rfl, Or.inr ⟨"EstateDesk", tb1 38 rfl⟩⟩
theorem dS_shareResidue_75 : Dk mS_shareResidue 75 0 76 := Or.inl ⟨0, by decide +kernel, rfl, rfl⟩
theorem dS_shareResidue_76 : Dv mS_shareResidue 76 .aload_n .aload 0 77 := Or.inl ⟨0, by decide +kernel, rfl, rfl⟩
theorem dS_shareResidue_77 : Df mS_shareResidue 77 .getfield 5 5 80 := ⟨18, ("EstateDesk$Settling", eT5, 7), by decide +kernel, rfl, rfl, by decide, rfl, Or.inl (tb1 215 rfl)⟩
theorem dS_shareResidue_80 : Dk mS_shareResidue 80 7 82 := Or.inr (Or.inl ⟨7, by decide +kernel, by decide +kernel, rfl⟩)
theorem dS_shareResidue_82 : Dn mS_shareResidue 82 .laload 1 83 := ⟨by decide +kernel, rfl⟩
theorem dS_shareResidue_83 : Dn mS_shareResidue 83 .lastore 1 84 := ⟨by decide +kernel, rfl⟩
theorem dS_shareResidue_84 : Dn mS_shareResidue 84 .return_ 1 85 := ⟨by decide +kernel, rfl⟩
theorem dS_handOut_0 : Dk mS_handOut 0 1 1 := Or.inl ⟨1, by decide +kernel, rfl, rfl⟩
theorem dS_handOut_1 : Dv mS_handOut 1 .istore_n .istore 1 2 := Or.inl ⟨1, by decide +kernel, rfl, rfl⟩
theorem dS_handOut_2 : Dv mS_handOut 2 .iload_n .iload 1 3 := Or.inl ⟨1, by decide +kernel, rfl, rfl⟩
theorem dS_handOut_3 : Dk mS_handOut 3 40 5 := Or.inr (Or.inl ⟨40, by decide +kernel, by decide +kernel, rfl⟩)
theorem dS_handOut_5 : Dj mS_handOut 5 (.if_icmp .gt) 8 180 := ⟨175, by decide +kernel, rfl, rfl⟩
theorem dS_handOut_8 : Dv mS_handOut 8 .aload_n .aload 0 9 := Or.inl ⟨0, by decide +kernel, rfl, rfl⟩
theorem dS_handOut_9 : Df mS_handOut 9 .getfield 5 2 12 := ⟨30, ("EstateDesk$Settling", eT5, 7), by decide +kernel, rfl, rfl, by decide, rfl, Or.inl (tb1 212 rfl)⟩
theorem dS_handOut_12 : Df mS_handOut 12 .getfield 3 6 15 := ⟨119, ("EstateDesk$Clauses", eT3, 13), by decide +kernel, rfl, rfl, by decide, rfl, Or.inr ⟨"EstateDesk", tb1 120 rfl⟩⟩
theorem dS_handOut_15 : Dv mS_handOut 15 .iload_n .iload 1 16 := Or.inl ⟨1, by decide +kernel, rfl, rfl⟩
theorem dS_handOut_16 : Dn mS_handOut 16 .iaload 1 17 := ⟨by decide +kernel, rfl⟩
theorem dS_handOut_17 : Dv mS_handOut 17 .istore_n .istore 2 18 := Or.inl ⟨2, by decide +kernel, rfl, rfl⟩
theorem dS_handOut_18 : Dv mS_handOut 18 .aload_n .aload 0 19 := Or.inl ⟨0, by decide +kernel, rfl, rfl⟩
theorem dS_handOut_19 : Df mS_handOut 19 .getfield 5 2 22 := ⟨30, ("EstateDesk$Settling", eT5, 7), by decide +kernel, rfl, rfl, by decide, rfl, Or.inl (tb1 212 rfl)⟩
theorem dS_handOut_22 : Df mS_handOut 22 .getfield 3 2 25 := ⟨109, ("EstateDesk$Clauses", eT3, 13), by decide +kernel, rfl, rfl, by decide, rfl, Or.inr ⟨"EstateDesk", tb1 109 rfl⟩⟩
theorem dS_handOut_25 : Dv mS_handOut 25 .iload_n .iload 1 26 := Or.inl ⟨1, by decide +kernel, rfl, rfl⟩
theorem dS_handOut_26 : Dn mS_handOut 26 .iaload 1 27 := ⟨by decide +kernel, rfl⟩
theorem dS_handOut_27 : Dv mS_handOut 27 .istore_n .istore 3 28 := Or.inl ⟨3, by decide +kernel, rfl, rfl⟩
theorem dS_handOut_28 : Dv mS_handOut 28 .iload_n .iload 2 29 := Or.inl ⟨2, by decide +kernel, rfl, rfl⟩
theorem dS_handOut_29 : Dj mS_handOut 29 (.ifCond .ne) 32 35 := ⟨6, by decide +kernel, rfl, rfl⟩
theorem dS_handOut_32 : Dj mS_handOut 32 .goto 35 174 := ⟨142, by decide +kernel, rfl, rfl⟩
theorem dS_handOut_35 : Dv mS_handOut 35 .aload_n .aload 0 36 := Or.inl ⟨0, by decide +kernel, rfl, rfl⟩
theorem dS_handOut_36 : Df mS_handOut 36 .getfield 5 2 39 := ⟨30, ("EstateDesk$Settling", eT5, 7), by decide +kernel, rfl, rfl, by decide, rfl, Or.inl (tb1 212 rfl)⟩
theorem dS_handOut_39 : Df mS_handOut 39 .getfield 3 0 42 := ⟨93, ("EstateDesk$Clauses", eT3, 13), by decide +kernel, rfl, rfl, by decide, rfl, Or.inr ⟨"EstateDesk", tb1 104 rfl⟩⟩
theorem dS_handOut_42 : Dv mS_handOut 42 .iload_n .iload 1 43 := Or.inl ⟨1, by decide +kernel, rfl, rfl⟩
theorem dS_handOut_43 : Dn mS_handOut 43 .iaload 1 44 := ⟨by decide +kernel, rfl⟩
theorem dS_handOut_44 : Dk mS_handOut 44 1 45 := Or.inl ⟨1, by decide +kernel, rfl, rfl⟩
theorem dS_handOut_45 : Dj mS_handOut 45 (.if_icmp .ne) 48 123 := ⟨78, by decide +kernel, rfl, rfl⟩
theorem dS_handOut_48 : Dv mS_handOut 48 .aload_n .aload 0 49 := Or.inl ⟨0, by decide +kernel, rfl, rfl⟩
theorem dS_handOut_49 : Df mS_handOut 49 .getfield 5 1 52 := ⟨26, ("EstateDesk$Settling", eT5, 7), by decide +kernel, rfl, rfl, by decide, rfl, Or.inl (tb1 211 rfl)⟩
theorem dS_handOut_52 : Df mS_handOut 52 .getfield 2 6 55 := ⟨195, ("EstateDesk$Assets", eT2, 7), by decide +kernel, rfl, rfl, by decide, rfl, Or.inr ⟨"EstateDesk", tb1 77 rfl⟩⟩
theorem dS_handOut_55 : Dv mS_handOut 55 .iload_n .iload 3 56 := Or.inl ⟨3, by decide +kernel, rfl, rfl⟩
theorem dS_handOut_56 : Dv mS_handOut 56 .iload_n .iload 2 57 := Or.inl ⟨2, by decide +kernel, rfl, rfl⟩
theorem dS_handOut_57 : Dn mS_handOut 57 .iastore 1 58 := ⟨by decide +kernel, rfl⟩
theorem dS_handOut_58 : Dv mS_handOut 58 .aload_n .aload 0 59 := Or.inl ⟨0, by decide +kernel, rfl, rfl⟩
theorem dS_handOut_59 : Df mS_handOut 59 .getfield 5 0 62 := ⟨22, ("EstateDesk$Settling", eT5, 7), by decide +kernel, rfl, rfl, by decide, rfl, Or.inl (tb1 210 rfl)⟩
theorem dS_handOut_62 : Df mS_handOut 62 .getfield 1 2 65 := ⟨198, ("EstateDesk$Persons", eT1, 5), by decide +kernel, rfl, rfl, by decide, rfl, Or.inr ⟨"EstateDesk", tb1 35 rfl⟩⟩
theorem dS_handOut_65 : Dv mS_handOut 65 .iload_n .iload 2 66 := Or.inl ⟨2, by decide +kernel, rfl, rfl⟩
theorem dS_handOut_66 : Dn mS_handOut 66 .dup2 1 67 := ⟨by decide +kernel, rfl⟩
theorem dS_handOut_67 : Dn mS_handOut 67 .laload 1 68 := ⟨by decide +kernel, rfl⟩
theorem dS_handOut_68 : Dv mS_handOut 68 .aload_n .aload 0 69 := Or.inl ⟨0, by decide +kernel, rfl, rfl⟩
theorem dS_handOut_69 : Df mS_handOut 69 .getfield 5 1 72 := ⟨26, ("EstateDesk$Settling", eT5, 7), by decide +kernel, rfl, rfl, by decide, rfl, Or.inl (tb1 211 rfl)⟩
theorem dS_handOut_72 : Df mS_handOut 72 .getfield 2 1 75 := ⟨168, ("EstateDesk$Assets", eT2, 7), by decide +kernel, rfl, rfl, by decide, rfl, Or.inr ⟨"EstateDesk", tb1 66 rfl⟩⟩
theorem dS_handOut_75 : Dv mS_handOut 75 .iload_n .iload 3 76 := Or.inl ⟨3, by decide +kernel, rfl, rfl⟩
theorem dS_handOut_76 : Dn mS_handOut 76 .laload 1 77 := ⟨by decide +kernel, rfl⟩
theorem dS_handOut_77 : Dn mS_handOut 77 .ladd 1 78 := ⟨by decide +kernel, rfl⟩
theorem dS_handOut_78 : Dn mS_handOut 78 .lastore 1 79 := ⟨by decide +kernel, rfl⟩
theorem dS_handOut_79 : Dv mS_handOut 79 .aload_n .aload 0 80 := Or.inl ⟨0, by decide +kernel, rfl, rfl⟩
theorem dS_handOut_80 : Df mS_handOut 80 .getfield 5 0 83 := ⟨22, ("EstateDesk$Settling", eT5, 7), by decide +kernel, rfl, rfl, by decide, rfl, Or.inl (tb1 210 rfl)⟩
theorem dS_handOut_83 : Df mS_handOut 83 .getfield 1 4 86 := ⟨201, ("EstateDesk$Persons", eT1, 5), by decide +kernel, rfl, rfl, by decide, rfl, Or.inr ⟨"EstateDesk", tb1 41 rfl⟩⟩
theorem dS_handOut_86 : Dv mS_handOut 86 .iload_n .iload 2 87 := Or.inl ⟨2, by decide +kernel, rfl, rfl⟩
theorem dS_handOut_87 : Dn mS_handOut 87 .dup2 1 88 := ⟨by decide +kernel, rfl⟩
theorem dS_handOut_88 : Dn mS_handOut 88 .laload 1 89 := ⟨by decide +kernel, rfl⟩
theorem dS_handOut_89 : Dv mS_handOut 89 .aload_n .aload 0 90 := Or.inl ⟨0, by decide +kernel, rfl, rfl⟩
theorem dS_handOut_90 : Df mS_handOut 90 .getfield 5 1 93 := ⟨26, ("EstateDesk$Settling", eT5, 7), by decide +kernel, rfl, rfl, by decide, rfl, Or.inl (tb1 211 rfl)⟩
theorem dS_handOut_93 : Df mS_handOut 93 .getfield 2 1 96 := ⟨168, ("EstateDesk$Assets", eT2, 7), by decide +kernel, rfl, rfl, by decide, rfl, Or.inr ⟨"EstateDesk", tb1 66 rfl⟩⟩
theorem dS_handOut_96 : Dv mS_handOut 96 .iload_n .iload 3 97 := Or.inl ⟨3, by decide +kernel, rfl, rfl⟩
theorem dS_handOut_97 : Dn mS_handOut 97 .laload 1 98 := ⟨by decide +kernel, rfl⟩
theorem dS_handOut_98 : Dv mS_handOut 98 .aload_n .aload 0 99 := Or.inl ⟨0, by decide +kernel, rfl, rfl⟩
theorem dS_handOut_99 : Df mS_handOut 99 .getfield 5 2 102 := ⟨30, ("EstateDesk$Settling", eT5, 7), by decide +kernel, rfl, rfl, by decide, rfl, Or.inl (tb1 212 rfl)⟩
theorem dS_handOut_102 : Df mS_handOut 102 .getfield 3 7 105 := ⟨150, ("EstateDesk$Clauses", eT3, 13), by decide +kernel, rfl, rfl, by decide, rfl, Or.inr ⟨"EstateDesk", tb1 123 rfl⟩⟩
theorem dS_handOut_105 : Dv mS_handOut 105 .iload_n .iload 1 106 := Or.inl ⟨1, by decide +kernel, rfl, rfl⟩
theorem dS_handOut_106 : Dn mS_handOut 106 .laload 1 107 := ⟨by decide +kernel, rfl⟩
theorem dS_handOut_107 : Dn mS_handOut 107 .lsub 1 108 := ⟨by decide +kernel, rfl⟩
theorem dS_handOut_108 : Dv mS_handOut 108 .aload_n .aload 0 109 := Or.inl ⟨0, by decide +kernel, rfl, rfl⟩
theorem dS_handOut_109 : Df mS_handOut 109 .getfield 5 2 112 := ⟨30, ("EstateDesk$Settling", eT5, 7), by decide +kernel, rfl, rfl, by decide, rfl, Or.inl (tb1 212 rfl)⟩
theorem dS_handOut_112 : Df mS_handOut 112 .getfield 3 11 115 := ⟨178, ("EstateDesk$Clauses", eT3, 13), by decide +kernel, rfl, rfl, by decide, rfl, Or.inr ⟨"EstateDesk", tb1 132 rfl⟩⟩
theorem dS_handOut_115 : Dv mS_handOut 115 .iload_n .iload 1 116 := Or.inl ⟨1, by decide +kernel, rfl, rfl⟩
theorem dS_handOut_116 : Dn mS_handOut 116 .laload 1 117 := ⟨by decide +kernel, rfl⟩
theorem dS_handOut_117 : Dn mS_handOut 117 .ladd 1 118 := ⟨by decide +kernel, rfl⟩
theorem dS_handOut_118 : Dn mS_handOut 118 .ladd 1 119 := ⟨by decide +kernel, rfl⟩
theorem dS_handOut_119 : Dn mS_handOut 119 .lastore 1 120 := ⟨by decide +kernel, rfl⟩
theorem dS_handOut_120 : Dj mS_handOut 120 .goto 123 174 := ⟨54, by decide +kernel, rfl, rfl⟩
theorem dS_handOut_123 : Dv mS_handOut 123 .aload_n .aload 0 124 := Or.inl ⟨0, by decide +kernel, rfl, rfl⟩
theorem dS_handOut_124 : Df mS_handOut 124 .getfield 5 2 127 := ⟨30, ("EstateDesk$Settling", eT5, 7), by decide +kernel, rfl, rfl, by decide, rfl, Or.inl (tb1 212 rfl)⟩
theorem dS_handOut_127 : Df mS_handOut 127 .getfield 3 12 130 := ⟨191, ("EstateDesk$Clauses", eT3, 13), by decide +kernel, rfl, rfl, by decide, rfl, Or.inr ⟨"EstateDesk", tb1 135 rfl⟩⟩
theorem dS_handOut_130 : Dv mS_handOut 130 .iload_n .iload 1 131 := Or.inl ⟨1, by decide +kernel, rfl, rfl⟩
theorem dS_handOut_131 : Dn mS_handOut 131 .dup2 1 132 := ⟨by decide +kernel, rfl⟩
theorem dS_handOut_132 : Dn mS_handOut 132 .laload 1 133 := ⟨by decide +kernel, rfl⟩
theorem dS_handOut_133 : Dv mS_handOut 133 .aload_n .aload 0 134 := Or.inl ⟨0, by decide +kernel, rfl, rfl⟩
theorem dS_handOut_134 : Df mS_handOut 134 .getfield 5 2 137 := ⟨30, ("EstateDesk$Settling", eT5, 7), by decide +kernel, rfl, rfl, by decide, rfl, Or.inl (tb1 212 rfl)⟩
theorem dS_handOut_137 : Dv mS_handOut 137 .iload_n .iload 1 138 := Or.inl ⟨1, by decide +kernel, rfl, rfl⟩
theorem dS_handOut_138 : LkV mS_handOut 138 141 mC_worthInAll := ⟨181, by decide +kernel, rfl, Or.inl (tb3 101 rfl), tb3 102 rfl, tb3 103 rfl⟩
theorem dS_handOut_141 : Dv mS_handOut 141 .aload_n .aload 0 142 := Or.inl ⟨0, by decide +kernel, rfl, rfl⟩
theorem dS_handOut_142 : Df mS_handOut 142 .getfield 5 2 145 := ⟨30, ("EstateDesk$Settling", eT5, 7), by decide +kernel, rfl, rfl, by decide, rfl, Or.inl (tb1 212 rfl)⟩
theorem dS_handOut_145 : Df mS_handOut 145 .getfield 3 11 148 := ⟨178, ("EstateDesk$Clauses", eT3, 13), by decide +kernel, rfl, rfl, by decide, rfl, Or.inr ⟨"EstateDesk", tb1 132 rfl⟩⟩
theorem dS_handOut_148 : Dv mS_handOut 148 .iload_n .iload 1 149 := Or.inl ⟨1, by decide +kernel, rfl, rfl⟩
theorem dS_handOut_149 : Dn mS_handOut 149 .laload 1 150 := ⟨by decide +kernel, rfl⟩
theorem dS_handOut_150 : Dn mS_handOut 150 .lsub 1 151 := ⟨by decide +kernel, rfl⟩
theorem dS_handOut_151 : Dn mS_handOut 151 .ladd 1 152 := ⟨by decide +kernel, rfl⟩
theorem dS_handOut_152 : Dn mS_handOut 152 .lastore 1 153 := ⟨by decide +kernel, rfl⟩
theorem dS_handOut_153 : Dv mS_handOut 153 .aload_n .aload 0 154 := Or.inl ⟨0, by decide +kernel, rfl, rfl⟩
theorem dS_handOut_154 : Df mS_handOut 154 .getfield 5 0 157 := ⟨22, ("EstateDesk$Settling", eT5, 7), by decide +kernel, rfl, rfl, by decide, rfl, Or.inl (tb1 210 rfl)⟩
theorem dS_handOut_157 : Df mS_handOut 157 .getfield 1 3 160 := ⟨194, ("EstateDesk$Persons", eT1, 5), by decide +kernel, rfl, rfl, by decide, rfl, Or.inr ⟨"EstateDesk", tb1 38 rfl⟩⟩
theorem dS_handOut_160 : Dv mS_handOut 160 .iload_n .iload 2 161 := Or.inl ⟨2, by decide +kernel, rfl, rfl⟩
theorem dS_handOut_161 : Dn mS_handOut 161 .dup2 1 162 := ⟨by decide +kernel, rfl⟩
theorem dS_handOut_162 : Dn mS_handOut 162 .laload 1 163 := ⟨by decide +kernel, rfl⟩
theorem dS_handOut_163 : Dv mS_handOut 163 .aload_n .aload 0 164 := Or.inl ⟨0, by decide +kernel, rfl, rfl⟩
theorem dS_handOut_164 : Df mS_handOut 164 .getfield 5 2 167 := ⟨30, ("EstateDesk$Settling", eT5, 7), by decide +kernel, rfl, rfl, by decide, rfl, Or.inl (tb1 212 rfl)⟩
theorem dS_handOut_167 : Df mS_handOut 167 .getfield 3 12 170 := ⟨191, ("EstateDesk$Clauses", eT3, 13), by decide +kernel, rfl, rfl, by decide, rfl, Or.inr ⟨"EstateDesk", tb1 135 rfl⟩⟩
theorem dS_handOut_170 : Dv mS_handOut 170 .iload_n .iload 1 171 := Or.inl ⟨1, by decide +kernel, rfl, rfl⟩
theorem dS_handOut_171 : Dn mS_handOut 171 .laload 1 172 := ⟨by decide +kernel, rfl⟩
theorem dS_handOut_172 : Dn mS_handOut 172 .ladd 1 173 := ⟨by decide +kernel, rfl⟩
theorem dS_handOut_173 : Dn mS_handOut 173 .lastore 1 174 := ⟨by decide +kernel, rfl⟩
theorem dS_handOut_174 : Dn mS_handOut 174 (.iinc 1 1) 3 177 := ⟨by decide +kernel, rfl⟩
theorem dS_handOut_177 : Dj mS_handOut 177 .goto 180 2 := ⟨-175, by decide +kernel, rfl, rfl⟩
theorem dS_handOut_180 : Dn mS_handOut 180 .return_ 1 181 := ⟨by decide +kernel, rfl⟩
end
section
theorem dT_init_0 : Dv mT_init 0 .aload_n .aload 0 1 := Or.inl ⟨0, by decide +kernel, rfl, rfl⟩
theorem dT_init_1 : Dn mT_init 1 (.invokespecial 3) 3 4 := ⟨by decide +kernel, rfl⟩
theorem dT_init_4 : Dv mT_init 4 .aload_n .aload 0 5 := Or.inl ⟨0, by decide +kernel, rfl, rfl⟩
theorem dT_init_5 : Dk mT_init 5 41 7 := Or.inr (Or.inl ⟨41, by decide +kernel, by decide +kernel, rfl⟩)
theorem dT_init_7 : Dn mT_init 7 (.newarray .long) 2 9 := ⟨by decide +kernel, rfl⟩
theorem dT_init_9 : Dfp mT_init 9 6 0 12 := ⟨9, ("EstateDesk$Split", eT6, 2), by decide +kernel, rfl, rfl, by decide, rfl, tb1 202 rfl⟩
theorem dT_init_12 : Dv mT_init 12 .aload_n .aload 0 13 := Or.inl ⟨0, by decide +kernel, rfl, rfl⟩
theorem dT_init_13 : Dk mT_init 13 41 15 := Or.inr (Or.inl ⟨41, by decide +kernel, by decide +kernel, rfl⟩)
theorem dT_init_15 : Dn mT_init 15 (.newarray .long) 2 17 := ⟨by decide +kernel, rfl⟩
theorem dT_init_17 : Dfp mT_init 17 6 1 20 := ⟨15, ("EstateDesk$Split", eT6, 2), by decide +kernel, rfl, rfl, by decide, rfl, tb1 204 rfl⟩
theorem dT_init_20 : Dn mT_init 20 .return_ 1 21 := ⟨by decide +kernel, rfl⟩
theorem dT_among_0 : Dv mT_among 0 .aload_n .aload 1 1 := Or.inl ⟨1, by decide +kernel, rfl, rfl⟩
theorem dT_among_1 : LkS mT_among 1 4 mD_total := ⟨18, by decide +kernel, rfl, Or.inr ⟨"EstateDesk", tb3 88 rfl⟩, tb3 75 rfl⟩
theorem dT_among_4 : Dv mT_among 4 .lstore_n .lstore 4 6 := Or.inr ⟨by decide +kernel, rfl⟩
theorem dT_among_6 : Dv mT_among 6 .lload_n .lload 4 8 := Or.inr ⟨by decide +kernel, rfl⟩
theorem dT_among_8 : Dl mT_among 8 0 9 := Or.inl ⟨0, by decide +kernel, rfl, rfl⟩
theorem dT_among_9 : Dn mT_among 9 .lcmp 1 10 := ⟨by decide +kernel, rfl⟩
theorem dT_among_10 : Dj mT_among 10 (.ifCond .le) 13 19 := ⟨9, by decide +kernel, rfl, rfl⟩
theorem dT_among_13 : Dv mT_among 13 .lload_n .lload 2 14 := Or.inl ⟨2, by decide +kernel, rfl, rfl⟩
theorem dT_among_14 : Dl mT_among 14 0 15 := Or.inl ⟨0, by decide +kernel, rfl, rfl⟩
theorem dT_among_15 : Dn mT_among 15 .lcmp 1 16 := ⟨by decide +kernel, rfl⟩
theorem dT_among_16 : Dj mT_among 16 (.ifCond .gt) 19 28 := ⟨12, by decide +kernel, rfl, rfl⟩
theorem dT_among_19 : Dv mT_among 19 .aload_n .aload 0 20 := Or.inl ⟨0, by decide +kernel, rfl, rfl⟩
theorem dT_among_20 : Df mT_among 20 .getfield 6 0 23 := ⟨9, ("EstateDesk$Split", eT6, 2), by decide +kernel, rfl, rfl, by decide, rfl, Or.inl (tb1 202 rfl)⟩
theorem dT_among_23 : Dl mT_among 23 0 24 := Or.inl ⟨0, by decide +kernel, rfl, rfl⟩
theorem dT_among_24 : LkS mT_among 24 27 mJ_fillL := ⟨22, by decide +kernel, rfl, Or.inl (tb3 89 rfl), tb3 15 rfl⟩
theorem dT_among_27 : Dn mT_among 27 .return_ 1 28 := ⟨by decide +kernel, rfl⟩
theorem dT_among_28 : Dv mT_among 28 .lload_n .lload 2 29 := Or.inl ⟨2, by decide +kernel, rfl, rfl⟩
theorem dT_among_29 : Dv mT_among 29 .lstore_n .lstore 6 31 := Or.inr ⟨by decide +kernel, rfl⟩
theorem dT_among_31 : Dk mT_among 31 1 32 := Or.inl ⟨1, by decide +kernel, rfl, rfl⟩
theorem dT_among_32 : Dv mT_among 32 .istore_n .istore 8 34 := Or.inr ⟨by decide +kernel, rfl⟩
theorem dT_among_34 : Dv mT_among 34 .iload_n .iload 8 36 := Or.inr ⟨by decide +kernel, rfl⟩
theorem dT_among_36 : Dk mT_among 36 40 38 := Or.inr (Or.inl ⟨40, by decide +kernel, by decide +kernel, rfl⟩)
theorem dT_among_38 : Dj mT_among 38 (.if_icmp .gt) 41 72 := ⟨34, by decide +kernel, rfl, rfl⟩
theorem dT_among_41 : Dv mT_among 41 .aload_n .aload 0 42 := Or.inl ⟨0, by decide +kernel, rfl, rfl⟩
theorem dT_among_42 : Dv mT_among 42 .iload_n .iload 8 44 := Or.inr ⟨by decide +kernel, rfl⟩
theorem dT_among_44 : Dv mT_among 44 .lload_n .lload 2 45 := Or.inl ⟨2, by decide +kernel, rfl, rfl⟩
theorem dT_among_45 : Dv mT_among 45 .aload_n .aload 1 46 := Or.inl ⟨1, by decide +kernel, rfl, rfl⟩
theorem dT_among_46 : Dv mT_among 46 .iload_n .iload 8 48 := Or.inr ⟨by decide +kernel, rfl⟩
theorem dT_among_48 : Dn mT_among 48 .laload 1 49 := ⟨by decide +kernel, rfl⟩
theorem dT_among_49 : Dv mT_among 49 .lload_n .lload 4 51 := Or.inr ⟨by decide +kernel, rfl⟩
theorem dT_among_51 : LkV mT_among 51 54 mT_cut := ⟨28, by decide +kernel, rfl, Or.inl (tb3 90 rfl), tb3 92 rfl, ts 13 rfl⟩
theorem dT_among_54 : Dv mT_among 54 .lload_n .lload 6 56 := Or.inr ⟨by decide +kernel, rfl⟩
theorem dT_among_56 : Dv mT_among 56 .aload_n .aload 0 57 := Or.inl ⟨0, by decide +kernel, rfl, rfl⟩
theorem dT_among_57 : Df mT_among 57 .getfield 6 0 60 := ⟨9, ("EstateDesk$Split", eT6, 2), by decide +kernel, rfl, rfl, by decide, rfl, Or.inl (tb1 202 rfl)⟩
theorem dT_among_60 : Dv mT_among 60 .iload_n .iload 8 62 := Or.inr ⟨by decide +kernel, rfl⟩
theorem dT_among_62 : Dn mT_among 62 .laload 1 63 := ⟨by decide +kernel, rfl⟩
theorem dT_among_63 : Dn mT_among 63 .lsub 1 64 := ⟨by decide +kernel, rfl⟩
theorem dT_among_64 : Dv mT_among 64 .lstore_n .lstore 6 66 := Or.inr ⟨by decide +kernel, rfl⟩
theorem dT_among_66 : Dn mT_among 66 (.iinc 8 1) 3 69 := ⟨by decide +kernel, rfl⟩
theorem dT_among_69 : Dj mT_among 69 .goto 72 34 := ⟨-35, by decide +kernel, rfl, rfl⟩
theorem dT_among_72 : Dk mT_among 72 0 73 := Or.inl ⟨0, by decide +kernel, rfl, rfl⟩
theorem dT_among_73 : Dv mT_among 73 .istore_n .istore 8 75 := Or.inr ⟨by decide +kernel, rfl⟩
theorem dT_among_75 : Dv mT_among 75 .iload_n .iload 8 77 := Or.inr ⟨by decide +kernel, rfl⟩
theorem dT_among_77 : Dn mT_among 77 .i2l 1 78 := ⟨by decide +kernel, rfl⟩
theorem dT_among_78 : Dv mT_among 78 .lload_n .lload 6 80 := Or.inr ⟨by decide +kernel, rfl⟩
theorem dT_among_80 : Dn mT_among 80 .lcmp 1 81 := ⟨by decide +kernel, rfl⟩
theorem dT_among_81 : Dj mT_among 81 (.ifCond .ge) 84 124 := ⟨43, by decide +kernel, rfl, rfl⟩
theorem dT_among_84 : Dv mT_among 84 .iload_n .iload 8 86 := Or.inr ⟨by decide +kernel, rfl⟩
theorem dT_among_86 : Dk mT_among 86 40 88 := Or.inr (Or.inl ⟨40, by decide +kernel, by decide +kernel, rfl⟩)
theorem dT_among_88 : Dj mT_among 88 (.if_icmp .ge) 91 124 := ⟨36, by decide +kernel, rfl, rfl⟩
theorem dT_among_91 : Dv mT_among 91 .aload_n .aload 0 92 := Or.inl ⟨0, by decide +kernel, rfl, rfl⟩
theorem dT_among_92 : LkV mT_among 92 95 mT_greatestRest := ⟨32, by decide +kernel, rfl, Or.inl (tb3 96 rfl), tb3 98 rfl, ts 14 rfl⟩
theorem dT_among_95 : Dv mT_among 95 .istore_n .istore 9 97 := Or.inr ⟨by decide +kernel, rfl⟩
theorem dT_among_97 : Dv mT_among 97 .aload_n .aload 0 98 := Or.inl ⟨0, by decide +kernel, rfl, rfl⟩
theorem dT_among_98 : Df mT_among 98 .getfield 6 0 101 := ⟨9, ("EstateDesk$Split", eT6, 2), by decide +kernel, rfl, rfl, by decide, rfl, Or.inl (tb1 202 rfl)⟩
theorem dT_among_101 : Dv mT_among 101 .iload_n .iload 9 103 := Or.inr ⟨by decide +kernel, rfl⟩
theorem dT_among_103 : Dn mT_among 103 .dup2 1 104 := ⟨by decide +kernel, rfl⟩
theorem dT_among_104 : Dn mT_among 104 .laload 1 105 := ⟨by decide +kernel, rfl⟩
theorem dT_among_105 : Dl mT_among 105 1 106 := Or.inl ⟨1, by decide +kernel, rfl, rfl⟩
theorem dT_among_106 : Dn mT_among 106 .ladd 1 107 := ⟨by decide +kernel, rfl⟩
theorem dT_among_107 : Dn mT_among 107 .lastore 1 108 := ⟨by decide +kernel, rfl⟩
theorem dT_among_108 : Dv mT_among 108 .aload_n .aload 0 109 := Or.inl ⟨0, by decide +kernel, rfl, rfl⟩
theorem dT_among_109 : Df mT_among 109 .getfield 6 1 112 := ⟨15, ("EstateDesk$Split", eT6, 2), by decide +kernel, rfl, rfl, by decide, rfl, Or.inl (tb1 204 rfl)⟩
theorem dT_among_112 : Dv mT_among 112 .iload_n .iload 9 114 := Or.inr ⟨by decide +kernel, rfl⟩
theorem dT_among_114 : Dl mT_among 114 (-1) 117 := Or.inr ⟨36, by decide +kernel, tb3 100 rfl, rfl⟩
theorem dT_among_117 : Dn mT_among 117 .lastore 1 118 := ⟨by decide +kernel, rfl⟩
theorem dT_among_118 : Dn mT_among 118 (.iinc 8 1) 3 121 := ⟨by decide +kernel, rfl⟩
theorem dT_among_121 : Dj mT_among 121 .goto 124 75 := ⟨-46, by decide +kernel, rfl, rfl⟩
theorem dT_among_124 : Dn mT_among 124 .return_ 1 125 := ⟨by decide +kernel, rfl⟩
theorem dT_cut_0 : Dv mT_cut 0 .lload_n .lload 2 1 := Or.inl ⟨2, by decide +kernel, rfl, rfl⟩
theorem dT_cut_1 : Dv mT_cut 1 .lload_n .lload 6 3 := Or.inr ⟨by decide +kernel, rfl⟩
theorem dT_cut_3 : Dn mT_cut 3 .lrem 1 4 := ⟨by decide +kernel, rfl⟩
theorem dT_cut_4 : Dv mT_cut 4 .lstore_n .lstore 8 6 := Or.inr ⟨by decide +kernel, rfl⟩
theorem dT_cut_6 : Dl mT_cut 6 0 7 := Or.inl ⟨0, by decide +kernel, rfl, rfl⟩
theorem dT_cut_7 : Dv mT_cut 7 .lstore_n .lstore 10 9 := Or.inr ⟨by decide +kernel, rfl⟩
theorem dT_cut_9 : Dl mT_cut 9 0 10 := Or.inl ⟨0, by decide +kernel, rfl, rfl⟩
theorem dT_cut_10 : Dv mT_cut 10 .lstore_n .lstore 12 12 := Or.inr ⟨by decide +kernel, rfl⟩
theorem dT_cut_12 : Dl mT_cut 12 1000000000000 15 := Or.inr ⟨38, by decide +kernel, tb3 94 rfl, rfl⟩
theorem dT_cut_15 : Dv mT_cut 15 .lstore_n .lstore 14 17 := Or.inr ⟨by decide +kernel, rfl⟩
theorem dT_cut_17 : Dv mT_cut 17 .lload_n .lload 14 19 := Or.inr ⟨by decide +kernel, rfl⟩
theorem dT_cut_19 : Dl mT_cut 19 0 20 := Or.inl ⟨0, by decide +kernel, rfl, rfl⟩
theorem dT_cut_20 : Dn mT_cut 20 .lcmp 1 21 := ⟨by decide +kernel, rfl⟩
theorem dT_cut_21 : Dj mT_cut 21 (.ifCond .le) 24 77 := ⟨56, by decide +kernel, rfl, rfl⟩
theorem dT_cut_24 : Dv mT_cut 24 .lload_n .lload 12 26 := Or.inr ⟨by decide +kernel, rfl⟩
theorem dT_cut_26 : Dl mT_cut 26 1000 29 := Or.inr ⟨40, by decide +kernel, tb3 95 rfl, rfl⟩
theorem dT_cut_29 : Dn mT_cut 29 .lmul 1 30 := ⟨by decide +kernel, rfl⟩
theorem dT_cut_30 : Dv mT_cut 30 .lload_n .lload 8 32 := Or.inr ⟨by decide +kernel, rfl⟩
theorem dT_cut_32 : Dv mT_cut 32 .lload_n .lload 4 34 := Or.inr ⟨by decide +kernel, rfl⟩
theorem dT_cut_34 : Dv mT_cut 34 .lload_n .lload 14 36 := Or.inr ⟨by decide +kernel, rfl⟩
theorem dT_cut_36 : Dn mT_cut 36 .ldiv 1 37 := ⟨by decide +kernel, rfl⟩
theorem dT_cut_37 : Dl mT_cut 37 1000 40 := Or.inr ⟨40, by decide +kernel, tb3 95 rfl, rfl⟩
theorem dT_cut_40 : Dn mT_cut 40 .lrem 1 41 := ⟨by decide +kernel, rfl⟩
theorem dT_cut_41 : Dn mT_cut 41 .lmul 1 42 := ⟨by decide +kernel, rfl⟩
theorem dT_cut_42 : Dn mT_cut 42 .ladd 1 43 := ⟨by decide +kernel, rfl⟩
theorem dT_cut_43 : Dv mT_cut 43 .lstore_n .lstore 12 45 := Or.inr ⟨by decide +kernel, rfl⟩
theorem dT_cut_45 : Dv mT_cut 45 .lload_n .lload 10 47 := Or.inr ⟨by decide +kernel, rfl⟩
theorem dT_cut_47 : Dl mT_cut 47 1000 50 := Or.inr ⟨40, by decide +kernel, tb3 95 rfl, rfl⟩
theorem dT_cut_50 : Dn mT_cut 50 .lmul 1 51 := ⟨by decide +kernel, rfl⟩
theorem dT_cut_51 : Dv mT_cut 51 .lload_n .lload 12 53 := Or.inr ⟨by decide +kernel, rfl⟩
theorem dT_cut_53 : Dv mT_cut 53 .lload_n .lload 6 55 := Or.inr ⟨by decide +kernel, rfl⟩
theorem dT_cut_55 : Dn mT_cut 55 .ldiv 1 56 := ⟨by decide +kernel, rfl⟩
theorem dT_cut_56 : Dn mT_cut 56 .ladd 1 57 := ⟨by decide +kernel, rfl⟩
theorem dT_cut_57 : Dv mT_cut 57 .lstore_n .lstore 10 59 := Or.inr ⟨by decide +kernel, rfl⟩
theorem dT_cut_59 : Dv mT_cut 59 .lload_n .lload 12 61 := Or.inr ⟨by decide +kernel, rfl⟩
theorem dT_cut_61 : Dv mT_cut 61 .lload_n .lload 6 63 := Or.inr ⟨by decide +kernel, rfl⟩
theorem dT_cut_63 : Dn mT_cut 63 .lrem 1 64 := ⟨by decide +kernel, rfl⟩
theorem dT_cut_64 : Dv mT_cut 64 .lstore_n .lstore 12 66 := Or.inr ⟨by decide +kernel, rfl⟩
theorem dT_cut_66 : Dv mT_cut 66 .lload_n .lload 14 68 := Or.inr ⟨by decide +kernel, rfl⟩
theorem dT_cut_68 : Dl mT_cut 68 1000 71 := Or.inr ⟨40, by decide +kernel, tb3 95 rfl, rfl⟩
theorem dT_cut_71 : Dn mT_cut 71 .ldiv 1 72 := ⟨by decide +kernel, rfl⟩
theorem dT_cut_72 : Dv mT_cut 72 .lstore_n .lstore 14 74 := Or.inr ⟨by decide +kernel, rfl⟩
theorem dT_cut_74 : Dj mT_cut 74 .goto 77 17 := ⟨-57, by decide +kernel, rfl, rfl⟩
theorem dT_cut_77 : Dv mT_cut 77 .aload_n .aload 0 78 := Or.inl ⟨0, by decide +kernel, rfl, rfl⟩
theorem dT_cut_78 : Df mT_cut 78 .getfield 6 0 81 := ⟨9, ("EstateDesk$Split", eT6, 2), by decide +kernel, rfl, rfl, by decide, rfl, Or.inl (tb1 202 rfl)⟩
theorem dT_cut_81 : Dv mT_cut 81 .iload_n .iload 1 82 := Or.inl ⟨1, by decide +kernel, rfl, rfl⟩
theorem dT_cut_82 : Dv mT_cut 82 .lload_n .lload 2 83 := Or.inl ⟨2, by decide +kernel, rfl, rfl⟩
theorem dT_cut_83 : Dv mT_cut 83 .lload_n .lload 6 85 := Or.inr ⟨by decide +kernel, rfl⟩
theorem dT_cut_85 : Dn mT_cut 85 .ldiv 1 86 := ⟨by decide +kernel, rfl⟩
theorem dT_cut_86 : Dv mT_cut 86 .lload_n .lload 4 88 := Or.inr ⟨by decide +kernel, rfl⟩
theorem dT_cut_88 : Dn mT_cut 88 .lmul 1 89 := ⟨by decide +kernel, rfl⟩
theorem dT_cut_89 : Dv mT_cut 89 .lload_n .lload 10 91 := Or.inr ⟨by decide +kernel, rfl⟩
theorem dT_cut_91 : Dn mT_cut 91 .ladd 1 92 := ⟨by decide +kernel, rfl⟩
theorem dT_cut_92 : Dn mT_cut 92 .lastore 1 93 := ⟨by decide +kernel, rfl⟩
theorem dT_cut_93 : Dv mT_cut 93 .aload_n .aload 0 94 := Or.inl ⟨0, by decide +kernel, rfl, rfl⟩
theorem dT_cut_94 : Df mT_cut 94 .getfield 6 1 97 := ⟨15, ("EstateDesk$Split", eT6, 2), by decide +kernel, rfl, rfl, by decide, rfl, Or.inl (tb1 204 rfl)⟩
theorem dT_cut_97 : Dv mT_cut 97 .iload_n .iload 1 98 := Or.inl ⟨1, by decide +kernel, rfl, rfl⟩
theorem dT_cut_98 : Dv mT_cut 98 .lload_n .lload 12 100 := Or.inr ⟨by decide +kernel, rfl⟩
theorem dT_cut_100 : Dn mT_cut 100 .lastore 1 101 := ⟨by decide +kernel, rfl⟩
theorem dT_cut_101 : Dn mT_cut 101 .return_ 1 102 := ⟨by decide +kernel, rfl⟩
theorem dT_greatestRest_0 : Dk mT_greatestRest 0 1 1 := Or.inl ⟨1, by decide +kernel, rfl, rfl⟩
theorem dT_greatestRest_1 : Dv mT_greatestRest 1 .istore_n .istore 1 2 := Or.inl ⟨1, by decide +kernel, rfl, rfl⟩
theorem dT_greatestRest_2 : Dk mT_greatestRest 2 2 3 := Or.inl ⟨2, by decide +kernel, rfl, rfl⟩
theorem dT_greatestRest_3 : Dv mT_greatestRest 3 .istore_n .istore 2 4 := Or.inl ⟨2, by decide +kernel, rfl, rfl⟩
theorem dT_greatestRest_4 : Dv mT_greatestRest 4 .iload_n .iload 2 5 := Or.inl ⟨2, by decide +kernel, rfl, rfl⟩
theorem dT_greatestRest_5 : Dk mT_greatestRest 5 40 7 := Or.inr (Or.inl ⟨40, by decide +kernel, by decide +kernel, rfl⟩)
theorem dT_greatestRest_7 : Dj mT_greatestRest 7 (.if_icmp .gt) 10 34 := ⟨27, by decide +kernel, rfl, rfl⟩
theorem dT_greatestRest_10 : Dv mT_greatestRest 10 .aload_n .aload 0 11 := Or.inl ⟨0, by decide +kernel, rfl, rfl⟩
theorem dT_greatestRest_11 : Df mT_greatestRest 11 .getfield 6 1 14 := ⟨15, ("EstateDesk$Split", eT6, 2), by decide +kernel, rfl, rfl, by decide, rfl, Or.inl (tb1 204 rfl)⟩
theorem dT_greatestRest_14 : Dv mT_greatestRest 14 .iload_n .iload 2 15 := Or.inl ⟨2, by decide +kernel, rfl, rfl⟩
theorem dT_greatestRest_15 : Dn mT_greatestRest 15 .laload 1 16 := ⟨by decide +kernel, rfl⟩
theorem dT_greatestRest_16 : Dv mT_greatestRest 16 .aload_n .aload 0 17 := Or.inl ⟨0, by decide +kernel, rfl, rfl⟩
theorem dT_greatestRest_17 : Df mT_greatestRest 17 .getfield 6 1 20 := ⟨15, ("EstateDesk$Split", eT6, 2), by decide +kernel, rfl, rfl, by decide, rfl, Or.inl (tb1 204 rfl)⟩
theorem dT_greatestRest_20 : Dv mT_greatestRest 20 .iload_n .iload 1 21 := Or.inl ⟨1, by decide +kernel, rfl, rfl⟩
theorem dT_greatestRest_21 : Dn mT_greatestRest 21 .laload 1 22 := ⟨by decide +kernel, rfl⟩
theorem dT_greatestRest_22 : Dn mT_greatestRest 22 .lcmp 1 23 := ⟨by decide +kernel, rfl⟩
theorem dT_greatestRest_23 : Dj mT_greatestRest 23 (.ifCond .le) 26 28 := ⟨5, by decide +kernel, rfl, rfl⟩
theorem dT_greatestRest_26 : Dv mT_greatestRest 26 .iload_n .iload 2 27 := Or.inl ⟨2, by decide +kernel, rfl, rfl⟩
theorem dT_greatestRest_27 : Dv mT_greatestRest 27 .istore_n .istore 1 28 := Or.inl ⟨1, by decide +kernel, rfl, rfl⟩
theorem dT_greatestRest_28 : Dn mT_greatestRest 28 (.iinc 2 1) 3 31 := ⟨by decide +kernel, rfl⟩
theorem dT_greatestRest_31 : Dj mT_greatestRest 31 .goto 34 4 := ⟨-27, by decide +kernel, rfl, rfl⟩
theorem dT_greatestRest_34 : Dv mT_greatestRest 34 .iload_n .iload 1 35 := Or.inl ⟨1, by decide +kernel, rfl, rfl⟩
theorem dT_greatestRest_35 : Dn mT_greatestRest 35 .ireturn 1 36 := ⟨by decide +kernel, rfl⟩
end
section
/-! the world that the law makes: EstateDesk.persons 1; Persons.diedOn 2; Persons.getsAssets 3; Persons.getsCents 4; Persons.owes 5; EstateDesk.assets 6; Assets.known 7; Assets.value 8; Assets.fund 9; Assets.gone 10; Assets.left 11; Assets.givenBy 12; Assets.holder 13; EstateDesk.clauses 14; Clauses.kind 15; Clauses.amount 16; Clauses.asset 17; Clauses.debtsStay 18; Clauses.named 19; Clauses.state 61; Clauses.goesTo 62; Clauses.given 63; Clauses.drawn 64; Clauses.general 65; Clauses.residueParts 66; Clauses.bears 67; Clauses.getsCents 68; EstateDesk.debts 69; Debts.cents 70; Debts.asset 71; Debts.ordinary 72; Debts.paidOff 73; EstateDesk.settling 74; Settling.split 75; Split.share 76; Split.rest 77; Settling.sums 78; M 79; EstateDeskModel.died 80; EstateDeskModel.isAsset 81; EstateDeskModel.worths 82; EstateDeskModel.isFund 83; EstateDeskModel.isGone 84; EstateDeskModel.kinds 85; EstateDeskModel.assetOf 86; EstateDeskModel.cents 87; EstateDeskModel.number 88; EstateDeskModel.stays 89; EstateDeskModel.ranks 90; EstateDeskModel.isDebt 91; EstateDeskModel.owed 92; EstateDeskModel.chargedOn 93; EstateDeskModel.states 94; EstateDeskModel.takers 95; EstateDeskModel.general 96; EstateDeskModel.drawn 97; EstateDeskModel.values 98; EstateDeskModel.bears 99; EstateDeskModel.shares 100; EstateDeskModel.ownDebt 101; EstateDeskModel.ordinary 102; EstateDeskModel.paid 103; EstateDeskModel.assetGot 104; EstateDeskModel.centsGot 105; EstateDeskModel.owes 106; EstateDeskModel.gotBy 107; EstateDeskModel.sums 108; EstateDeskModel.weights 109; EstateDeskModel.parts 110; EstateDeskModel.rests 111; out 112 -/
def ed_lay : List ed_c := [.inl (0, [.inl (some 1), .inl (some 6), .inl (some 14), .inl (some 69), .inl (some 74), .inr false, .inr false, .inr false]),
  .inl (1, [.inr false, .inl (some 2), .inl (some 3), .inl (some 4), .inl (some 5)]),
  .inr (0, 41, 0),
  .inr (2, 41, 0),
  .inr (2, 41, 0),
  .inr (2, 41, 0),
  .inl (2, [.inl (some 7), .inl (some 8), .inl (some 9), .inl (some 10), .inl (some 11), .inl (some 12), .inl (some 13)]),
  .inr (1, 41, 0),
  .inr (2, 41, 0),
  .inr (1, 41, 0),
  .inr (1, 41, 0),
  .inr (2, 41, 0),
  .inr (0, 41, 0),
  .inr (0, 41, 0),
  .inl (3, [.inl (some 15), .inl (some 16), .inl (some 17), .inl (some 18), .inl (some 19), .inl (some 61), .inl (some 62), .inl (some 63), .inl (some 64), .inl (some 65), .inl (some 66), .inl (some 67), .inl (some 68)]),
  .inr (0, 41, 0),
  .inr (2, 41, 0),
  .inr (0, 41, 0),
  .inr (1, 41, 0),
  .inr (3, 41, 20),
  .inr (0, 5, 0),
  .inr (0, 5, 0),
  .inr (0, 5, 0),
  .inr (0, 5, 0),
  .inr (0, 5, 0),
  .inr (0, 5, 0),
  .inr (0, 5, 0),
  .inr (0, 5, 0),
  .inr (0, 5, 0),
  .inr (0, 5, 0),
  .inr (0, 5, 0),
  .inr (0, 5, 0),
  .inr (0, 5, 0),
  .inr (0, 5, 0),
  .inr (0, 5, 0),
  .inr (0, 5, 0),
  .inr (0, 5, 0),
  .inr (0, 5, 0),
  .inr (0, 5, 0),
  .inr (0, 5, 0),
  .inr (0, 5, 0),
  .inr (0, 5, 0),
  .inr (0, 5, 0),
  .inr (0, 5, 0),
  .inr (0, 5, 0),
  .inr (0, 5, 0),
  .inr (0, 5, 0),
  .inr (0, 5, 0),
  .inr (0, 5, 0),
  .inr (0, 5, 0),
  .inr (0, 5, 0),
  .inr (0, 5, 0),
  .inr (0, 5, 0),
  .inr (0, 5, 0),
  .inr (0, 5, 0),
  .inr (0, 5, 0),
  .inr (0, 5, 0),
  .inr (0, 5, 0),
  .inr (0, 5, 0),
  .inr (0, 5, 0),
  .inr (0, 5, 0),
  .inr (0, 41, 0),
  .inr (0, 41, 0),
  .inr (2, 41, 0),
  .inr (2, 41, 0),
  .inr (2, 41, 0),
  .inr (2, 41, 0),
  .inr (2, 41, 0),
  .inr (2, 41, 0),
  .inl (4, [.inl (some 70), .inl (some 71), .inl (some 72), .inl (some 73)]),
  .inr (2, 41, 0),
  .inr (0, 41, 0),
  .inr (2, 41, 0),
  .inr (2, 41, 0),
  .inl (5, [.inl (some 1), .inl (some 6), .inl (some 14), .inl (some 69), .inl (some 75), .inl (some 78), .inr true]),
  .inl (6, [.inl (some 76), .inl (some 77)]),
  .inr (2, 41, 0),
  .inr (2, 41, 0),
  .inr (2, 8, 0),
  .inl (7, [.inr false, .inr false, .inr false, .inr false, .inr false, .inl (some 80), .inl (some 81), .inl (some 82), .inl (some 83), .inl (some 84), .inl (some 85), .inl (some 86), .inl (some 87), .inl (some 88), .inl (some 89), .inl (some 90), .inl (some 91), .inl (some 92), .inl (some 93), .inl (some 94), .inl (some 95), .inl (some 96), .inl (some 97), .inl (some 98), .inl (some 99), .inl (some 100), .inl (some 101), .inl (some 102), .inl (some 103), .inl (some 104), .inl (some 105), .inl (some 106), .inl (some 107), .inl (some 108), .inl (some 109), .inl (some 110), .inl (some 111)]),
  .inr (0, 41, 0),
  .inr (1, 41, 0),
  .inr (2, 41, 0),
  .inr (1, 41, 0),
  .inr (1, 41, 0),
  .inr (0, 41, 0),
  .inr (0, 41, 0),
  .inr (2, 41, 0),
  .inr (0, 41, 0),
  .inr (1, 41, 0),
  .inr (0, 205, 0),
  .inr (1, 41, 0),
  .inr (2, 41, 0),
  .inr (0, 41, 0),
  .inr (0, 41, 0),
  .inr (0, 41, 0),
  .inr (2, 41, 0),
  .inr (2, 41, 0),
  .inr (2, 41, 0),
  .inr (2, 41, 0),
  .inr (2, 41, 0),
  .inr (2, 41, 0),
  .inr (2, 41, 0),
  .inr (2, 41, 0),
  .inr (2, 41, 0),
  .inr (2, 41, 0),
  .inr (2, 41, 0),
  .inr (0, 41, 0),
  .inr (2, 8, 0),
  .inr (2, 41, 0),
  .inr (2, 41, 0),
  .inr (2, 41, 0),
  .inr (2, 1, 0)]
abbrev Yw : ed_Y := (false, ed_lay)
abbrev IAE : String := "java/lang/IllegalArgumentException"
abbrev ISE : String := "java/lang/IllegalStateException"
theorem ed_pz0_5 {v : Int} (h : v = 0 ∨ v = 1) : ed_put 0 5 v := fun r hr => by cases hr; rcases h with rfl | rfl <;> exact ⟨.boolean, rfl, by decide +kernel, rfl, rfl⟩
theorem ed_pz0_6 {v : Int} (h : v = 0 ∨ v = 1) : ed_put 0 6 v := fun r hr => by cases hr; rcases h with rfl | rfl <;> exact ⟨.boolean, rfl, by decide +kernel, rfl, rfl⟩
theorem ed_pz0_7 {v : Int} (h : v = 0 ∨ v = 1) : ed_put 0 7 v := fun r hr => by cases hr; rcases h with rfl | rfl <;> exact ⟨.boolean, rfl, by decide +kernel, rfl, rfl⟩
theorem ed_pi1_0 (v : Int) : ed_put 1 0 v := fun r hr => by cases hr; exact ⟨.int, rfl, by decide +kernel, rfl, rfl⟩
theorem ed_pl5_6 : ed_putl 5 6 := fun r hr => by cases hr; exact ⟨rfl, by decide +kernel⟩
theorem ed_pi7_0 (v : Int) : ed_put 7 0 v := fun r hr => by cases hr; exact ⟨.int, rfl, by decide +kernel, rfl, rfl⟩
theorem ed_pi7_1 (v : Int) : ed_put 7 1 v := fun r hr => by cases hr; exact ⟨.int, rfl, by decide +kernel, rfl, rfl⟩
theorem ed_pz7_2 {v : Int} (h : v = 0 ∨ v = 1) : ed_put 7 2 v := fun r hr => by cases hr; rcases h with rfl | rfl <;> exact ⟨.boolean, rfl, by decide +kernel, rfl, rfl⟩
theorem ed_pz7_3 {v : Int} (h : v = 0 ∨ v = 1) : ed_put 7 3 v := fun r hr => by cases hr; rcases h with rfl | rfl <;> exact ⟨.boolean, rfl, by decide +kernel, rfl, rfl⟩
theorem ed_pz7_4 {v : Int} (h : v = 0 ∨ v = 1) : ed_put 7 4 v := fun r hr => by cases hr; rcases h with rfl | rfl <;> exact ⟨.boolean, rfl, by decide +kernel, rfl, rfl⟩
end
section
/-! constructors called, and new int[n][m] -/
section MAKE2
variable {g : ed_g} {x : ed_x} {post : ed_post} {mc ms nL cells slots : Nat} {Y : ed_Y} {I : ed_I} {L : ed_L} {pc n : Nat} {ls : List (Nat × Value)} {st : List Value} {y : ed_m} {rm : Room}
def LkI (y : ed_m) (pc n : Nat) (z : ed_m) : Prop := ∃ idx, decode y.2.1 pc = .ok (.invokespecial idx, 3) ∧ pc + 3 = n ∧ (Cond.methodLink y.1.cls idx z.1 ∈ lw_tbl ∨ ∃ host, Cond.methodLinkNest y.1.cls idx z.1 host ∈ lw_tbl) ∧ Cond.instanceMethod z.1 ∈ lw_tbl ∧ z.1.name = "<init>" ∧ ed_cw z = .code z.1 z.2.1 z.2.2.1 none
theorem r_callI (C : Cx g x y rm) {z : ed_m} {np d zc zs : Nat} (hz : Lz z np) (hk : LkI y pc n z) (k : Nat) (as rest : List Value) (hst : st = as.reverse ++ .ref k :: rest) (hnp : as.length = np) (hr : (rest.map fun v => v.category).sum ≤ 8)
    (hroom : d + 7 ≤ rm.frames ∧ 8 + (z.2.2.1 + 11) + (40 * d + 84) ≤ rm.locals ∧ cells + zc ≤ rm.cells ∧ slots + zs ≤ rm.slots) (hnL : y.2.2.1 = nL)
    (ct : ed_Ct g x.2.1 z d zc zs (.ref k :: as) Y I L (ed_K g x post mc ms nL (cells + zc) (slots + zs) pc n ls rest)) : Gd g x post mc ms nL cells slots Y I L pc ls st := by
  obtain ⟨idx, hdg, rfl, hlk, hinst, hnm, hcw⟩ := hk
  subst hst
  intro H locs la hH hl hv T hT X
  have hok := C.2.2.2.2.2.2.1
  have hcd := hok.1.use hz.1 hz.2.1 x.2.2.2.2.2.2.1
  rw [hcw] at hcd
  have hlen : ∀ sig, parseMethodDescriptor z.1.desc = some sig → (as.map (ed_cv g)).length = sig.parameters.length := by
    intro sig hsig
    have h2 := hz.2.2.2.2
    rw [hsig] at h2
    rw [List.length_map, hnp]
    exact (Option.some.inj h2).symm
  have hpl : x.2.2.1.platform.magicAccessors = ({} : Platform).magicAccessors := by rw [X.admits.platform]
  have hstk : (F0 x.2.2.2.2.2.1 pc la ((as.reverse ++ .ref k :: rest).map (ed_cv g))).stack = (as.map (ed_cv g)).reverse ++ .ref (g.1 + k) :: rest.map (ed_cv g) := by simp [F0, ed_cv]
  rcases hlk with hlk | ⟨host, hlk⟩
  · obtain ⟨mk, methM, cM, kP, vm₁, hnamed, -, -, -, -, -, -, -, hW₁, hstep₁⟩ := Steps.initColdArgs (e := x.2.2.1) X.here C.1 X.warmed hpl C.2.2.2.1 hnm hz.2.2.2.1 (hok.1.use hlk rfl _) (hok.1.use hinst rfl _) hcd (f := F0 x.2.2.2.2.2.1 pc la ((as.reverse ++ .ref k :: rest).map (ed_cv g))) rfl hlen hstk (by rw [C.2.1]; exact hdg)
    exact ed_call (av := .ref k :: as) C hz hdg hr hroom ct hH hl hv hnL hT (X.noted hW₁) hnamed hstep₁
  · obtain ⟨mk, methM, cM, kP, vm₁, hnamed, -, -, -, -, -, -, -, hW₁, hstep₁⟩ := Steps.initColdArgsNest (e := x.2.2.1) X.here C.1 X.warmed hpl C.2.2.2.1 hnm hz.2.2.2.1 (hok.1.use hlk rfl _) (hok.1.use hinst rfl _) hcd (f := F0 x.2.2.2.2.2.1 pc la ((as.reverse ++ .ref k :: rest).map (ed_cv g))) rfl hlen hstk (by rw [C.2.1]; exact hdg)
    exact ed_call (av := .ref k :: as) C hz hdg hr hroom ct hH hl hv hnL hT (X.noted hW₁) hnamed hstep₁
theorem ed_ws_app (g : ed_g) (b : Bool) (l l2 : List ed_c) (I : ed_I) (L : ed_L) : ed_ws g (b, l ++ l2) I L = ed_ws g (b, l) I L ++ l2.mapIdx (fun j c => (g.1 + (j + l.length), ed_rc g I L (j + l.length) c)) := by
  simp [ed_ws, List.mapIdx_append]
theorem ed_outer (c : ClassId) (N h0 : Nat) : ∀ i : Nat, Jvm.Free.Multi.outerC c N h0 i = arrV c N (fun j => va_rf (if j < i then some (h0 + 1 + j) else none))
  | 0 => by
    show ({ cls := c, slots := Array.replicate N .null, vm := .none } : Cell) = _
    rw [arrV_new]
    refine congrArg (arrV c N) (funext fun j => ?_)
    simp [va_rf]
  | i + 1 => by
    show (Jvm.Free.Multi.outerC c N h0 i).setSlot i (.ref (h0 + 1 + i)) = _
    rw [ed_outer c N h0 i, arrV_store]
    refine congrArg (arrV c N) (funext fun j => ?_)
    by_cases e : j = i
    · subst e
      simp [updV, va_rf]
    · by_cases h : j < i
      · simp [updV, e, h, Nat.lt_succ_of_lt h]
      · simp [updV, e, h, show ¬ j < i + 1 by omega]
end MAKE2
end
section
/-- fewer locals -/
theorem Gd.drop {g : ed_g} {x : ed_x} {post : ed_post} {mc ms nL cells slots : Nat} {Y : ed_Y} {I : ed_I} {L : ed_L} {pc : Nat} {ls ls2 : List (Nat × Value)} {st : List Value} (k : Gd g x post mc ms nL cells slots Y I L pc ls st) : Gd g x post mc ms nL cells slots Y I L pc (ls ++ ls2) st := Gd.sub (fun q h => List.mem_append_left _ h) k
set_option maxRecDepth 100000 in
set_option maxHeartbeats 4000000 in
theorem cD_requireArgument_at : ∀ w ∈ Bundle.ownAtoms0 "EstateDesk" 201 "java/lang/IllegalArgumentException" ["java/lang/RuntimeException", "java/lang/Exception"], w ∈ ed_stw ∨ (w ∈ lw_tbl ∧ ed_stab w = true) := by decide +kernel
set_option maxRecDepth 100000 in
set_option maxHeartbeats 4000000 in
theorem cD_requireArgument {g : ed_g} {l : Launch} (hl : l.stackTraces = false) {Y : ed_Y} (hY : Y.1 = false) {v : Int} (hr : -2147483648 ≤ v ∧ v ≤ 2147483647) {I : ed_I} {L : ed_L} {post : ed_post} (hn : v ≠ 0 → post (.inl none) Y I L) (hx : v = 0 → post (.inr "java/lang/IllegalArgumentException") Y I L) : ed_Ct g l mD_requireArgument 0 1 6 [.int (iZ v)] Y I L post :=
  ed_thrower (ik := 199) (ic := 201) ["java/lang/RuntimeException", "java/lang/Exception"] hl rfl rfl rfl rfl (by decide +kernel) (by decide +kernel) rfl (by decide +kernel) (by decide +kernel) (by decide +kernel) (by decide +kernel) (by decide +kernel) (by decide +kernel) (by decide +kernel) (tb2 35 rfl) (tb1 12 rfl) cD_requireArgument_at (tb2 36 rfl) hr hY hn hx
set_option maxRecDepth 100000 in
set_option maxHeartbeats 4000000 in
theorem cD_requireState_at : ∀ w ∈ Bundle.ownAtoms0 "EstateDesk" 204 "java/lang/IllegalStateException" ["java/lang/RuntimeException", "java/lang/Exception"], w ∈ ed_stw ∨ (w ∈ lw_tbl ∧ ed_stab w = true) := by decide +kernel
set_option maxRecDepth 100000 in
set_option maxHeartbeats 4000000 in
theorem cD_requireState {g : ed_g} {l : Launch} (hl : l.stackTraces = false) {Y : ed_Y} (hY : Y.1 = false) {v : Int} (hr : -2147483648 ≤ v ∧ v ≤ 2147483647) {I : ed_I} {L : ed_L} {post : ed_post} (hn : v ≠ 0 → post (.inl none) Y I L) (hx : v = 0 → post (.inr "java/lang/IllegalStateException") Y I L) : ed_Ct g l mD_requireState 0 1 6 [.int (iZ v)] Y I L post :=
  ed_thrower (ik := 202) (ic := 204) ["java/lang/RuntimeException", "java/lang/Exception"] hl rfl rfl rfl rfl (by decide +kernel) (by decide +kernel) rfl (by decide +kernel) (by decide +kernel) (by decide +kernel) (by decide +kernel) (by decide +kernel) (by decide +kernel) (by decide +kernel) (tb2 104 rfl) (tb1 13 rfl) cD_requireState_at (tb2 105 rfl) hr hY hn hx
set_option maxRecDepth 100000 in
set_option maxHeartbeats 4000000 in
theorem cD_requireWithin {g : ed_g} {l : Launch} (hl : l.stackTraces = false) {Y : ed_Y} (hY : Y.1 = false) {a b c : Int} (hr : -9223372036854775808 ≤ a ∧ a ≤ 9223372036854775807 ∧ -9223372036854775808 ≤ b ∧ b ≤ 9223372036854775807 ∧ -9223372036854775808 ≤ c ∧ c ≤ 9223372036854775807) {I : ed_I} {L : ed_L} {post : ed_post} (hn : b ≤ a ∧ a ≤ c → post (.inl none) Y I L) (hx : ¬ (b ≤ a ∧ a ≤ c) → post (.inr IAE) Y I L) : ed_Ct g l mD_requireWithin 1 1 6 [.long (lZ a), .long (lZ b), .long (lZ c)] Y I L post := by
  refine ed_Ct.of hl rfl (Nat.le_of_ble_eq_true rfl) (fun x _ C => ?_)
  show Gd g x post _ _ _ _ _ _ _ _ 0 [(0, _), (2, _), (4, _)] []
  refine r_lld C dD_requireWithin_0 rfl ?_
  refine r_lld C dD_requireWithin_1 rfl ?_
  refine r_lc_lt C dD_requireWithin_2 dD_requireWithin_3 (by omega) (fun b3 => ?_) (fun b3 => ?_)
  · refine r_ik C dD_requireWithin_17 ?_
    refine r_callS C lzD_requireArgument dD_requireWithin_18 [_] [] rfl rfl (Nat.le_of_ble_eq_true rfl) ⟨(Nat.le_of_ble_eq_true rfl), (Nat.le_of_ble_eq_true rfl), (Nat.le_of_ble_eq_true rfl), (Nat.le_of_ble_eq_true rfl)⟩ rfl (cD_requireArgument C.2.2.2.2.2.1 hY (by omega) (fun h => absurd rfl h) (fun _ => ?_))
    exact gx_out C rfl (Nat.le_of_ble_eq_true rfl) (Nat.le_of_ble_eq_true rfl) (hx (by omega))
  · refine r_lld C dD_requireWithin_6 rfl ?_
    refine r_lld C dD_requireWithin_7 rfl ?_
    refine r_lc_gt C dD_requireWithin_9 dD_requireWithin_10 (by omega) (fun b10 => ?_) (fun b10 => ?_)
    · refine r_ik C dD_requireWithin_17 ?_
      refine r_callS C lzD_requireArgument dD_requireWithin_18 [_] [] rfl rfl (Nat.le_of_ble_eq_true rfl) ⟨(Nat.le_of_ble_eq_true rfl), (Nat.le_of_ble_eq_true rfl), (Nat.le_of_ble_eq_true rfl), (Nat.le_of_ble_eq_true rfl)⟩ rfl (cD_requireArgument C.2.2.2.2.2.1 hY (by omega) (fun h => absurd rfl h) (fun _ => ?_))
      exact gx_out C rfl (Nat.le_of_ble_eq_true rfl) (Nat.le_of_ble_eq_true rfl) (hx (by omega))
    · refine r_ik C dD_requireWithin_13 ?_
      refine r_goto C dD_requireWithin_14 ?_
      refine r_callS C lzD_requireArgument dD_requireWithin_18 [_] [] rfl rfl (Nat.le_of_ble_eq_true rfl) ⟨(Nat.le_of_ble_eq_true rfl), (Nat.le_of_ble_eq_true rfl), (Nat.le_of_ble_eq_true rfl), (Nat.le_of_ble_eq_true rfl)⟩ rfl (cD_requireArgument C.2.2.2.2.2.1 hY (by omega) (fun _ => ?_) (fun h => absurd h (by decide)))
      exact r_vret C dD_requireWithin_21 rfl (Nat.le_of_ble_eq_true rfl) (Nat.le_of_ble_eq_true rfl) (hn (by omega))
set_option maxRecDepth 100000 in
set_option maxHeartbeats 4000000 in
theorem cD_requireOpen {g : ed_g} {l : Launch} (hl : l.stackTraces = false) {I : ed_I} {L : ed_L} (hc : I 0 7 = 0 ∨ I 0 7 = 1) {post : ed_post} (hn : I 0 7 = 0 → post (.inl none) Yw I L) (hx : I 0 7 ≠ 0 → post (.inr ISE) Yw I L) : ed_Ct g l mD_requireOpen 1 1 6 [.ref 0] Yw I L post := by
  refine ed_Ct.of hl rfl (Nat.le_of_ble_eq_true rfl) (fun x _ C => ?_)
  show Gd g x post _ _ _ _ _ _ _ _ 0 [(0, _)] []
  refine r_ald C dD_requireOpen_0 rfl ?_
  refine r_getI (z := 7) C dD_requireOpen_1 rfl rfl rfl ?_
  refine r_if_ne C dD_requireOpen_4 (by omega) (fun b4 => ?_) (fun b4 => ?_)
  · refine r_ik C dD_requireOpen_11 ?_
    refine r_callS C lzD_requireState dD_requireOpen_12 [_] [] rfl rfl (Nat.le_of_ble_eq_true rfl) ⟨(Nat.le_of_ble_eq_true rfl), (Nat.le_of_ble_eq_true rfl), (Nat.le_of_ble_eq_true rfl), (Nat.le_of_ble_eq_true rfl)⟩ rfl (cD_requireState C.2.2.2.2.2.1 rfl (by omega) (fun h => absurd rfl h) (fun _ => ?_))
    exact gx_out C rfl (Nat.le_of_ble_eq_true rfl) (Nat.le_of_ble_eq_true rfl) (hx (by omega))
  · refine r_ik C dD_requireOpen_7 ?_
    refine r_goto C dD_requireOpen_8 ?_
    refine r_callS C lzD_requireState dD_requireOpen_12 [_] [] rfl rfl (Nat.le_of_ble_eq_true rfl) ⟨(Nat.le_of_ble_eq_true rfl), (Nat.le_of_ble_eq_true rfl), (Nat.le_of_ble_eq_true rfl), (Nat.le_of_ble_eq_true rfl)⟩ rfl (cD_requireState C.2.2.2.2.2.1 rfl (by omega) (fun _ => ?_) (fun h => absurd h (by decide)))
    exact r_vret C dD_requireOpen_15 rfl (Nat.le_of_ble_eq_true rfl) (Nat.le_of_ble_eq_true rfl) (hn (by omega))
set_option maxRecDepth 100000 in
set_option maxHeartbeats 4000000 in
theorem cD_requireAsset {g : ed_g} {l : Launch} (hl : l.stackTraces = false) {I : ed_I} {L : ed_L} {a : Int} (ha : -2147483648 ≤ a ∧ a ≤ 2147483647) (hk : ∀ j, 0 ≤ j → j ≤ 40 → I 7 j = 0 ∨ I 7 j = 1) {post : ed_post} (hn : (1 ≤ a ∧ a ≤ 40) ∧ I 7 a ≠ 0 → post (.inl none) Yw I L) (hx : ¬ ((1 ≤ a ∧ a ≤ 40) ∧ I 7 a ≠ 0) → post (.inr IAE) Yw I L) : ed_Ct g l mD_requireAsset 2 2 12 [.ref 0, .int (iZ a)] Yw I L post := by
  refine ed_Ct.of hl rfl (Nat.le_of_ble_eq_true rfl) (fun x _ C => ?_)
  show Gd g x post _ _ _ _ _ _ _ _ 0 [(0, _), (1, _)] []
  refine r_ild C dD_requireAsset_0 rfl ?_
  refine r_i2l C dD_requireAsset_1 (by omega) ?_
  refine r_lk C dD_requireAsset_2 ?_
  refine r_lk C dD_requireAsset_3 ?_
  refine r_callS C lzD_requireWithin dD_requireAsset_6 [_, _, _] [] rfl rfl (Nat.le_of_ble_eq_true rfl) ⟨(Nat.le_of_ble_eq_true rfl), (Nat.le_of_ble_eq_true rfl), (Nat.le_of_ble_eq_true rfl), (Nat.le_of_ble_eq_true rfl)⟩ rfl (cD_requireWithin C.2.2.2.2.2.1 rfl (by omega) (fun b6 => ?_) (fun b6 => ?_))
  · refine r_ald C dD_requireAsset_9 rfl ?_
    refine r_getR C dD_requireAsset_10 rfl rfl ?_
    refine r_getR C dD_requireAsset_13 rfl rfl ?_
    refine r_ild C dD_requireAsset_16 rfl ?_
    refine r_zald C dD_requireAsset_17 rfl ⟨by omega, by omega⟩ (by decide) ?_
    have hk2 := hk a (by omega) (by omega)
    refine r_callS C lzD_requireArgument dD_requireAsset_18 [_] [] rfl rfl (Nat.le_of_ble_eq_true rfl) ⟨(Nat.le_of_ble_eq_true rfl), (Nat.le_of_ble_eq_true rfl), (Nat.le_of_ble_eq_true rfl), (Nat.le_of_ble_eq_true rfl)⟩ rfl (cD_requireArgument C.2.2.2.2.2.1 rfl (by omega) (fun b18 => ?_) (fun b18 => ?_))
    · exact r_vret C dD_requireAsset_21 rfl (Nat.le_of_ble_eq_true rfl) (Nat.le_of_ble_eq_true rfl) (hn (by omega))
    · exact gx_out C rfl (Nat.le_of_ble_eq_true rfl) (Nat.le_of_ble_eq_true rfl) (hx (by omega))
  · exact gx_out C rfl (Nat.le_of_ble_eq_true rfl) (Nat.le_of_ble_eq_true rfl) (hx (by omega))
set_option maxRecDepth 100000 in
set_option maxHeartbeats 4000000 in
theorem cD_requireAssetOrNone {g : ed_g} {l : Launch} (hl : l.stackTraces = false) {I : ed_I} {L : ed_L} {a : Int} (ha : -2147483648 ≤ a ∧ a ≤ 2147483647) (hk : ∀ j, 0 ≤ j → j ≤ 40 → I 7 j = 0 ∨ I 7 j = 1) {post : ed_post} (hn : a = 0 ∨ ((1 ≤ a ∧ a ≤ 40) ∧ I 7 a ≠ 0) → post (.inl none) Yw I L) (hx : ¬ (a = 0 ∨ ((1 ≤ a ∧ a ≤ 40) ∧ I 7 a ≠ 0)) → post (.inr IAE) Yw I L) : ed_Ct g l mD_requireAssetOrNone 3 2 12 [.ref 0, .int (iZ a)] Yw I L post := by
  refine ed_Ct.of hl rfl (Nat.le_of_ble_eq_true rfl) (fun x _ C => ?_)
  show Gd g x post _ _ _ _ _ _ _ _ 0 [(0, _), (1, _)] []
  refine r_ild C dD_requireAssetOrNone_0 rfl ?_
  refine r_if_eq C dD_requireAssetOrNone_1 (by omega) (fun b1 => ?_) (fun b1 => ?_)
  · exact r_vret C dD_requireAssetOrNone_9 rfl (Nat.le_of_ble_eq_true rfl) (Nat.le_of_ble_eq_true rfl) (hn (by omega))
  · refine r_ald C dD_requireAssetOrNone_4 rfl ?_
    refine r_ild C dD_requireAssetOrNone_5 rfl ?_
    refine r_callV C lzD_requireAsset dD_requireAssetOrNone_6 _ [_] [] rfl rfl rfl rfl rfl (Nat.le_of_ble_eq_true rfl) ⟨(Nat.le_of_ble_eq_true rfl), (Nat.le_of_ble_eq_true rfl), (Nat.le_of_ble_eq_true rfl), (Nat.le_of_ble_eq_true rfl)⟩ rfl (cD_requireAsset C.2.2.2.2.2.1 ha hk (fun b6 => ?_) (fun b6 => ?_))
    · exact r_vret C dD_requireAssetOrNone_9 rfl (Nat.le_of_ble_eq_true rfl) (Nat.le_of_ble_eq_true rfl) (hn (by omega))
    · exact gx_out C rfl (Nat.le_of_ble_eq_true rfl) (Nat.le_of_ble_eq_true rfl) (hx (by omega))
set_option maxRecDepth 100000 in
set_option maxHeartbeats 4000000 in
theorem cD_noteFact {g : ed_g} {l : Launch} (hl : l.stackTraces = false) {I : ed_I} {L : ed_L} {post : ed_post} (hn : post (.inl none) Yw (upI I 0 6 0) L) : ed_Ct g l mD_noteFact 0 0 0 [.ref 0] Yw I L post := by
  refine ed_Ct.of hl rfl (Nat.le_of_ble_eq_true rfl) (fun x _ C => ?_)
  show Gd g x post _ _ _ _ _ _ _ _ 0 [(0, _)] []
  refine r_ald C dD_noteFact_0 rfl ?_
  refine r_ik C dD_noteFact_1 ?_
  refine r_putI (z := 6) C dD_noteFact_2 rfl rfl rfl rfl (ed_pz0_6 (by omega)) ?_
  exact r_vret C dD_noteFact_5 rfl (Nat.le_of_ble_eq_true rfl) (Nat.le_of_ble_eq_true rfl) (hn)
/-- f 1 + .. + f n -/
def sm (f : Int → Int) : Nat → Int
  | 0 => 0
  | n + 1 => sm f n + f (n + 1)
theorem sm_to (f : Int → Int) {i : Int} (h : 1 ≤ i) : sm f (i + 1 - 1).toNat = sm f (i - 1).toNat + f i := by
  obtain ⟨n, rfl⟩ : ∃ n : Nat, i = n + 1 := ⟨(i - 1).toNat, by omega⟩
  rw [show ((n : Int) + 1 + 1 - 1).toNat = n + 1 by omega, show ((n : Int) + 1 - 1).toNat = n by omega]
  rfl
set_option maxRecDepth 100000 in
set_option maxHeartbeats 4000000 in
theorem cD_total {g : ed_g} {l : Launch} (hl : l.stackTraces = false) {I : ed_I} {L : ed_L} {k : Nat} (hk : ed_lay[k]? = some (.inr (2, 41, 0))) {post : ed_post} (hp : post (.inl (some (.long (lZ (sm (L k) 40))))) Yw I L) : ed_Ct g l mD_total 0 0 0 [.ref k] Yw I L post := by
  refine ed_Ct.of hl rfl (Nat.le_of_ble_eq_true rfl) (fun x _ C => ?_)
  show Gd g x post _ _ _ _ _ _ _ _ 0 [(0, _)] []
  have loop : ∀ (q : Nat) (i z : Int), (41 - i).toNat < q → 1 ≤ i ∧ i ≤ 41 → z = sm (L k) (i - 1).toNat → Gd g x post 0 0 mD_total.2.2.1 0 0 Yw I L 4 [(0, .ref k), (1, .long (lZ z)), (3, .int (iZ i))] [] := by
    intro q
    induction q with
    | zero => intro i z hq; omega
    | succ q ih =>
      intro i z hq g1 g2
      refine r_ild C dD_total_4 rfl ?_
      refine r_ik C dD_total_5 ?_
      refine r_icmp_gt C dD_total_7 (by omega) (fun b7 => ?_) (fun b7 => ?_)
      · refine r_lld C dD_total_22 rfl ?_
        exact r_lret C dD_total_23 rfl (Nat.le_of_ble_eq_true rfl) (Nat.le_of_ble_eq_true rfl) (by rw [g2, show (i - 1).toNat = 40 by omega]; exact hp)
      · refine r_lld C dD_total_10 rfl ?_
        refine r_ald C dD_total_11 rfl ?_
        refine r_ild C dD_total_12 rfl ?_
        refine r_lald C dD_total_13 hk ⟨by omega, by omega⟩ (by decide) ?_
        refine r_ladd C dD_total_14 ?_
        refine r_lst C dD_total_15 (by decide) (ls' := [(0, _), (1, _), (3, _)]) rfl ?_
        refine r_iinc C dD_total_16 (by decide) rfl (ls' := [(0, _), (1, _), (3, _)]) rfl ?_
        refine r_goto C dD_total_19 ?_
        exact ih _ _ (by omega) (by omega) (by rw [sm_to _ g1.1, g2])
  refine r_lk C dD_total_0 ?_
  refine r_lst C dD_total_1 (by decide) (ls' := [(0, _), (1, _)]) rfl ?_
  refine r_ik C dD_total_2 ?_
  refine r_ist C dD_total_3 (by decide) (ls' := [(0, _), (1, _), (3, _)]) rfl ?_
  exact loop 50 1 0 (by omega) (by omega) rfl
/-- the factors of the annuity table, in millionths, and their sums -/
def anF : Nat → Int
  | 0 => 1000000
  | n + 1 => 96 * anF n / 100
def anS : Nat → Int
  | 0 => 0
  | n + 1 => anS n + anF (n + 1)
def anV (y a : Int) : Int := y * anS (100 - a).toNat / 1000000
theorem anF_in : ∀ n, 0 ≤ anF n ∧ anF n ≤ 1000000
  | 0 => by decide
  | n + 1 => by
    have h := anF_in n
    show 0 ≤ 96 * anF n / 100 ∧ 96 * anF n / 100 ≤ 1000000
    omega
theorem anS_in : ∀ n, 0 ≤ anS n ∧ anS n ≤ 1000000 * n
  | 0 => by decide
  | n + 1 => by
    have h := anS_in n
    have h2 := anF_in (n + 1)
    show 0 ≤ anS n + anF (n + 1) ∧ anS n + anF (n + 1) ≤ 1000000 * ((n + 1 : Nat) : Int)
    omega
theorem anM {y : Int} {n : Nat} (h : 0 ≤ y ∧ y ≤ 1000000000) (hn : n ≤ 100) : 0 ≤ y * anS n ∧ y * anS n ≤ 100000000000000000 := by
  have h1 := anS_in n
  refine ⟨Int.mul_nonneg h.1 h1.1, ?_⟩
  have h2 : y * anS n ≤ 1000000000 * anS n := Int.mul_le_mul_of_nonneg_right h.2 h1.1
  omega
theorem an_to {i : Int} (h : 1 ≤ i) : anF (i + 1 - 1).toNat = 96 * anF (i - 1).toNat / 100 ∧ anS (i + 1 - 1).toNat = anS (i - 1).toNat + 96 * anF (i - 1).toNat / 100 := by
  obtain ⟨n, rfl⟩ : ∃ n : Nat, i = n + 1 := ⟨(i - 1).toNat, by omega⟩
  rw [show ((n : Int) + 1 + 1 - 1).toNat = n + 1 by omega, show ((n : Int) + 1 - 1).toNat = n by omega]
  exact ⟨rfl, rfl⟩
set_option maxRecDepth 100000 in
set_option maxHeartbeats 4000000 in
theorem cD_annuityValue {g : ed_g} {l : Launch} (hl : l.stackTraces = false) {I : ed_I} {L : ed_L} {Y : ed_Y} {y a : Int} (hy : 0 ≤ y ∧ y ≤ 1000000000) (ha : 0 ≤ a ∧ a ≤ 99) {post : ed_post} (hp : post (.inl (some (.long (lZ (anV y a))))) Y I L) : ed_Ct g l mD_annuityValue 0 0 0 [.long (lZ y), .int (iZ a)] Y I L post := by
  refine ed_Ct.of hl rfl (Nat.le_of_ble_eq_true rfl) (fun x _ C => ?_)
  show Gd g x post _ _ _ _ _ _ _ _ 0 [(0, _), (2, _)] []
  have loop : ∀ (q : Nat) (i f t : Int), (102 - a - i).toNat < q → 1 ≤ i ∧ i ≤ 101 - a → f = anF (i - 1).toNat → t = anS (i - 1).toNat → Gd g x post 0 0 mD_annuityValue.2.2.1 0 0 Y I L 10 [(0, .long (lZ y)), (2, .int (iZ a)), (3, .long (lZ f)), (5, .long (lZ t)), (7, .int (iZ i))] [] := by
    intro q
    induction q with
    | zero => intro i f t hq; omega
    | succ q ih =>
      intro i f t hq g1 g2 g3
      have f1 := anF_in (i - 1).toNat
      have f2 := anM (n := (i - 1).toNat) hy (by omega)
      rw [← g3] at f2
      rw [← g2] at f1
      refine r_ild C dD_annuityValue_10 rfl ?_
      refine r_ik C dD_annuityValue_12 ?_
      refine r_ild C dD_annuityValue_14 rfl ?_
      refine r_isub C dD_annuityValue_15 ?_
      refine r_icmp_gt C dD_annuityValue_16 (by omega) (fun b16 => ?_) (fun b16 => ?_)
      · refine r_lld C dD_annuityValue_41 rfl ?_
        refine r_lld C dD_annuityValue_42 rfl ?_
        refine r_lmul C dD_annuityValue_44 ?_
        refine r_lk C dD_annuityValue_45 ?_
        refine r_ldiv C dD_annuityValue_48 (by omega) ?_
        exact r_lret C dD_annuityValue_49 rfl (Nat.le_of_ble_eq_true rfl) (Nat.le_of_ble_eq_true rfl) (by rw [g3, show (i - 1).toNat = (100 - a).toNat by omega]; exact hp)
      · refine r_lk C dD_annuityValue_19 ?_
        refine r_lld C dD_annuityValue_22 rfl ?_
        refine r_lmul C dD_annuityValue_23 ?_
        refine r_lk C dD_annuityValue_24 ?_
        refine r_ldiv C dD_annuityValue_27 (by omega) ?_
        refine r_lst C dD_annuityValue_28 (by decide) (ls' := [(0, _), (2, _), (3, _), (5, _), (7, _)]) rfl ?_
        refine r_lld C dD_annuityValue_29 rfl ?_
        refine r_lld C dD_annuityValue_31 rfl ?_
        refine r_ladd C dD_annuityValue_32 ?_
        refine r_lst C dD_annuityValue_33 (by decide) (ls' := [(0, _), (2, _), (3, _), (5, _), (7, _)]) rfl ?_
        refine r_iinc C dD_annuityValue_35 (by decide) rfl (ls' := [(0, _), (2, _), (3, _), (5, _), (7, _)]) rfl ?_
        refine r_goto C dD_annuityValue_38 ?_
        exact ih _ _ _ (by omega) (by omega) (by rw [(an_to g1.1).1, g2]) (by rw [(an_to g1.1).2, g2, g3])
  refine r_lk C dD_annuityValue_0 ?_
  refine r_lst C dD_annuityValue_3 (by decide) (ls' := [(0, _), (2, _), (3, _)]) rfl ?_
  refine r_lk C dD_annuityValue_4 ?_
  refine r_lst C dD_annuityValue_5 (by decide) (ls' := [(0, _), (2, _), (3, _), (5, _)]) rfl ?_
  refine r_ik C dD_annuityValue_7 ?_
  refine r_ist C dD_annuityValue_8 (by decide) (ls' := [(0, _), (2, _), (3, _), (5, _), (7, _)]) rfl ?_
  exact loop 200 1 1000000 0 (by omega) (by omega) rfl rfl
set_option maxRecDepth 100000 in
set_option maxHeartbeats 4000000 in
theorem cP_outlived {g : ed_g} {l : Launch} (hl : l.stackTraces = false) {I : ed_I} {L : ed_L} {p : Int} (hp0 : 0 ≤ p ∧ p ≤ 40) (hr : -2147483648 ≤ I 2 p ∧ I 2 p ≤ 2147483647 ∧ -2147483648 ≤ I 1 0 ∧ I 1 0 ≤ 2147483647) {post : ed_post} (h1 : I 2 p = 0 ∨ I 1 0 < I 2 p → post (.inl (some (.int (iZ 1)))) Yw I L) (h0 : ¬ (I 2 p = 0 ∨ I 1 0 < I 2 p) → post (.inl (some (.int (iZ 0)))) Yw I L) : ed_Ct g l mP_outlived 0 0 0 [.ref 1, .int (iZ p)] Yw I L post := by
  refine ed_Ct.of hl rfl (Nat.le_of_ble_eq_true rfl) (fun x _ C => ?_)
  show Gd g x post _ _ _ _ _ _ _ _ 0 [(0, _), (1, _)] []
  refine r_ald C dP_outlived_0 rfl ?_
  refine r_getR C dP_outlived_1 rfl rfl ?_
  refine r_ild C dP_outlived_4 rfl ?_
  refine r_iald C dP_outlived_5 rfl ⟨by omega, by omega⟩ (by decide) ?_
  refine r_if_eq C dP_outlived_6 (by omega) (fun b6 => ?_) (fun b6 => ?_)
  · refine r_ik C dP_outlived_22 ?_
    refine r_goto C dP_outlived_23 ?_
    exact r_zret C dP_outlived_27 rfl (by omega) (Nat.le_of_ble_eq_true rfl) (Nat.le_of_ble_eq_true rfl) (by first | exact h1 (by omega) | exact h0 (by omega))
  · refine r_ald C dP_outlived_9 rfl ?_
    refine r_getR C dP_outlived_10 rfl rfl ?_
    refine r_ild C dP_outlived_13 rfl ?_
    refine r_iald C dP_outlived_14 rfl ⟨by omega, by omega⟩ (by decide) ?_
    refine r_ald C dP_outlived_15 rfl ?_
    refine r_getI (z := 0) C dP_outlived_16 rfl rfl rfl ?_
    refine r_icmp_le C dP_outlived_19 (by omega) (fun b19 => ?_) (fun b19 => ?_)
    · refine r_ik C dP_outlived_26 ?_
      exact r_zret C dP_outlived_27 rfl (by omega) (Nat.le_of_ble_eq_true rfl) (Nat.le_of_ble_eq_true rfl) (by first | exact h1 (by omega) | exact h0 (by omega))
    · refine r_ik C dP_outlived_22 ?_
      refine r_goto C dP_outlived_23 ?_
      exact r_zret C dP_outlived_27 rfl (by omega) (Nat.le_of_ble_eq_true rfl) (Nat.le_of_ble_eq_true rfl) (by first | exact h1 (by omega) | exact h0 (by omega))
set_option maxRecDepth 100000 in
set_option maxHeartbeats 4000000 in
theorem cA_isThere {g : ed_g} {l : Launch} (hl : l.stackTraces = false) {I : ed_I} {L : ed_L} {p : Int} (hp0 : 0 ≤ p ∧ p ≤ 40) (hr : (I 7 p = 0 ∨ I 7 p = 1) ∧ (I 10 p = 0 ∨ I 10 p = 1)) {post : ed_post} (h1 : I 7 p ≠ 0 ∧ I 10 p = 0 → post (.inl (some (.int (iZ 1)))) Yw I L) (h0 : ¬ (I 7 p ≠ 0 ∧ I 10 p = 0) → post (.inl (some (.int (iZ 0)))) Yw I L) : ed_Ct g l mA_isThere 0 0 0 [.ref 6, .int (iZ p)] Yw I L post := by
  refine ed_Ct.of hl rfl (Nat.le_of_ble_eq_true rfl) (fun x _ C => ?_)
  show Gd g x post _ _ _ _ _ _ _ _ 0 [(0, _), (1, _)] []
  refine r_ald C dA_isThere_0 rfl ?_
  refine r_getR C dA_isThere_1 rfl rfl ?_
  refine r_ild C dA_isThere_4 rfl ?_
  refine r_zald C dA_isThere_5 rfl ⟨by omega, by omega⟩ (by decide) ?_
  refine r_if_eq C dA_isThere_6 (by omega) (fun b6 => ?_) (fun b6 => ?_)
  · refine r_ik C dA_isThere_22 ?_
    exact r_zret C dA_isThere_23 rfl (by omega) (Nat.le_of_ble_eq_true rfl) (Nat.le_of_ble_eq_true rfl) (by first | exact h1 (by omega) | exact h0 (by omega))
  · refine r_ald C dA_isThere_9 rfl ?_
    refine r_getR C dA_isThere_10 rfl rfl ?_
    refine r_ild C dA_isThere_13 rfl ?_
    refine r_zald C dA_isThere_14 rfl ⟨by omega, by omega⟩ (by decide) ?_
    refine r_if_ne C dA_isThere_15 (by omega) (fun b15 => ?_) (fun b15 => ?_)
    · refine r_ik C dA_isThere_22 ?_
      exact r_zret C dA_isThere_23 rfl (by omega) (Nat.le_of_ble_eq_true rfl) (Nat.le_of_ble_eq_true rfl) (by first | exact h1 (by omega) | exact h0 (by omega))
    · refine r_ik C dA_isThere_18 ?_
      refine r_goto C dA_isThere_19 ?_
      exact r_zret C dA_isThere_23 rfl (by omega) (Nat.le_of_ble_eq_true rfl) (Nat.le_of_ble_eq_true rfl) (by first | exact h1 (by omega) | exact h0 (by omega))
set_option maxRecDepth 100000 in
set_option maxHeartbeats 4000000 in
theorem cC_write {g : ed_g} {l : Launch} (hl : l.stackTraces = false) {I : ed_I} {L : ed_L} {c k m a : Int} (hc : 0 ≤ c ∧ c ≤ 40) {post : ed_post} (hn : post (.inl none) Yw (upI (upI (upI I 15 c k) 17 c a) 18 c 1) (upI L 16 c m)) : ed_Ct g l mC_write 0 0 0 [.ref 14, .int (iZ c), .int (iZ k), .long (lZ m), .int (iZ a)] Yw I L post := by
  refine ed_Ct.of hl rfl (Nat.le_of_ble_eq_true rfl) (fun x _ C => ?_)
  show Gd g x post _ _ _ _ _ _ _ _ 0 [(0, _), (1, _), (2, _), (3, _), (5, _)] []
  refine r_ald C dC_write_0 rfl ?_
  refine r_getR C dC_write_1 rfl rfl ?_
  refine r_ild C dC_write_4 rfl ?_
  refine r_ild C dC_write_5 rfl ?_
  refine r_iast C dC_write_6 rfl rfl ⟨by omega, by omega⟩ (by decide) ?_
  refine r_ald C dC_write_7 rfl ?_
  refine r_getR C dC_write_8 rfl rfl ?_
  refine r_ild C dC_write_11 rfl ?_
  refine r_lld C dC_write_12 rfl ?_
  refine r_last C dC_write_13 rfl rfl ⟨by omega, by omega⟩ (by decide) ?_
  refine r_ald C dC_write_14 rfl ?_
  refine r_getR C dC_write_15 rfl rfl ?_
  refine r_ild C dC_write_18 rfl ?_
  refine r_ild C dC_write_19 rfl ?_
  refine r_iast C dC_write_21 rfl rfl ⟨by omega, by omega⟩ (by decide) ?_
  refine r_ald C dC_write_22 rfl ?_
  refine r_getR C dC_write_23 rfl rfl ?_
  refine r_ild C dC_write_26 rfl ?_
  refine r_ik C dC_write_27 ?_
  refine r_zast C dC_write_28 rfl rfl ⟨by omega, by omega⟩ (by decide) (by omega) ?_
  exact r_vret C dC_write_29 rfl (Nat.le_of_ble_eq_true rfl) (Nat.le_of_ble_eq_true rfl) (hn)
set_option maxRecDepth 100000 in
set_option maxHeartbeats 4000000 in
theorem cC_anotherHas {g : ed_g} {l : Launch} (hl : l.stackTraces = false) {I : ed_I} {L : ed_L} {c w : Int} (hc : -2147483648 ≤ c ∧ c ≤ 2147483647) (hw : -2147483648 ≤ w ∧ w ≤ 2147483647) (hr : ∀ j, 0 ≤ j → j ≤ 40 → -1 ≤ I 17 j ∧ I 17 j ≤ 100000) {post : ed_post} (h1 : (∃ j, 1 ≤ j ∧ j ≤ 40 ∧ j ≠ c ∧ I 17 j = w) → post (.inl (some (.int (iZ 1)))) Yw I L) (h0 : (∀ j, 1 ≤ j → j ≤ 40 → j ≠ c → I 17 j ≠ w) → post (.inl (some (.int (iZ 0)))) Yw I L) : ed_Ct g l mC_anotherHas 0 0 0 [.ref 14, .int (iZ c), .int (iZ w)] Yw I L post := by
  refine ed_Ct.of hl rfl (Nat.le_of_ble_eq_true rfl) (fun x _ C => ?_)
  show Gd g x post _ _ _ _ _ _ _ _ 0 [(0, _), (1, _), (2, _)] []
  have loop : ∀ (q : Nat) (i : Int), (41 - i).toNat < q → 1 ≤ i ∧ i ≤ 41 → (∀ j, 1 ≤ j → j < i → j ≠ c → I 17 j ≠ w) → Gd g x post 0 0 mC_anotherHas.2.2.1 0 0 Yw I L 2 [(0, .ref 14), (1, .int (iZ c)), (2, .int (iZ w)), (3, .int (iZ i))] [] := by
    intro q
    induction q with
    | zero => intro i hq; omega
    | succ q ih =>
      intro i hq g1 g2
      have hri := fun (h : i ≤ 40) => hr i (by omega) h
      refine r_ild C dC_anotherHas_2 rfl ?_
      refine r_ik C dC_anotherHas_3 ?_
      refine r_icmp_gt C dC_anotherHas_5 (by omega) (fun b5 => ?_) (fun b5 => ?_)
      · refine r_ik C dC_anotherHas_31 ?_
        exact r_zret C dC_anotherHas_32 rfl (by omega) (Nat.le_of_ble_eq_true rfl) (Nat.le_of_ble_eq_true rfl) (by first | exact h0 (fun j j1 j2 j3 => g2 j j1 (by omega) j3) | exact h1 ⟨i, by omega, by omega, by omega, by omega⟩)
      · refine r_ild C dC_anotherHas_8 rfl ?_
        refine r_ild C dC_anotherHas_9 rfl ?_
        refine r_icmp_eq C dC_anotherHas_10 (by omega) (fun b10 => ?_) (fun b10 => ?_)
        · refine r_iinc C dC_anotherHas_25 (by decide) rfl (ls' := [(0, _), (1, _), (2, _), (3, _)]) rfl ?_
          refine r_goto C dC_anotherHas_28 ?_
          refine ih _ (by omega) (by omega) (fun j j1 j2 j3 => ?_)
          by_cases hj : j = i
          · subst hj; omega
          · exact g2 j j1 (by omega) j3
        · refine r_ald C dC_anotherHas_13 rfl ?_
          refine r_getR C dC_anotherHas_14 rfl rfl ?_
          refine r_ild C dC_anotherHas_17 rfl ?_
          refine r_iald C dC_anotherHas_18 rfl ⟨by omega, by omega⟩ (by decide) ?_
          refine r_ild C dC_anotherHas_19 rfl ?_
          refine r_icmp_ne C dC_anotherHas_20 (by omega) (fun b20 => ?_) (fun b20 => ?_)
          · refine r_iinc C dC_anotherHas_25 (by decide) rfl (ls' := [(0, _), (1, _), (2, _), (3, _)]) rfl ?_
            refine r_goto C dC_anotherHas_28 ?_
            refine ih _ (by omega) (by omega) (fun j j1 j2 j3 => ?_)
            by_cases hj : j = i
            · subst hj; omega
            · exact g2 j j1 (by omega) j3
          · refine r_ik C dC_anotherHas_23 ?_
            exact r_zret C dC_anotherHas_24 rfl (by omega) (Nat.le_of_ble_eq_true rfl) (Nat.le_of_ble_eq_true rfl) (by first | exact h0 (fun j j1 j2 j3 => g2 j j1 (by omega) j3) | exact h1 ⟨i, by omega, by omega, by omega, by omega⟩)
  refine r_ik C dC_anotherHas_0 ?_
  refine r_ist C dC_anotherHas_1 (by decide) (ls' := [(0, _), (1, _), (2, _), (3, _)]) rfl ?_
  exact loop 50 1 (by omega) (by omega) (fun j h1 h2 => by omega)
set_option maxRecDepth 100000 in
set_option maxHeartbeats 4000000 in
theorem cC_anotherGives {g : ed_g} {l : Launch} (hl : l.stackTraces = false) {I : ed_I} {L : ed_L} {c w : Int} (hc : -2147483648 ≤ c ∧ c ≤ 2147483647) (hw : -2147483648 ≤ w ∧ w ≤ 2147483647) (hr : ∀ j, 0 ≤ j → j ≤ 40 → -1 ≤ I 17 j ∧ I 17 j ≤ 100000) (hr2 : ∀ j, 0 ≤ j → j ≤ 40 → -1 ≤ I 15 j ∧ I 15 j ≤ 100000) {post : ed_post} (h1 : (∃ j, 1 ≤ j ∧ j ≤ 40 ∧ j ≠ c ∧ I 15 j = 1 ∧ I 17 j = w) → post (.inl (some (.int (iZ 1)))) Yw I L) (h0 : (∀ j, 1 ≤ j → j ≤ 40 → ¬ (j ≠ c ∧ I 15 j = 1 ∧ I 17 j = w)) → post (.inl (some (.int (iZ 0)))) Yw I L) : ed_Ct g l mC_anotherGives 0 0 0 [.ref 14, .int (iZ c), .int (iZ w)] Yw I L post := by
  refine ed_Ct.of hl rfl (Nat.le_of_ble_eq_true rfl) (fun x _ C => ?_)
  show Gd g x post _ _ _ _ _ _ _ _ 0 [(0, _), (1, _), (2, _)] []
  have loop : ∀ (q : Nat) (i : Int), (41 - i).toNat < q → 1 ≤ i ∧ i ≤ 41 → (∀ j, 1 ≤ j → j < i → ¬ (j ≠ c ∧ I 15 j = 1 ∧ I 17 j = w)) → Gd g x post 0 0 mC_anotherGives.2.2.1 0 0 Yw I L 2 [(0, .ref 14), (1, .int (iZ c)), (2, .int (iZ w)), (3, .int (iZ i))] [] := by
    intro q
    induction q with
    | zero => intro i hq; omega
    | succ q ih =>
      intro i hq g1 g2
      have hri := fun (h : i ≤ 40) => hr i (by omega) h
      have hri2 := fun (h : i ≤ 40) => hr2 i (by omega) h
      refine r_ild C dC_anotherGives_2 rfl ?_
      refine r_ik C dC_anotherGives_3 ?_
      refine r_icmp_gt C dC_anotherGives_5 (by omega) (fun b5 => ?_) (fun b5 => ?_)
      · refine r_ik C dC_anotherGives_41 ?_
        exact r_zret C dC_anotherGives_42 rfl (by omega) (Nat.le_of_ble_eq_true rfl) (Nat.le_of_ble_eq_true rfl) (by first | exact h0 (fun j j1 j2 j3 => g2 j j1 (by omega) j3) | exact h1 ⟨i, by omega, by omega, by omega, by omega, by omega⟩)
      · refine r_ild C dC_anotherGives_8 rfl ?_
        refine r_ild C dC_anotherGives_9 rfl ?_
        refine r_icmp_eq C dC_anotherGives_10 (by omega) (fun b10 => ?_) (fun b10 => ?_)
        · refine r_iinc C dC_anotherGives_35 (by decide) rfl (ls' := [(0, _), (1, _), (2, _), (3, _)]) rfl ?_
          refine r_goto C dC_anotherGives_38 ?_
          refine ih _ (by omega) (by omega) (fun j j1 j2 j3 => ?_)
          by_cases hj : j = i
          · subst hj; omega
          · exact g2 j j1 (by omega) j3
        · refine r_ald C dC_anotherGives_13 rfl ?_
          refine r_getR C dC_anotherGives_14 rfl rfl ?_
          refine r_ild C dC_anotherGives_17 rfl ?_
          refine r_iald C dC_anotherGives_18 rfl ⟨by omega, by omega⟩ (by decide) ?_
          refine r_ik C dC_anotherGives_19 ?_
          refine r_icmp_ne C dC_anotherGives_20 (by omega) (fun b20 => ?_) (fun b20 => ?_)
          · refine r_iinc C dC_anotherGives_35 (by decide) rfl (ls' := [(0, _), (1, _), (2, _), (3, _)]) rfl ?_
            refine r_goto C dC_anotherGives_38 ?_
            refine ih _ (by omega) (by omega) (fun j j1 j2 j3 => ?_)
            by_cases hj : j = i
            · subst hj; omega
            · exact g2 j j1 (by omega) j3
          · refine r_ald C dC_anotherGives_23 rfl ?_
            refine r_getR C dC_anotherGives_24 rfl rfl ?_
            refine r_ild C dC_anotherGives_27 rfl ?_
            refine r_iald C dC_anotherGives_28 rfl ⟨by omega, by omega⟩ (by decide) ?_
            refine r_ild C dC_anotherGives_29 rfl ?_
            refine r_icmp_ne C dC_anotherGives_30 (by omega) (fun b30 => ?_) (fun b30 => ?_)
            · refine r_iinc C dC_anotherGives_35 (by decide) rfl (ls' := [(0, _), (1, _), (2, _), (3, _)]) rfl ?_
              refine r_goto C dC_anotherGives_38 ?_
              refine ih _ (by omega) (by omega) (fun j j1 j2 j3 => ?_)
              by_cases hj : j = i
              · subst hj; omega
              · exact g2 j j1 (by omega) j3
            · refine r_ik C dC_anotherGives_33 ?_
              exact r_zret C dC_anotherGives_34 rfl (by omega) (Nat.le_of_ble_eq_true rfl) (Nat.le_of_ble_eq_true rfl) (by first | exact h0 (fun j j1 j2 j3 => g2 j j1 (by omega) j3) | exact h1 ⟨i, by omega, by omega, by omega, by omega, by omega⟩)
  refine r_ik C dC_anotherGives_0 ?_
  refine r_ist C dC_anotherGives_1 (by decide) (ls' := [(0, _), (1, _), (2, _), (3, _)]) rfl ?_
  exact loop 50 1 (by omega) (by omega) (fun j h1 h2 => by omega)
set_option maxRecDepth 100000 in
set_option maxHeartbeats 4000000 in
theorem cC_worthInAll {g : ed_g} {l : Launch} (hl : l.stackTraces = false) {I : ed_I} {L : ed_L} {c : Int} (hc : 0 ≤ c ∧ c ≤ 40) {post : ed_post} (hn : post (.inl (some (.long (lZ (L 63 c + L 64 c + L 65 c))))) Yw I L) : ed_Ct g l mC_worthInAll 0 0 0 [.ref 14, .int (iZ c)] Yw I L post := by
  refine ed_Ct.of hl rfl (Nat.le_of_ble_eq_true rfl) (fun x _ C => ?_)
  show Gd g x post _ _ _ _ _ _ _ _ 0 [(0, _), (1, _)] []
  refine r_ald C dC_worthInAll_0 rfl ?_
  refine r_getR C dC_worthInAll_1 rfl rfl ?_
  refine r_ild C dC_worthInAll_4 rfl ?_
  refine r_lald C dC_worthInAll_5 rfl ⟨by omega, by omega⟩ (by decide) ?_
  refine r_ald C dC_worthInAll_6 rfl ?_
  refine r_getR C dC_worthInAll_7 rfl rfl ?_
  refine r_ild C dC_worthInAll_10 rfl ?_
  refine r_lald C dC_worthInAll_11 rfl ⟨by omega, by omega⟩ (by decide) ?_
  refine r_ladd C dC_worthInAll_12 ?_
  refine r_ald C dC_worthInAll_13 rfl ?_
  refine r_getR C dC_worthInAll_14 rfl rfl ?_
  refine r_ild C dC_worthInAll_17 rfl ?_
  refine r_lald C dC_worthInAll_18 rfl ⟨by omega, by omega⟩ (by decide) ?_
  refine r_ladd C dC_worthInAll_19 ?_
  exact r_lret C dC_worthInAll_20 rfl (Nat.le_of_ble_eq_true rfl) (Nat.le_of_ble_eq_true rfl) (hn)
end
section
set_option maxRecDepth 100000 in
set_option maxHeartbeats 4000000 in
theorem cD_testator {g : ed_g} {l : Launch} (hl : l.stackTraces = false) {I : ed_I} {L : ed_L} {a : Int} (ra : -2147483648 ≤ a ∧ a ≤ 2147483647) (hc : I 0 7 = 0 ∨ I 0 7 = 1) {post : ed_post} (hA : ¬ (1 ≤ a ∧ a ≤ 100000) → post (.inr IAE) Yw I L) (hS : (1 ≤ a ∧ a ≤ 100000) → ¬ (I 0 7 = 0) → post (.inr ISE) Yw I L) (hn : (1 ≤ a ∧ a ≤ 100000) → (I 0 7 = 0) → post (.inl (none)) Yw (upI (upI I 1 0 a) 0 6 0) L) : ed_Ct g l mD_testator 4 2 12 [.ref 0, .int (iZ a)] Yw I L post := by
  refine ed_Ct.of hl rfl (Nat.le_of_ble_eq_true rfl) (fun x _ C => ?_)
  show Gd g x post _ _ _ _ _ _ _ _ 0 [(0, _), (1, _)] []
  refine r_ild C dD_testator_0 rfl ?_
  refine r_i2l C dD_testator_1 (by omega) ?_
  refine r_lk C dD_testator_2 ?_
  refine r_lk C dD_testator_3 ?_
  refine r_callS C lzD_requireWithin dD_testator_6 [_, _, _] [] rfl rfl (Nat.le_of_ble_eq_true rfl) ⟨(Nat.le_of_ble_eq_true rfl), (Nat.le_of_ble_eq_true rfl), (Nat.le_of_ble_eq_true rfl), (Nat.le_of_ble_eq_true rfl)⟩ rfl (cD_requireWithin C.2.2.2.2.2.1 rfl (by omega) (fun b6 => ?_) (fun b6 => ?_))
  · refine r_ald C dD_testator_9 rfl ?_
    refine r_callV C lzD_requireOpen dD_testator_10 _ [] [] rfl rfl rfl rfl rfl (Nat.le_of_ble_eq_true rfl) ⟨(Nat.le_of_ble_eq_true rfl), (Nat.le_of_ble_eq_true rfl), (Nat.le_of_ble_eq_true rfl), (Nat.le_of_ble_eq_true rfl)⟩ rfl (cD_requireOpen C.2.2.2.2.2.1 hc (fun b10 => ?_) (fun b10 => ?_))
    · refine r_ald C dD_testator_13 rfl ?_
      refine r_getR C dD_testator_14 rfl rfl ?_
      refine r_ild C dD_testator_17 rfl ?_
      refine r_putI (z := 0) C dD_testator_18 rfl rfl rfl rfl (ed_pi1_0 _) ?_
      refine r_ald C dD_testator_21 rfl ?_
      refine r_callV C lzD_noteFact dD_testator_22 _ [] [] rfl rfl rfl rfl rfl (Nat.le_of_ble_eq_true rfl) ⟨(Nat.le_of_ble_eq_true rfl), (Nat.le_of_ble_eq_true rfl), (Nat.le_of_ble_eq_true rfl), (Nat.le_of_ble_eq_true rfl)⟩ rfl (cD_noteFact C.2.2.2.2.2.1 ?_)
      exact r_vret C dD_testator_25 rfl (Nat.le_of_ble_eq_true rfl) (Nat.le_of_ble_eq_true rfl) (hn (by omega) (by omega))
    · exact gx_out C rfl (Nat.le_of_ble_eq_true rfl) (Nat.le_of_ble_eq_true rfl) (hS (by omega) (by omega))
  · exact gx_out C rfl (Nat.le_of_ble_eq_true rfl) (Nat.le_of_ble_eq_true rfl) (hA (by omega))
set_option maxRecDepth 100000 in
set_option maxHeartbeats 4000000 in
theorem cD_person {g : ed_g} {l : Launch} (hl : l.stackTraces = false) {I : ed_I} {L : ed_L} {a b : Int} (ra : -2147483648 ≤ a ∧ a ≤ 2147483647) (rb : -2147483648 ≤ b ∧ b ≤ 2147483647) (hc : I 0 7 = 0 ∨ I 0 7 = 1) {post : ed_post} (hA : ¬ ((1 ≤ a ∧ a ≤ 40) ∧ 0 ≤ b ∧ b ≤ 100000) → post (.inr IAE) Yw I L) (hS : ((1 ≤ a ∧ a ≤ 40) ∧ 0 ≤ b ∧ b ≤ 100000) → ¬ (I 0 7 = 0) → post (.inr ISE) Yw I L) (hn : ((1 ≤ a ∧ a ≤ 40) ∧ 0 ≤ b ∧ b ≤ 100000) → (I 0 7 = 0) → post (.inl (none)) Yw (upI (upI I 2 a b) 0 6 0) L) : ed_Ct g l mD_person 4 3 18 [.ref 0, .int (iZ a), .int (iZ b)] Yw I L post := by
  refine ed_Ct.of hl rfl (Nat.le_of_ble_eq_true rfl) (fun x _ C => ?_)
  show Gd g x post _ _ _ _ _ _ _ _ 0 [(0, _), (1, _), (2, _)] []
  refine r_ild C dD_person_0 rfl ?_
  refine r_i2l C dD_person_1 (by omega) ?_
  refine r_lk C dD_person_2 ?_
  refine r_lk C dD_person_3 ?_
  refine r_callS C lzD_requireWithin dD_person_6 [_, _, _] [] rfl rfl (Nat.le_of_ble_eq_true rfl) ⟨(Nat.le_of_ble_eq_true rfl), (Nat.le_of_ble_eq_true rfl), (Nat.le_of_ble_eq_true rfl), (Nat.le_of_ble_eq_true rfl)⟩ rfl (cD_requireWithin C.2.2.2.2.2.1 rfl (by omega) (fun b6 => ?_) (fun b6 => ?_))
  · refine r_ild C dD_person_9 rfl ?_
    refine r_i2l C dD_person_10 (by omega) ?_
    refine r_lk C dD_person_11 ?_
    refine r_lk C dD_person_12 ?_
    refine r_callS C lzD_requireWithin dD_person_15 [_, _, _] [] rfl rfl (Nat.le_of_ble_eq_true rfl) ⟨(Nat.le_of_ble_eq_true rfl), (Nat.le_of_ble_eq_true rfl), (Nat.le_of_ble_eq_true rfl), (Nat.le_of_ble_eq_true rfl)⟩ rfl (cD_requireWithin C.2.2.2.2.2.1 rfl (by omega) (fun b15 => ?_) (fun b15 => ?_))
    · refine r_ald C dD_person_18 rfl ?_
      refine r_callV C lzD_requireOpen dD_person_19 _ [] [] rfl rfl rfl rfl rfl (Nat.le_of_ble_eq_true rfl) ⟨(Nat.le_of_ble_eq_true rfl), (Nat.le_of_ble_eq_true rfl), (Nat.le_of_ble_eq_true rfl), (Nat.le_of_ble_eq_true rfl)⟩ rfl (cD_requireOpen C.2.2.2.2.2.1 hc (fun b19 => ?_) (fun b19 => ?_))
      · refine r_ald C dD_person_22 rfl ?_
        refine r_getR C dD_person_23 rfl rfl ?_
        refine r_getR C dD_person_26 rfl rfl ?_
        refine r_ild C dD_person_29 rfl ?_
        refine r_ild C dD_person_30 rfl ?_
        refine r_iast C dD_person_31 rfl rfl ⟨by omega, by omega⟩ (by decide) ?_
        refine r_ald C dD_person_32 rfl ?_
        refine r_callV C lzD_noteFact dD_person_33 _ [] [] rfl rfl rfl rfl rfl (Nat.le_of_ble_eq_true rfl) ⟨(Nat.le_of_ble_eq_true rfl), (Nat.le_of_ble_eq_true rfl), (Nat.le_of_ble_eq_true rfl), (Nat.le_of_ble_eq_true rfl)⟩ rfl (cD_noteFact C.2.2.2.2.2.1 ?_)
        exact r_vret C dD_person_36 rfl (Nat.le_of_ble_eq_true rfl) (Nat.le_of_ble_eq_true rfl) (hn (by omega) (by omega))
      · exact gx_out C rfl (Nat.le_of_ble_eq_true rfl) (Nat.le_of_ble_eq_true rfl) (hS (by omega) (by omega))
    · exact gx_out C rfl (Nat.le_of_ble_eq_true rfl) (Nat.le_of_ble_eq_true rfl) (hA (by omega))
  · exact gx_out C rfl (Nat.le_of_ble_eq_true rfl) (Nat.le_of_ble_eq_true rfl) (hA (by omega))
set_option maxRecDepth 100000 in
set_option maxHeartbeats 4000000 in
theorem cD_asset {g : ed_g} {l : Launch} (hl : l.stackTraces = false) {I : ed_I} {L : ed_L} {a v f : Int} (ra : -2147483648 ≤ a ∧ a ≤ 2147483647) (rv : -9223372036854775808 ≤ v ∧ v ≤ 9223372036854775807) (hf : f = 0 ∨ f = 1) (hc : I 0 7 = 0 ∨ I 0 7 = 1) (hk : ∀ j, 0 ≤ j → j ≤ 40 → I 7 j = 0 ∨ I 7 j = 1) {post : ed_post} (hA : ¬ ((1 ≤ a ∧ a ≤ 40) ∧ 0 ≤ v ∧ v ≤ 1000000000000) → post (.inr IAE) Yw I L) (hS : ((1 ≤ a ∧ a ≤ 40) ∧ 0 ≤ v ∧ v ≤ 1000000000000) → ¬ (I 0 7 = 0 ∧ I 7 a = 0) → post (.inr ISE) Yw I L) (hn : ((1 ≤ a ∧ a ≤ 40) ∧ 0 ≤ v ∧ v ≤ 1000000000000) → (I 0 7 = 0 ∧ I 7 a = 0) → post (.inl (none)) Yw (upI (upI (upI I 7 a 1) 9 a f) 0 6 0) (upI L 8 a v)) : ed_Ct g l mD_asset 4 4 24 [.ref 0, .int (iZ a), .long (lZ v), .int (iZ f)] Yw I L post := by
  refine ed_Ct.of hl rfl (Nat.le_of_ble_eq_true rfl) (fun x _ C => ?_)
  show Gd g x post _ _ _ _ _ _ _ _ 0 [(0, _), (1, _), (2, _), (4, _)] []
  have hka := fun (h : 0 ≤ a ∧ a ≤ 40) => hk a h.1 h.2
  refine r_ild C dD_asset_0 rfl ?_
  refine r_i2l C dD_asset_1 (by omega) ?_
  refine r_lk C dD_asset_2 ?_
  refine r_lk C dD_asset_3 ?_
  refine r_callS C lzD_requireWithin dD_asset_6 [_, _, _] [] rfl rfl (Nat.le_of_ble_eq_true rfl) ⟨(Nat.le_of_ble_eq_true rfl), (Nat.le_of_ble_eq_true rfl), (Nat.le_of_ble_eq_true rfl), (Nat.le_of_ble_eq_true rfl)⟩ rfl (cD_requireWithin C.2.2.2.2.2.1 rfl (by omega) (fun b6 => ?_) (fun b6 => ?_))
  · refine r_lld C dD_asset_9 rfl ?_
    refine r_lk C dD_asset_10 ?_
    refine r_lk C dD_asset_11 ?_
    refine r_callS C lzD_requireWithin dD_asset_14 [_, _, _] [] rfl rfl (Nat.le_of_ble_eq_true rfl) ⟨(Nat.le_of_ble_eq_true rfl), (Nat.le_of_ble_eq_true rfl), (Nat.le_of_ble_eq_true rfl), (Nat.le_of_ble_eq_true rfl)⟩ rfl (cD_requireWithin C.2.2.2.2.2.1 rfl (by omega) (fun b14 => ?_) (fun b14 => ?_))
    · refine r_ald C dD_asset_17 rfl ?_
      refine r_callV C lzD_requireOpen dD_asset_18 _ [] [] rfl rfl rfl rfl rfl (Nat.le_of_ble_eq_true rfl) ⟨(Nat.le_of_ble_eq_true rfl), (Nat.le_of_ble_eq_true rfl), (Nat.le_of_ble_eq_true rfl), (Nat.le_of_ble_eq_true rfl)⟩ rfl (cD_requireOpen C.2.2.2.2.2.1 hc (fun b18 => ?_) (fun b18 => ?_))
      · refine r_ald C dD_asset_21 rfl ?_
        refine r_getR C dD_asset_22 rfl rfl ?_
        refine r_getR C dD_asset_25 rfl rfl ?_
        refine r_ild C dD_asset_28 rfl ?_
        refine r_zald C dD_asset_29 rfl ⟨by omega, by omega⟩ (by decide) ?_
        refine r_if_ne C dD_asset_30 (by omega) (fun b30 => ?_) (fun b30 => ?_)
        · refine r_ik C dD_asset_37 ?_
          refine r_callS C lzD_requireState dD_asset_38 [_] [] rfl rfl (Nat.le_of_ble_eq_true rfl) ⟨(Nat.le_of_ble_eq_true rfl), (Nat.le_of_ble_eq_true rfl), (Nat.le_of_ble_eq_true rfl), (Nat.le_of_ble_eq_true rfl)⟩ rfl (cD_requireState C.2.2.2.2.2.1 rfl (by omega) (fun h => absurd rfl h) (fun _ => ?_))
          exact gx_out C rfl (Nat.le_of_ble_eq_true rfl) (Nat.le_of_ble_eq_true rfl) (hS (by omega) (by omega))
        · refine r_ik C dD_asset_33 ?_
          refine r_goto C dD_asset_34 ?_
          refine r_callS C lzD_requireState dD_asset_38 [_] [] rfl rfl (Nat.le_of_ble_eq_true rfl) ⟨(Nat.le_of_ble_eq_true rfl), (Nat.le_of_ble_eq_true rfl), (Nat.le_of_ble_eq_true rfl), (Nat.le_of_ble_eq_true rfl)⟩ rfl (cD_requireState C.2.2.2.2.2.1 rfl (by omega) (fun _ => ?_) (fun h => absurd h (by decide)))
          refine r_ald C dD_asset_41 rfl ?_
          refine r_getR C dD_asset_42 rfl rfl ?_
          refine r_getR C dD_asset_45 rfl rfl ?_
          refine r_ild C dD_asset_48 rfl ?_
          refine r_ik C dD_asset_49 ?_
          refine r_zast C dD_asset_50 rfl rfl ⟨by omega, by omega⟩ (by decide) (by omega) ?_
          refine r_ald C dD_asset_51 rfl ?_
          refine r_getR C dD_asset_52 rfl rfl ?_
          refine r_getR C dD_asset_55 rfl rfl ?_
          refine r_ild C dD_asset_58 rfl ?_
          refine r_lld C dD_asset_59 rfl ?_
          refine r_last C dD_asset_60 rfl rfl ⟨by omega, by omega⟩ (by decide) ?_
          refine r_ald C dD_asset_61 rfl ?_
          refine r_getR C dD_asset_62 rfl rfl ?_
          refine r_getR C dD_asset_65 rfl rfl ?_
          refine r_ild C dD_asset_68 rfl ?_
          refine r_ild C dD_asset_69 rfl ?_
          refine r_zast C dD_asset_71 rfl rfl ⟨by omega, by omega⟩ (by decide) (by omega) ?_
          refine r_ald C dD_asset_72 rfl ?_
          refine r_callV C lzD_noteFact dD_asset_73 _ [] [] rfl rfl rfl rfl rfl (Nat.le_of_ble_eq_true rfl) ⟨(Nat.le_of_ble_eq_true rfl), (Nat.le_of_ble_eq_true rfl), (Nat.le_of_ble_eq_true rfl), (Nat.le_of_ble_eq_true rfl)⟩ rfl (cD_noteFact C.2.2.2.2.2.1 ?_)
          exact r_vret C dD_asset_76 rfl (Nat.le_of_ble_eq_true rfl) (Nat.le_of_ble_eq_true rfl) (hn (by omega) (by omega))
      · exact gx_out C rfl (Nat.le_of_ble_eq_true rfl) (Nat.le_of_ble_eq_true rfl) (hS (by omega) (by omega))
    · exact gx_out C rfl (Nat.le_of_ble_eq_true rfl) (Nat.le_of_ble_eq_true rfl) (hA (by omega))
  · exact gx_out C rfl (Nat.le_of_ble_eq_true rfl) (Nat.le_of_ble_eq_true rfl) (hA (by omega))
set_option maxRecDepth 100000 in
set_option maxHeartbeats 4000000 in
theorem cD_revalue {g : ed_g} {l : Launch} (hl : l.stackTraces = false) {I : ed_I} {L : ed_L} {a v : Int} (ra : -2147483648 ≤ a ∧ a ≤ 2147483647) (rv : -9223372036854775808 ≤ v ∧ v ≤ 9223372036854775807) (hc : I 0 7 = 0 ∨ I 0 7 = 1) (hk : ∀ j, 0 ≤ j → j ≤ 40 → I 7 j = 0 ∨ I 7 j = 1) {post : ed_post} (hA : ¬ (((1 ≤ a ∧ a ≤ 40) ∧ I 7 a ≠ 0) ∧ 0 ≤ v ∧ v ≤ 1000000000000) → post (.inr IAE) Yw I L) (hS : (((1 ≤ a ∧ a ≤ 40) ∧ I 7 a ≠ 0) ∧ 0 ≤ v ∧ v ≤ 1000000000000) → ¬ (I 0 7 = 0) → post (.inr ISE) Yw I L) (hn : (((1 ≤ a ∧ a ≤ 40) ∧ I 7 a ≠ 0) ∧ 0 ≤ v ∧ v ≤ 1000000000000) → (I 0 7 = 0) → post (.inl (some (.long (lZ (L 8 a))))) Yw (upI I 0 6 0) (upI L 8 a v)) : ed_Ct g l mD_revalue 4 4 24 [.ref 0, .int (iZ a), .long (lZ v)] Yw I L post := by
  refine ed_Ct.of hl rfl (Nat.le_of_ble_eq_true rfl) (fun x _ C => ?_)
  show Gd g x post _ _ _ _ _ _ _ _ 0 [(0, _), (1, _), (2, _)] []
  refine r_ald C dD_revalue_0 rfl ?_
  refine r_ild C dD_revalue_1 rfl ?_
  refine r_callV C lzD_requireAsset dD_revalue_2 _ [_] [] rfl rfl rfl rfl rfl (Nat.le_of_ble_eq_true rfl) ⟨(Nat.le_of_ble_eq_true rfl), (Nat.le_of_ble_eq_true rfl), (Nat.le_of_ble_eq_true rfl), (Nat.le_of_ble_eq_true rfl)⟩ rfl (cD_requireAsset C.2.2.2.2.2.1 (by omega) hk (fun b2 => ?_) (fun b2 => ?_))
  · refine r_lld C dD_revalue_5 rfl ?_
    refine r_lk C dD_revalue_6 ?_
    refine r_lk C dD_revalue_7 ?_
    refine r_callS C lzD_requireWithin dD_revalue_10 [_, _, _] [] rfl rfl (Nat.le_of_ble_eq_true rfl) ⟨(Nat.le_of_ble_eq_true rfl), (Nat.le_of_ble_eq_true rfl), (Nat.le_of_ble_eq_true rfl), (Nat.le_of_ble_eq_true rfl)⟩ rfl (cD_requireWithin C.2.2.2.2.2.1 rfl (by omega) (fun b10 => ?_) (fun b10 => ?_))
    · refine r_ald C dD_revalue_13 rfl ?_
      refine r_callV C lzD_requireOpen dD_revalue_14 _ [] [] rfl rfl rfl rfl rfl (Nat.le_of_ble_eq_true rfl) ⟨(Nat.le_of_ble_eq_true rfl), (Nat.le_of_ble_eq_true rfl), (Nat.le_of_ble_eq_true rfl), (Nat.le_of_ble_eq_true rfl)⟩ rfl (cD_requireOpen C.2.2.2.2.2.1 hc (fun b14 => ?_) (fun b14 => ?_))
      · refine r_ald C dD_revalue_17 rfl ?_
        refine r_getR C dD_revalue_18 rfl rfl ?_
        refine r_getR C dD_revalue_21 rfl rfl ?_
        refine r_ild C dD_revalue_24 rfl ?_
        refine r_lald C dD_revalue_25 rfl ⟨by omega, by omega⟩ (by decide) ?_
        refine r_lst C dD_revalue_26 (by decide) (ls' := [(0, _), (1, _), (2, _), (4, _)]) rfl ?_
        refine r_ald C dD_revalue_28 rfl ?_
        refine r_getR C dD_revalue_29 rfl rfl ?_
        refine r_getR C dD_revalue_32 rfl rfl ?_
        refine r_ild C dD_revalue_35 rfl ?_
        refine r_lld C dD_revalue_36 rfl ?_
        refine r_last C dD_revalue_37 rfl rfl ⟨by omega, by omega⟩ (by decide) ?_
        refine r_ald C dD_revalue_38 rfl ?_
        refine r_callV C lzD_noteFact dD_revalue_39 _ [] [] rfl rfl rfl rfl rfl (Nat.le_of_ble_eq_true rfl) ⟨(Nat.le_of_ble_eq_true rfl), (Nat.le_of_ble_eq_true rfl), (Nat.le_of_ble_eq_true rfl), (Nat.le_of_ble_eq_true rfl)⟩ rfl (cD_noteFact C.2.2.2.2.2.1 ?_)
        refine r_lld C dD_revalue_42 rfl ?_
        exact r_lret C dD_revalue_44 rfl (Nat.le_of_ble_eq_true rfl) (Nat.le_of_ble_eq_true rfl) (hn (by omega) (by omega))
      · exact gx_out C rfl (Nat.le_of_ble_eq_true rfl) (Nat.le_of_ble_eq_true rfl) (hS (by omega) (by omega))
    · exact gx_out C rfl (Nat.le_of_ble_eq_true rfl) (Nat.le_of_ble_eq_true rfl) (hA (by omega))
  · exact gx_out C rfl (Nat.le_of_ble_eq_true rfl) (Nat.le_of_ble_eq_true rfl) (hA (by omega))
set_option maxRecDepth 100000 in
set_option maxHeartbeats 4000000 in
theorem cD_gone {g : ed_g} {l : Launch} (hl : l.stackTraces = false) {I : ed_I} {L : ed_L} {a : Int} (ra : -2147483648 ≤ a ∧ a ≤ 2147483647) (hc : I 0 7 = 0 ∨ I 0 7 = 1) (hk : ∀ j, 0 ≤ j → j ≤ 40 → I 7 j = 0 ∨ I 7 j = 1) {post : ed_post} (hA : ¬ ((1 ≤ a ∧ a ≤ 40) ∧ I 7 a ≠ 0) → post (.inr IAE) Yw I L) (hS : ((1 ≤ a ∧ a ≤ 40) ∧ I 7 a ≠ 0) → ¬ (I 0 7 = 0) → post (.inr ISE) Yw I L) (hn : ((1 ≤ a ∧ a ≤ 40) ∧ I 7 a ≠ 0) → (I 0 7 = 0) → post (.inl (none)) Yw (upI (upI I 10 a 1) 0 6 0) L) : ed_Ct g l mD_gone 4 3 18 [.ref 0, .int (iZ a)] Yw I L post := by
  refine ed_Ct.of hl rfl (Nat.le_of_ble_eq_true rfl) (fun x _ C => ?_)
  show Gd g x post _ _ _ _ _ _ _ _ 0 [(0, _), (1, _)] []
  refine r_ald C dD_gone_0 rfl ?_
  refine r_ild C dD_gone_1 rfl ?_
  refine r_callV C lzD_requireAsset dD_gone_2 _ [_] [] rfl rfl rfl rfl rfl (Nat.le_of_ble_eq_true rfl) ⟨(Nat.le_of_ble_eq_true rfl), (Nat.le_of_ble_eq_true rfl), (Nat.le_of_ble_eq_true rfl), (Nat.le_of_ble_eq_true rfl)⟩ rfl (cD_requireAsset C.2.2.2.2.2.1 (by omega) hk (fun b2 => ?_) (fun b2 => ?_))
  · refine r_ald C dD_gone_5 rfl ?_
    refine r_callV C lzD_requireOpen dD_gone_6 _ [] [] rfl rfl rfl rfl rfl (Nat.le_of_ble_eq_true rfl) ⟨(Nat.le_of_ble_eq_true rfl), (Nat.le_of_ble_eq_true rfl), (Nat.le_of_ble_eq_true rfl), (Nat.le_of_ble_eq_true rfl)⟩ rfl (cD_requireOpen C.2.2.2.2.2.1 hc (fun b6 => ?_) (fun b6 => ?_))
    · refine r_ald C dD_gone_9 rfl ?_
      refine r_getR C dD_gone_10 rfl rfl ?_
      refine r_getR C dD_gone_13 rfl rfl ?_
      refine r_ild C dD_gone_16 rfl ?_
      refine r_ik C dD_gone_17 ?_
      refine r_zast C dD_gone_18 rfl rfl ⟨by omega, by omega⟩ (by decide) (by omega) ?_
      refine r_ald C dD_gone_19 rfl ?_
      refine r_callV C lzD_noteFact dD_gone_20 _ [] [] rfl rfl rfl rfl rfl (Nat.le_of_ble_eq_true rfl) ⟨(Nat.le_of_ble_eq_true rfl), (Nat.le_of_ble_eq_true rfl), (Nat.le_of_ble_eq_true rfl), (Nat.le_of_ble_eq_true rfl)⟩ rfl (cD_noteFact C.2.2.2.2.2.1 ?_)
      exact r_vret C dD_gone_23 rfl (Nat.le_of_ble_eq_true rfl) (Nat.le_of_ble_eq_true rfl) (hn (by omega) (by omega))
    · exact gx_out C rfl (Nat.le_of_ble_eq_true rfl) (Nat.le_of_ble_eq_true rfl) (hS (by omega) (by omega))
  · exact gx_out C rfl (Nat.le_of_ble_eq_true rfl) (Nat.le_of_ble_eq_true rfl) (hA (by omega))
set_option maxRecDepth 100000 in
set_option maxHeartbeats 4000000 in
theorem cD_gift {g : ed_g} {l : Launch} (hl : l.stackTraces = false) {I : ed_I} {L : ed_L} {c a : Int} (rc : -2147483648 ≤ c ∧ c ≤ 2147483647) (ra : -2147483648 ≤ a ∧ a ≤ 2147483647) (hc : I 0 7 = 0 ∨ I 0 7 = 1) (hk : ∀ j, 0 ≤ j → j ≤ 40 → I 7 j = 0 ∨ I 7 j = 1) (hr : ∀ j, 0 ≤ j → j ≤ 40 → -1 ≤ I 17 j ∧ I 17 j ≤ 100000) {post : ed_post} (hA : ¬ ((1 ≤ c ∧ c ≤ 40) ∧ (1 ≤ a ∧ a ≤ 40) ∧ I 7 a ≠ 0) → post (.inr IAE) Yw I L) (hS : ((1 ≤ c ∧ c ≤ 40) ∧ (1 ≤ a ∧ a ≤ 40) ∧ I 7 a ≠ 0) → ¬ (I 0 7 = 0 ∧ ∀ j, 1 ≤ j → j ≤ 40 → j ≠ c → I 17 j ≠ a) → post (.inr ISE) Yw I L) (hn : ((1 ≤ c ∧ c ≤ 40) ∧ (1 ≤ a ∧ a ≤ 40) ∧ I 7 a ≠ 0) → (I 0 7 = 0 ∧ ∀ j, 1 ≤ j → j ≤ 40 → j ≠ c → I 17 j ≠ a) → post (.inl (none)) Yw (upI (upI (upI (upI I 15 c 1) 17 c a) 18 c 1) 0 6 0) (upI L 16 c 0)) : ed_Ct g l mD_gift 4 5 30 [.ref 0, .int (iZ c), .int (iZ a)] Yw I L post := by
  refine ed_Ct.of hl rfl (Nat.le_of_ble_eq_true rfl) (fun x _ C => ?_)
  show Gd g x post _ _ _ _ _ _ _ _ 0 [(0, _), (1, _), (2, _)] []
  refine r_ild C dD_gift_0 rfl ?_
  refine r_i2l C dD_gift_1 (by omega) ?_
  refine r_lk C dD_gift_2 ?_
  refine r_lk C dD_gift_3 ?_
  refine r_callS C lzD_requireWithin dD_gift_6 [_, _, _] [] rfl rfl (Nat.le_of_ble_eq_true rfl) ⟨(Nat.le_of_ble_eq_true rfl), (Nat.le_of_ble_eq_true rfl), (Nat.le_of_ble_eq_true rfl), (Nat.le_of_ble_eq_true rfl)⟩ rfl (cD_requireWithin C.2.2.2.2.2.1 rfl (by omega) (fun b6 => ?_) (fun b6 => ?_))
  · refine r_ald C dD_gift_9 rfl ?_
    refine r_ild C dD_gift_10 rfl ?_
    refine r_callV C lzD_requireAsset dD_gift_11 _ [_] [] rfl rfl rfl rfl rfl (Nat.le_of_ble_eq_true rfl) ⟨(Nat.le_of_ble_eq_true rfl), (Nat.le_of_ble_eq_true rfl), (Nat.le_of_ble_eq_true rfl), (Nat.le_of_ble_eq_true rfl)⟩ rfl (cD_requireAsset C.2.2.2.2.2.1 (by omega) hk (fun b11 => ?_) (fun b11 => ?_))
    · refine r_ald C dD_gift_14 rfl ?_
      refine r_callV C lzD_requireOpen dD_gift_15 _ [] [] rfl rfl rfl rfl rfl (Nat.le_of_ble_eq_true rfl) ⟨(Nat.le_of_ble_eq_true rfl), (Nat.le_of_ble_eq_true rfl), (Nat.le_of_ble_eq_true rfl), (Nat.le_of_ble_eq_true rfl)⟩ rfl (cD_requireOpen C.2.2.2.2.2.1 hc (fun b15 => ?_) (fun b15 => ?_))
      · refine r_ald C dD_gift_18 rfl ?_
        refine r_getR C dD_gift_19 rfl rfl ?_
        refine r_ild C dD_gift_22 rfl ?_
        refine r_ild C dD_gift_23 rfl ?_
        refine r_callV C lzC_anotherHas dD_gift_24 _ [_, _] [] rfl rfl rfl rfl rfl (Nat.le_of_ble_eq_true rfl) ⟨(Nat.le_of_ble_eq_true rfl), (Nat.le_of_ble_eq_true rfl), (Nat.le_of_ble_eq_true rfl), (Nat.le_of_ble_eq_true rfl)⟩ rfl (cC_anotherHas C.2.2.2.2.2.1 (by omega) (by omega) hr  (fun b24 => ?_) (fun b24 => ?_))
        · refine r_if_ne C dD_gift_27 (by omega) (fun b27 => ?_) (fun b27 => ?_)
          · refine r_ik C dD_gift_34 ?_
            refine r_callS C lzD_requireState dD_gift_35 [_] [] rfl rfl (Nat.le_of_ble_eq_true rfl) ⟨(Nat.le_of_ble_eq_true rfl), (Nat.le_of_ble_eq_true rfl), (Nat.le_of_ble_eq_true rfl), (Nat.le_of_ble_eq_true rfl)⟩ rfl (cD_requireState C.2.2.2.2.2.1 rfl (by omega) (fun h => absurd rfl h) (fun _ => ?_))
            exact gx_out C rfl (Nat.le_of_ble_eq_true rfl) (Nat.le_of_ble_eq_true rfl) (hS (by omega) (fun hh => by first | omega | (obtain ⟨j, j1, j2, j3, j4⟩ := b24; exact hh.2 j j1 j2 j3 j4)))
          · omega
        · refine r_if_ne C dD_gift_27 (by omega) (fun b27 => ?_) (fun b27 => ?_)
          · omega
          · refine r_ik C dD_gift_30 ?_
            refine r_goto C dD_gift_31 ?_
            refine r_callS C lzD_requireState dD_gift_35 [_] [] rfl rfl (Nat.le_of_ble_eq_true rfl) ⟨(Nat.le_of_ble_eq_true rfl), (Nat.le_of_ble_eq_true rfl), (Nat.le_of_ble_eq_true rfl), (Nat.le_of_ble_eq_true rfl)⟩ rfl (cD_requireState C.2.2.2.2.2.1 rfl (by omega) (fun _ => ?_) (fun h => absurd h (by decide)))
            refine r_ald C dD_gift_38 rfl ?_
            refine r_getR C dD_gift_39 rfl rfl ?_
            refine r_ild C dD_gift_42 rfl ?_
            refine r_ik C dD_gift_43 ?_
            refine r_lk C dD_gift_44 ?_
            refine r_ild C dD_gift_45 rfl ?_
            refine r_callV C lzC_write dD_gift_46 _ [_, _, _, _] [] rfl rfl rfl rfl rfl (Nat.le_of_ble_eq_true rfl) ⟨(Nat.le_of_ble_eq_true rfl), (Nat.le_of_ble_eq_true rfl), (Nat.le_of_ble_eq_true rfl), (Nat.le_of_ble_eq_true rfl)⟩ rfl (cC_write C.2.2.2.2.2.1 (by omega) ?_)
            refine r_ald C dD_gift_49 rfl ?_
            refine r_callV C lzD_noteFact dD_gift_50 _ [] [] rfl rfl rfl rfl rfl (Nat.le_of_ble_eq_true rfl) ⟨(Nat.le_of_ble_eq_true rfl), (Nat.le_of_ble_eq_true rfl), (Nat.le_of_ble_eq_true rfl), (Nat.le_of_ble_eq_true rfl)⟩ rfl (cD_noteFact C.2.2.2.2.2.1 ?_)
            exact r_vret C dD_gift_53 rfl (Nat.le_of_ble_eq_true rfl) (Nat.le_of_ble_eq_true rfl) (hn (by omega) ⟨by omega, b24⟩)
      · exact gx_out C rfl (Nat.le_of_ble_eq_true rfl) (Nat.le_of_ble_eq_true rfl) (hS (by omega) (fun hh => by first | omega | (obtain ⟨j, j1, j2, j3, j4⟩ := b24; exact hh.2 j j1 j2 j3 j4)))
    · exact gx_out C rfl (Nat.le_of_ble_eq_true rfl) (Nat.le_of_ble_eq_true rfl) (hA (by omega))
  · exact gx_out C rfl (Nat.le_of_ble_eq_true rfl) (Nat.le_of_ble_eq_true rfl) (hA (by omega))
set_option maxRecDepth 100000 in
set_option maxHeartbeats 4000000 in
theorem cD_legacy {g : ed_g} {l : Launch} (hl : l.stackTraces = false) {I : ed_I} {L : ed_L} {c v a : Int} (rc : -2147483648 ≤ c ∧ c ≤ 2147483647) (ra : -2147483648 ≤ a ∧ a ≤ 2147483647) (rv : -9223372036854775808 ≤ v ∧ v ≤ 9223372036854775807) (hc : I 0 7 = 0 ∨ I 0 7 = 1) (hk : ∀ j, 0 ≤ j → j ≤ 40 → I 7 j = 0 ∨ I 7 j = 1) (hfu : ∀ j, 0 ≤ j → j ≤ 40 → I 9 j = 0 ∨ I 9 j = 1) (hr : ∀ j, 0 ≤ j → j ≤ 40 → -1 ≤ I 17 j ∧ I 17 j ≤ 100000) (hr2 : ∀ j, 0 ≤ j → j ≤ 40 → -1 ≤ I 15 j ∧ I 15 j ≤ 100000) {post : ed_post} (hA : ¬ ((1 ≤ c ∧ c ≤ 40) ∧ (0 ≤ v ∧ v ≤ 1000000000000) ∧ (a = 0 ∨ ((1 ≤ a ∧ a ≤ 40) ∧ I 7 a ≠ 0 ∧ I 9 a ≠ 0))) → post (.inr IAE) Yw I L) (hS : ((1 ≤ c ∧ c ≤ 40) ∧ (0 ≤ v ∧ v ≤ 1000000000000) ∧ (a = 0 ∨ ((1 ≤ a ∧ a ≤ 40) ∧ I 7 a ≠ 0 ∧ I 9 a ≠ 0))) → ¬ (I 0 7 = 0 ∧ ∀ j, 1 ≤ j → j ≤ 40 → ¬ (j ≠ c ∧ I 15 j = 1 ∧ I 17 j = a)) → post (.inr ISE) Yw I L) (hn : ((1 ≤ c ∧ c ≤ 40) ∧ (0 ≤ v ∧ v ≤ 1000000000000) ∧ (a = 0 ∨ ((1 ≤ a ∧ a ≤ 40) ∧ I 7 a ≠ 0 ∧ I 9 a ≠ 0))) → (I 0 7 = 0 ∧ ∀ j, 1 ≤ j → j ≤ 40 → ¬ (j ≠ c ∧ I 15 j = 1 ∧ I 17 j = a)) → post (.inl (none)) Yw (upI (upI (upI (upI I 15 c 2) 17 c a) 18 c 1) 0 6 0) (upI L 16 c v)) : ed_Ct g l mD_legacy 4 7 42 [.ref 0, .int (iZ c), .long (lZ v), .int (iZ a)] Yw I L post := by
  refine ed_Ct.of hl rfl (Nat.le_of_ble_eq_true rfl) (fun x _ C => ?_)
  show Gd g x post _ _ _ _ _ _ _ _ 0 [(0, _), (1, _), (2, _), (4, _)] []
  have hfa := fun (h : 0 ≤ a ∧ a ≤ 40) => hfu a h.1 h.2
  refine r_ild C dD_legacy_0 rfl ?_
  refine r_i2l C dD_legacy_1 (by omega) ?_
  refine r_lk C dD_legacy_2 ?_
  refine r_lk C dD_legacy_3 ?_
  refine r_callS C lzD_requireWithin dD_legacy_6 [_, _, _] [] rfl rfl (Nat.le_of_ble_eq_true rfl) ⟨(Nat.le_of_ble_eq_true rfl), (Nat.le_of_ble_eq_true rfl), (Nat.le_of_ble_eq_true rfl), (Nat.le_of_ble_eq_true rfl)⟩ rfl (cD_requireWithin C.2.2.2.2.2.1 rfl (by omega) (fun b6 => ?_) (fun b6 => ?_))
  · refine r_lld C dD_legacy_9 rfl ?_
    refine r_lk C dD_legacy_10 ?_
    refine r_lk C dD_legacy_11 ?_
    refine r_callS C lzD_requireWithin dD_legacy_14 [_, _, _] [] rfl rfl (Nat.le_of_ble_eq_true rfl) ⟨(Nat.le_of_ble_eq_true rfl), (Nat.le_of_ble_eq_true rfl), (Nat.le_of_ble_eq_true rfl), (Nat.le_of_ble_eq_true rfl)⟩ rfl (cD_requireWithin C.2.2.2.2.2.1 rfl (by omega) (fun b14 => ?_) (fun b14 => ?_))
    · refine r_ald C dD_legacy_17 rfl ?_
      refine r_ild C dD_legacy_18 rfl ?_
      refine r_callV C lzD_requireAssetOrNone dD_legacy_20 _ [_] [] rfl rfl rfl rfl rfl (Nat.le_of_ble_eq_true rfl) ⟨(Nat.le_of_ble_eq_true rfl), (Nat.le_of_ble_eq_true rfl), (Nat.le_of_ble_eq_true rfl), (Nat.le_of_ble_eq_true rfl)⟩ rfl (cD_requireAssetOrNone C.2.2.2.2.2.1 (by omega) hk (fun b20 => ?_) (fun b20 => ?_))
      · refine r_ild C dD_legacy_23 rfl ?_
        refine r_if_eq C dD_legacy_25 (by omega) (fun b25 => ?_) (fun b25 => ?_)
        · refine r_ik C dD_legacy_41 ?_
          refine r_goto C dD_legacy_42 ?_
          refine r_callS C lzD_requireArgument dD_legacy_46 [_] [] rfl rfl (Nat.le_of_ble_eq_true rfl) ⟨(Nat.le_of_ble_eq_true rfl), (Nat.le_of_ble_eq_true rfl), (Nat.le_of_ble_eq_true rfl), (Nat.le_of_ble_eq_true rfl)⟩ rfl (cD_requireArgument C.2.2.2.2.2.1 rfl (by omega) (fun _ => ?_) (fun h => absurd h (by decide)))
          refine r_ald C dD_legacy_49 rfl ?_
          refine r_callV C lzD_requireOpen dD_legacy_50 _ [] [] rfl rfl rfl rfl rfl (Nat.le_of_ble_eq_true rfl) ⟨(Nat.le_of_ble_eq_true rfl), (Nat.le_of_ble_eq_true rfl), (Nat.le_of_ble_eq_true rfl), (Nat.le_of_ble_eq_true rfl)⟩ rfl (cD_requireOpen C.2.2.2.2.2.1 hc (fun b50 => ?_) (fun b50 => ?_))
          · refine r_ald C dD_legacy_53 rfl ?_
            refine r_getR C dD_legacy_54 rfl rfl ?_
            refine r_ild C dD_legacy_57 rfl ?_
            refine r_ild C dD_legacy_58 rfl ?_
            refine r_callV C lzC_anotherGives dD_legacy_60 _ [_, _] [] rfl rfl rfl rfl rfl (Nat.le_of_ble_eq_true rfl) ⟨(Nat.le_of_ble_eq_true rfl), (Nat.le_of_ble_eq_true rfl), (Nat.le_of_ble_eq_true rfl), (Nat.le_of_ble_eq_true rfl)⟩ rfl (cC_anotherGives C.2.2.2.2.2.1 (by omega) (by omega) hr hr2 (fun b60 => ?_) (fun b60 => ?_))
            · refine r_if_ne C dD_legacy_63 (by omega) (fun b63 => ?_) (fun b63 => ?_)
              · refine r_ik C dD_legacy_70 ?_
                refine r_callS C lzD_requireState dD_legacy_71 [_] [] rfl rfl (Nat.le_of_ble_eq_true rfl) ⟨(Nat.le_of_ble_eq_true rfl), (Nat.le_of_ble_eq_true rfl), (Nat.le_of_ble_eq_true rfl), (Nat.le_of_ble_eq_true rfl)⟩ rfl (cD_requireState C.2.2.2.2.2.1 rfl (by omega) (fun h => absurd rfl h) (fun _ => ?_))
                exact gx_out C rfl (Nat.le_of_ble_eq_true rfl) (Nat.le_of_ble_eq_true rfl) (hS (by omega) (fun hh => by first | omega | (obtain ⟨j, j1, j2, j3, j4, j5⟩ := b60; exact hh.2 j j1 j2 ⟨j3, j4, j5⟩)))
              · omega
            · refine r_if_ne C dD_legacy_63 (by omega) (fun b63 => ?_) (fun b63 => ?_)
              · omega
              · refine r_ik C dD_legacy_66 ?_
                refine r_goto C dD_legacy_67 ?_
                refine r_callS C lzD_requireState dD_legacy_71 [_] [] rfl rfl (Nat.le_of_ble_eq_true rfl) ⟨(Nat.le_of_ble_eq_true rfl), (Nat.le_of_ble_eq_true rfl), (Nat.le_of_ble_eq_true rfl), (Nat.le_of_ble_eq_true rfl)⟩ rfl (cD_requireState C.2.2.2.2.2.1 rfl (by omega) (fun _ => ?_) (fun h => absurd h (by decide)))
                refine r_ald C dD_legacy_74 rfl ?_
                refine r_getR C dD_legacy_75 rfl rfl ?_
                refine r_ild C dD_legacy_78 rfl ?_
                refine r_ik C dD_legacy_79 ?_
                refine r_lld C dD_legacy_80 rfl ?_
                refine r_ild C dD_legacy_81 rfl ?_
                refine r_callV C lzC_write dD_legacy_83 _ [_, _, _, _] [] rfl rfl rfl rfl rfl (Nat.le_of_ble_eq_true rfl) ⟨(Nat.le_of_ble_eq_true rfl), (Nat.le_of_ble_eq_true rfl), (Nat.le_of_ble_eq_true rfl), (Nat.le_of_ble_eq_true rfl)⟩ rfl (cC_write C.2.2.2.2.2.1 (by omega) ?_)
                refine r_ald C dD_legacy_86 rfl ?_
                refine r_callV C lzD_noteFact dD_legacy_87 _ [] [] rfl rfl rfl rfl rfl (Nat.le_of_ble_eq_true rfl) ⟨(Nat.le_of_ble_eq_true rfl), (Nat.le_of_ble_eq_true rfl), (Nat.le_of_ble_eq_true rfl), (Nat.le_of_ble_eq_true rfl)⟩ rfl (cD_noteFact C.2.2.2.2.2.1 ?_)
                exact r_vret C dD_legacy_90 rfl (Nat.le_of_ble_eq_true rfl) (Nat.le_of_ble_eq_true rfl) (hn (by omega) ⟨by omega, b60⟩)
          · exact gx_out C rfl (Nat.le_of_ble_eq_true rfl) (Nat.le_of_ble_eq_true rfl) (hS (by omega) (fun hh => by first | omega | (obtain ⟨j, j1, j2, j3, j4, j5⟩ := b60; exact hh.2 j j1 j2 ⟨j3, j4, j5⟩)))
        · refine r_ald C dD_legacy_28 rfl ?_
          refine r_getR C dD_legacy_29 rfl rfl ?_
          refine r_getR C dD_legacy_32 rfl rfl ?_
          refine r_ild C dD_legacy_35 rfl ?_
          refine r_zald C dD_legacy_37 rfl ⟨by omega, by omega⟩ (by decide) ?_
          refine r_if_eq C dD_legacy_38 (by omega) (fun b38 => ?_) (fun b38 => ?_)
          · refine r_ik C dD_legacy_45 ?_
            refine r_callS C lzD_requireArgument dD_legacy_46 [_] [] rfl rfl (Nat.le_of_ble_eq_true rfl) ⟨(Nat.le_of_ble_eq_true rfl), (Nat.le_of_ble_eq_true rfl), (Nat.le_of_ble_eq_true rfl), (Nat.le_of_ble_eq_true rfl)⟩ rfl (cD_requireArgument C.2.2.2.2.2.1 rfl (by omega) (fun h => absurd rfl h) (fun _ => ?_))
            exact gx_out C rfl (Nat.le_of_ble_eq_true rfl) (Nat.le_of_ble_eq_true rfl) (hA (by omega))
          · refine r_ik C dD_legacy_41 ?_
            refine r_goto C dD_legacy_42 ?_
            refine r_callS C lzD_requireArgument dD_legacy_46 [_] [] rfl rfl (Nat.le_of_ble_eq_true rfl) ⟨(Nat.le_of_ble_eq_true rfl), (Nat.le_of_ble_eq_true rfl), (Nat.le_of_ble_eq_true rfl), (Nat.le_of_ble_eq_true rfl)⟩ rfl (cD_requireArgument C.2.2.2.2.2.1 rfl (by omega) (fun _ => ?_) (fun h => absurd h (by decide)))
            refine r_ald C dD_legacy_49 rfl ?_
            refine r_callV C lzD_requireOpen dD_legacy_50 _ [] [] rfl rfl rfl rfl rfl (Nat.le_of_ble_eq_true rfl) ⟨(Nat.le_of_ble_eq_true rfl), (Nat.le_of_ble_eq_true rfl), (Nat.le_of_ble_eq_true rfl), (Nat.le_of_ble_eq_true rfl)⟩ rfl (cD_requireOpen C.2.2.2.2.2.1 hc (fun b50 => ?_) (fun b50 => ?_))
            · refine r_ald C dD_legacy_53 rfl ?_
              refine r_getR C dD_legacy_54 rfl rfl ?_
              refine r_ild C dD_legacy_57 rfl ?_
              refine r_ild C dD_legacy_58 rfl ?_
              refine r_callV C lzC_anotherGives dD_legacy_60 _ [_, _] [] rfl rfl rfl rfl rfl (Nat.le_of_ble_eq_true rfl) ⟨(Nat.le_of_ble_eq_true rfl), (Nat.le_of_ble_eq_true rfl), (Nat.le_of_ble_eq_true rfl), (Nat.le_of_ble_eq_true rfl)⟩ rfl (cC_anotherGives C.2.2.2.2.2.1 (by omega) (by omega) hr hr2 (fun b60 => ?_) (fun b60 => ?_))
              · refine r_if_ne C dD_legacy_63 (by omega) (fun b63 => ?_) (fun b63 => ?_)
                · refine r_ik C dD_legacy_70 ?_
                  refine r_callS C lzD_requireState dD_legacy_71 [_] [] rfl rfl (Nat.le_of_ble_eq_true rfl) ⟨(Nat.le_of_ble_eq_true rfl), (Nat.le_of_ble_eq_true rfl), (Nat.le_of_ble_eq_true rfl), (Nat.le_of_ble_eq_true rfl)⟩ rfl (cD_requireState C.2.2.2.2.2.1 rfl (by omega) (fun h => absurd rfl h) (fun _ => ?_))
                  exact gx_out C rfl (Nat.le_of_ble_eq_true rfl) (Nat.le_of_ble_eq_true rfl) (hS (by omega) (fun hh => by first | omega | (obtain ⟨j, j1, j2, j3, j4, j5⟩ := b60; exact hh.2 j j1 j2 ⟨j3, j4, j5⟩)))
                · omega
              · refine r_if_ne C dD_legacy_63 (by omega) (fun b63 => ?_) (fun b63 => ?_)
                · omega
                · refine r_ik C dD_legacy_66 ?_
                  refine r_goto C dD_legacy_67 ?_
                  refine r_callS C lzD_requireState dD_legacy_71 [_] [] rfl rfl (Nat.le_of_ble_eq_true rfl) ⟨(Nat.le_of_ble_eq_true rfl), (Nat.le_of_ble_eq_true rfl), (Nat.le_of_ble_eq_true rfl), (Nat.le_of_ble_eq_true rfl)⟩ rfl (cD_requireState C.2.2.2.2.2.1 rfl (by omega) (fun _ => ?_) (fun h => absurd h (by decide)))
                  refine r_ald C dD_legacy_74 rfl ?_
                  refine r_getR C dD_legacy_75 rfl rfl ?_
                  refine r_ild C dD_legacy_78 rfl ?_
                  refine r_ik C dD_legacy_79 ?_
                  refine r_lld C dD_legacy_80 rfl ?_
                  refine r_ild C dD_legacy_81 rfl ?_
                  refine r_callV C lzC_write dD_legacy_83 _ [_, _, _, _] [] rfl rfl rfl rfl rfl (Nat.le_of_ble_eq_true rfl) ⟨(Nat.le_of_ble_eq_true rfl), (Nat.le_of_ble_eq_true rfl), (Nat.le_of_ble_eq_true rfl), (Nat.le_of_ble_eq_true rfl)⟩ rfl (cC_write C.2.2.2.2.2.1 (by omega) ?_)
                  refine r_ald C dD_legacy_86 rfl ?_
                  refine r_callV C lzD_noteFact dD_legacy_87 _ [] [] rfl rfl rfl rfl rfl (Nat.le_of_ble_eq_true rfl) ⟨(Nat.le_of_ble_eq_true rfl), (Nat.le_of_ble_eq_true rfl), (Nat.le_of_ble_eq_true rfl), (Nat.le_of_ble_eq_true rfl)⟩ rfl (cD_noteFact C.2.2.2.2.2.1 ?_)
                  exact r_vret C dD_legacy_90 rfl (Nat.le_of_ble_eq_true rfl) (Nat.le_of_ble_eq_true rfl) (hn (by omega) ⟨by omega, b60⟩)
            · exact gx_out C rfl (Nat.le_of_ble_eq_true rfl) (Nat.le_of_ble_eq_true rfl) (hS (by omega) (fun hh => by first | omega | (obtain ⟨j, j1, j2, j3, j4, j5⟩ := b60; exact hh.2 j j1 j2 ⟨j3, j4, j5⟩)))
      · exact gx_out C rfl (Nat.le_of_ble_eq_true rfl) (Nat.le_of_ble_eq_true rfl) (hA (by omega))
    · exact gx_out C rfl (Nat.le_of_ble_eq_true rfl) (Nat.le_of_ble_eq_true rfl) (hA (by omega))
  · exact gx_out C rfl (Nat.le_of_ble_eq_true rfl) (Nat.le_of_ble_eq_true rfl) (hA (by omega))
set_option maxRecDepth 100000 in
set_option maxHeartbeats 4000000 in
theorem cD_annuity {g : ed_g} {l : Launch} (hl : l.stackTraces = false) {I : ed_I} {L : ed_L} {c y a : Int} (rc : -2147483648 ≤ c ∧ c ≤ 2147483647) (ra : -2147483648 ≤ a ∧ a ≤ 2147483647) (ry : -9223372036854775808 ≤ y ∧ y ≤ 9223372036854775807) (hc : I 0 7 = 0 ∨ I 0 7 = 1) {post : ed_post} (hA : ¬ ((1 ≤ c ∧ c ≤ 40) ∧ (0 ≤ y ∧ y ≤ 1000000000) ∧ 0 ≤ a ∧ a ≤ 99) → post (.inr IAE) Yw I L) (hS : ((1 ≤ c ∧ c ≤ 40) ∧ (0 ≤ y ∧ y ≤ 1000000000) ∧ 0 ≤ a ∧ a ≤ 99) → ¬ (I 0 7 = 0) → post (.inr ISE) Yw I L) (hn : ((1 ≤ c ∧ c ≤ 40) ∧ (0 ≤ y ∧ y ≤ 1000000000) ∧ 0 ≤ a ∧ a ≤ 99) → (I 0 7 = 0) → post (.inl (none)) Yw (upI (upI (upI (upI I 15 c 3) 17 c 0) 18 c 1) 0 6 0) (upI L 16 c (anV y a))) : ed_Ct g l mD_annuity 4 4 24 [.ref 0, .int (iZ c), .long (lZ y), .int (iZ a)] Yw I L post := by
  refine ed_Ct.of hl rfl (Nat.le_of_ble_eq_true rfl) (fun x _ C => ?_)
  show Gd g x post _ _ _ _ _ _ _ _ 0 [(0, _), (1, _), (2, _), (4, _)] []
  refine r_ild C dD_annuity_0 rfl ?_
  refine r_i2l C dD_annuity_1 (by omega) ?_
  refine r_lk C dD_annuity_2 ?_
  refine r_lk C dD_annuity_3 ?_
  refine r_callS C lzD_requireWithin dD_annuity_6 [_, _, _] [] rfl rfl (Nat.le_of_ble_eq_true rfl) ⟨(Nat.le_of_ble_eq_true rfl), (Nat.le_of_ble_eq_true rfl), (Nat.le_of_ble_eq_true rfl), (Nat.le_of_ble_eq_true rfl)⟩ rfl (cD_requireWithin C.2.2.2.2.2.1 rfl (by omega) (fun b6 => ?_) (fun b6 => ?_))
  · refine r_lld C dD_annuity_9 rfl ?_
    refine r_lk C dD_annuity_10 ?_
    refine r_lk C dD_annuity_11 ?_
    refine r_callS C lzD_requireWithin dD_annuity_14 [_, _, _] [] rfl rfl (Nat.le_of_ble_eq_true rfl) ⟨(Nat.le_of_ble_eq_true rfl), (Nat.le_of_ble_eq_true rfl), (Nat.le_of_ble_eq_true rfl), (Nat.le_of_ble_eq_true rfl)⟩ rfl (cD_requireWithin C.2.2.2.2.2.1 rfl (by omega) (fun b14 => ?_) (fun b14 => ?_))
    · refine r_ild C dD_annuity_17 rfl ?_
      refine r_i2l C dD_annuity_19 (by omega) ?_
      refine r_lk C dD_annuity_20 ?_
      refine r_lk C dD_annuity_21 ?_
      refine r_callS C lzD_requireWithin dD_annuity_24 [_, _, _] [] rfl rfl (Nat.le_of_ble_eq_true rfl) ⟨(Nat.le_of_ble_eq_true rfl), (Nat.le_of_ble_eq_true rfl), (Nat.le_of_ble_eq_true rfl), (Nat.le_of_ble_eq_true rfl)⟩ rfl (cD_requireWithin C.2.2.2.2.2.1 rfl (by omega) (fun b24 => ?_) (fun b24 => ?_))
      · refine r_ald C dD_annuity_27 rfl ?_
        refine r_callV C lzD_requireOpen dD_annuity_28 _ [] [] rfl rfl rfl rfl rfl (Nat.le_of_ble_eq_true rfl) ⟨(Nat.le_of_ble_eq_true rfl), (Nat.le_of_ble_eq_true rfl), (Nat.le_of_ble_eq_true rfl), (Nat.le_of_ble_eq_true rfl)⟩ rfl (cD_requireOpen C.2.2.2.2.2.1 hc (fun b28 => ?_) (fun b28 => ?_))
        · refine r_ald C dD_annuity_31 rfl ?_
          refine r_getR C dD_annuity_32 rfl rfl ?_
          refine r_ild C dD_annuity_35 rfl ?_
          refine r_ik C dD_annuity_36 ?_
          refine r_lld C dD_annuity_37 rfl ?_
          refine r_ild C dD_annuity_38 rfl ?_
          refine r_callS C lzD_annuityValue dD_annuity_40 [_, _] [_, _, _] rfl rfl (Nat.le_of_ble_eq_true rfl) ⟨(Nat.le_of_ble_eq_true rfl), (Nat.le_of_ble_eq_true rfl), (Nat.le_of_ble_eq_true rfl), (Nat.le_of_ble_eq_true rfl)⟩ rfl (cD_annuityValue C.2.2.2.2.2.1 (by omega) (by omega) ?_)
          refine r_ik C dD_annuity_43 ?_
          refine r_callV C lzC_write dD_annuity_44 _ [_, _, _, _] [] rfl rfl rfl rfl rfl (Nat.le_of_ble_eq_true rfl) ⟨(Nat.le_of_ble_eq_true rfl), (Nat.le_of_ble_eq_true rfl), (Nat.le_of_ble_eq_true rfl), (Nat.le_of_ble_eq_true rfl)⟩ rfl (cC_write C.2.2.2.2.2.1 (by omega) ?_)
          refine r_ald C dD_annuity_47 rfl ?_
          refine r_callV C lzD_noteFact dD_annuity_48 _ [] [] rfl rfl rfl rfl rfl (Nat.le_of_ble_eq_true rfl) ⟨(Nat.le_of_ble_eq_true rfl), (Nat.le_of_ble_eq_true rfl), (Nat.le_of_ble_eq_true rfl), (Nat.le_of_ble_eq_true rfl)⟩ rfl (cD_noteFact C.2.2.2.2.2.1 ?_)
          exact r_vret C dD_annuity_51 rfl (Nat.le_of_ble_eq_true rfl) (Nat.le_of_ble_eq_true rfl) (hn (by omega) (by omega))
        · exact gx_out C rfl (Nat.le_of_ble_eq_true rfl) (Nat.le_of_ble_eq_true rfl) (hS (by omega) (by omega))
      · exact gx_out C rfl (Nat.le_of_ble_eq_true rfl) (Nat.le_of_ble_eq_true rfl) (hA (by omega))
    · exact gx_out C rfl (Nat.le_of_ble_eq_true rfl) (Nat.le_of_ble_eq_true rfl) (hA (by omega))
  · exact gx_out C rfl (Nat.le_of_ble_eq_true rfl) (Nat.le_of_ble_eq_true rfl) (hA (by omega))
set_option maxRecDepth 100000 in
set_option maxHeartbeats 4000000 in
theorem cD_residue {g : ed_g} {l : Launch} (hl : l.stackTraces = false) {I : ed_I} {L : ed_L} {c a : Int} (rc : -2147483648 ≤ c ∧ c ≤ 2147483647) (ra : -2147483648 ≤ a ∧ a ≤ 2147483647) (hc : I 0 7 = 0 ∨ I 0 7 = 1) {post : ed_post} (hA : ¬ ((1 ≤ c ∧ c ≤ 40) ∧ 1 ≤ a ∧ a ≤ 1000) → post (.inr IAE) Yw I L) (hS : ((1 ≤ c ∧ c ≤ 40) ∧ 1 ≤ a ∧ a ≤ 1000) → ¬ (I 0 7 = 0) → post (.inr ISE) Yw I L) (hn : ((1 ≤ c ∧ c ≤ 40) ∧ 1 ≤ a ∧ a ≤ 1000) → (I 0 7 = 0) → post (.inl (none)) Yw (upI (upI (upI (upI I 15 c 4) 17 c 0) 18 c 1) 0 6 0) (upI L 16 c a)) : ed_Ct g l mD_residue 4 3 18 [.ref 0, .int (iZ c), .int (iZ a)] Yw I L post := by
  refine ed_Ct.of hl rfl (Nat.le_of_ble_eq_true rfl) (fun x _ C => ?_)
  show Gd g x post _ _ _ _ _ _ _ _ 0 [(0, _), (1, _), (2, _)] []
  refine r_ild C dD_residue_0 rfl ?_
  refine r_i2l C dD_residue_1 (by omega) ?_
  refine r_lk C dD_residue_2 ?_
  refine r_lk C dD_residue_3 ?_
  refine r_callS C lzD_requireWithin dD_residue_6 [_, _, _] [] rfl rfl (Nat.le_of_ble_eq_true rfl) ⟨(Nat.le_of_ble_eq_true rfl), (Nat.le_of_ble_eq_true rfl), (Nat.le_of_ble_eq_true rfl), (Nat.le_of_ble_eq_true rfl)⟩ rfl (cD_requireWithin C.2.2.2.2.2.1 rfl (by omega) (fun b6 => ?_) (fun b6 => ?_))
  · refine r_ild C dD_residue_9 rfl ?_
    refine r_i2l C dD_residue_10 (by omega) ?_
    refine r_lk C dD_residue_11 ?_
    refine r_lk C dD_residue_12 ?_
    refine r_callS C lzD_requireWithin dD_residue_15 [_, _, _] [] rfl rfl (Nat.le_of_ble_eq_true rfl) ⟨(Nat.le_of_ble_eq_true rfl), (Nat.le_of_ble_eq_true rfl), (Nat.le_of_ble_eq_true rfl), (Nat.le_of_ble_eq_true rfl)⟩ rfl (cD_requireWithin C.2.2.2.2.2.1 rfl (by omega) (fun b15 => ?_) (fun b15 => ?_))
    · refine r_ald C dD_residue_18 rfl ?_
      refine r_callV C lzD_requireOpen dD_residue_19 _ [] [] rfl rfl rfl rfl rfl (Nat.le_of_ble_eq_true rfl) ⟨(Nat.le_of_ble_eq_true rfl), (Nat.le_of_ble_eq_true rfl), (Nat.le_of_ble_eq_true rfl), (Nat.le_of_ble_eq_true rfl)⟩ rfl (cD_requireOpen C.2.2.2.2.2.1 hc (fun b19 => ?_) (fun b19 => ?_))
      · refine r_ald C dD_residue_22 rfl ?_
        refine r_getR C dD_residue_23 rfl rfl ?_
        refine r_ild C dD_residue_26 rfl ?_
        refine r_ik C dD_residue_27 ?_
        refine r_ild C dD_residue_28 rfl ?_
        refine r_i2l C dD_residue_29 (by omega) ?_
        refine r_ik C dD_residue_30 ?_
        refine r_callV C lzC_write dD_residue_31 _ [_, _, _, _] [] rfl rfl rfl rfl rfl (Nat.le_of_ble_eq_true rfl) ⟨(Nat.le_of_ble_eq_true rfl), (Nat.le_of_ble_eq_true rfl), (Nat.le_of_ble_eq_true rfl), (Nat.le_of_ble_eq_true rfl)⟩ rfl (cC_write C.2.2.2.2.2.1 (by omega) ?_)
        refine r_ald C dD_residue_34 rfl ?_
        refine r_callV C lzD_noteFact dD_residue_35 _ [] [] rfl rfl rfl rfl rfl (Nat.le_of_ble_eq_true rfl) ⟨(Nat.le_of_ble_eq_true rfl), (Nat.le_of_ble_eq_true rfl), (Nat.le_of_ble_eq_true rfl), (Nat.le_of_ble_eq_true rfl)⟩ rfl (cD_noteFact C.2.2.2.2.2.1 ?_)
        exact r_vret C dD_residue_38 rfl (Nat.le_of_ble_eq_true rfl) (Nat.le_of_ble_eq_true rfl) (hn (by omega) (by omega))
      · exact gx_out C rfl (Nat.le_of_ble_eq_true rfl) (Nat.le_of_ble_eq_true rfl) (hS (by omega) (by omega))
    · exact gx_out C rfl (Nat.le_of_ble_eq_true rfl) (Nat.le_of_ble_eq_true rfl) (hA (by omega))
  · exact gx_out C rfl (Nat.le_of_ble_eq_true rfl) (Nat.le_of_ble_eq_true rfl) (hA (by omega))
set_option maxRecDepth 100000 in
set_option maxHeartbeats 4000000 in
theorem cD_strike {g : ed_g} {l : Launch} (hl : l.stackTraces = false) {I : ed_I} {L : ed_L} {c : Int} (rc : -2147483648 ≤ c ∧ c ≤ 2147483647) (hc : I 0 7 = 0 ∨ I 0 7 = 1) {post : ed_post} (hA : ¬ (1 ≤ c ∧ c ≤ 40) → post (.inr IAE) Yw I L) (hS : (1 ≤ c ∧ c ≤ 40) → ¬ (I 0 7 = 0) → post (.inr ISE) Yw I L) (hn : (1 ≤ c ∧ c ≤ 40) → (I 0 7 = 0) → post (.inl (none)) Yw (upI (upI (upI (upI I 15 c 0) 17 c 0) 18 c 1) 0 6 0) (upI L 16 c 0)) : ed_Ct g l mD_strike 4 2 12 [.ref 0, .int (iZ c)] Yw I L post := by
  refine ed_Ct.of hl rfl (Nat.le_of_ble_eq_true rfl) (fun x _ C => ?_)
  show Gd g x post _ _ _ _ _ _ _ _ 0 [(0, _), (1, _)] []
  refine r_ild C dD_strike_0 rfl ?_
  refine r_i2l C dD_strike_1 (by omega) ?_
  refine r_lk C dD_strike_2 ?_
  refine r_lk C dD_strike_3 ?_
  refine r_callS C lzD_requireWithin dD_strike_6 [_, _, _] [] rfl rfl (Nat.le_of_ble_eq_true rfl) ⟨(Nat.le_of_ble_eq_true rfl), (Nat.le_of_ble_eq_true rfl), (Nat.le_of_ble_eq_true rfl), (Nat.le_of_ble_eq_true rfl)⟩ rfl (cD_requireWithin C.2.2.2.2.2.1 rfl (by omega) (fun b6 => ?_) (fun b6 => ?_))
  · refine r_ald C dD_strike_9 rfl ?_
    refine r_callV C lzD_requireOpen dD_strike_10 _ [] [] rfl rfl rfl rfl rfl (Nat.le_of_ble_eq_true rfl) ⟨(Nat.le_of_ble_eq_true rfl), (Nat.le_of_ble_eq_true rfl), (Nat.le_of_ble_eq_true rfl), (Nat.le_of_ble_eq_true rfl)⟩ rfl (cD_requireOpen C.2.2.2.2.2.1 hc (fun b10 => ?_) (fun b10 => ?_))
    · refine r_ald C dD_strike_13 rfl ?_
      refine r_getR C dD_strike_14 rfl rfl ?_
      refine r_ild C dD_strike_17 rfl ?_
      refine r_ik C dD_strike_18 ?_
      refine r_lk C dD_strike_19 ?_
      refine r_ik C dD_strike_20 ?_
      refine r_callV C lzC_write dD_strike_21 _ [_, _, _, _] [] rfl rfl rfl rfl rfl (Nat.le_of_ble_eq_true rfl) ⟨(Nat.le_of_ble_eq_true rfl), (Nat.le_of_ble_eq_true rfl), (Nat.le_of_ble_eq_true rfl), (Nat.le_of_ble_eq_true rfl)⟩ rfl (cC_write C.2.2.2.2.2.1 (by omega) ?_)
      refine r_ald C dD_strike_24 rfl ?_
      refine r_callV C lzD_noteFact dD_strike_25 _ [] [] rfl rfl rfl rfl rfl (Nat.le_of_ble_eq_true rfl) ⟨(Nat.le_of_ble_eq_true rfl), (Nat.le_of_ble_eq_true rfl), (Nat.le_of_ble_eq_true rfl), (Nat.le_of_ble_eq_true rfl)⟩ rfl (cD_noteFact C.2.2.2.2.2.1 ?_)
      exact r_vret C dD_strike_28 rfl (Nat.le_of_ble_eq_true rfl) (Nat.le_of_ble_eq_true rfl) (hn (by omega) (by omega))
    · exact gx_out C rfl (Nat.le_of_ble_eq_true rfl) (Nat.le_of_ble_eq_true rfl) (hS (by omega) (by omega))
  · exact gx_out C rfl (Nat.le_of_ble_eq_true rfl) (Nat.le_of_ble_eq_true rfl) (hA (by omega))
theorem ed_row : ∀ n : Nat, n < 41 → ed_lay[20 + n]? = some (.inr (0, 5, 0))
  | 0, _ => rfl
  | 1, _ => rfl
  | 2, _ => rfl
  | 3, _ => rfl
  | 4, _ => rfl
  | 5, _ => rfl
  | 6, _ => rfl
  | 7, _ => rfl
  | 8, _ => rfl
  | 9, _ => rfl
  | 10, _ => rfl
  | 11, _ => rfl
  | 12, _ => rfl
  | 13, _ => rfl
  | 14, _ => rfl
  | 15, _ => rfl
  | 16, _ => rfl
  | 17, _ => rfl
  | 18, _ => rfl
  | 19, _ => rfl
  | 20, _ => rfl
  | 21, _ => rfl
  | 22, _ => rfl
  | 23, _ => rfl
  | 24, _ => rfl
  | 25, _ => rfl
  | 26, _ => rfl
  | 27, _ => rfl
  | 28, _ => rfl
  | 29, _ => rfl
  | 30, _ => rfl
  | 31, _ => rfl
  | 32, _ => rfl
  | 33, _ => rfl
  | 34, _ => rfl
  | 35, _ => rfl
  | 36, _ => rfl
  | 37, _ => rfl
  | 38, _ => rfl
  | 39, _ => rfl
  | 40, _ => rfl
  | n + 41, h => absurd h (by omega)
set_option maxRecDepth 100000 in
set_option maxHeartbeats 4000000 in
theorem cD_taker {g : ed_g} {l : Launch} (hl : l.stackTraces = false) {I : ed_I} {L : ed_L} {c r p : Int} (rc : -2147483648 ≤ c ∧ c ≤ 2147483647) (rr : -2147483648 ≤ r ∧ r ≤ 2147483647) (rp : -2147483648 ≤ p ∧ p ≤ 2147483647) (hc : I 0 7 = 0 ∨ I 0 7 = 1) {post : ed_post} (hA : ¬ ((1 ≤ c ∧ c ≤ 40) ∧ (1 ≤ r ∧ r ≤ 4) ∧ 0 ≤ p ∧ p ≤ 40) → post (.inr IAE) Yw I L) (hS : ((1 ≤ c ∧ c ≤ 40) ∧ (1 ≤ r ∧ r ≤ 4) ∧ 0 ≤ p ∧ p ≤ 40) → ¬ (I 0 7 = 0) → post (.inr ISE) Yw I L) (hn : ((1 ≤ c ∧ c ≤ 40) ∧ (1 ≤ r ∧ r ≤ 4) ∧ 0 ≤ p ∧ p ≤ 40) → (I 0 7 = 0) → post (.inl (none)) Yw (upI (upI I (20 + c.toNat) r p) 0 6 0) L) : ed_Ct g l mD_taker 4 4 24 [.ref 0, .int (iZ c), .int (iZ r), .int (iZ p)] Yw I L post := by
  refine ed_Ct.of hl rfl (Nat.le_of_ble_eq_true rfl) (fun x _ C => ?_)
  show Gd g x post _ _ _ _ _ _ _ _ 0 [(0, _), (1, _), (2, _), (3, _)] []
  refine r_ild C dD_taker_0 rfl ?_
  refine r_i2l C dD_taker_1 (by omega) ?_
  refine r_lk C dD_taker_2 ?_
  refine r_lk C dD_taker_3 ?_
  refine r_callS C lzD_requireWithin dD_taker_6 [_, _, _] [] rfl rfl (Nat.le_of_ble_eq_true rfl) ⟨(Nat.le_of_ble_eq_true rfl), (Nat.le_of_ble_eq_true rfl), (Nat.le_of_ble_eq_true rfl), (Nat.le_of_ble_eq_true rfl)⟩ rfl (cD_requireWithin C.2.2.2.2.2.1 rfl (by omega) (fun b6 => ?_) (fun b6 => ?_))
  · refine r_ild C dD_taker_9 rfl ?_
    refine r_i2l C dD_taker_10 (by omega) ?_
    refine r_lk C dD_taker_11 ?_
    refine r_lk C dD_taker_12 ?_
    refine r_callS C lzD_requireWithin dD_taker_15 [_, _, _] [] rfl rfl (Nat.le_of_ble_eq_true rfl) ⟨(Nat.le_of_ble_eq_true rfl), (Nat.le_of_ble_eq_true rfl), (Nat.le_of_ble_eq_true rfl), (Nat.le_of_ble_eq_true rfl)⟩ rfl (cD_requireWithin C.2.2.2.2.2.1 rfl (by omega) (fun b15 => ?_) (fun b15 => ?_))
    · refine r_ild C dD_taker_18 rfl ?_
      refine r_i2l C dD_taker_19 (by omega) ?_
      refine r_lk C dD_taker_20 ?_
      refine r_lk C dD_taker_21 ?_
      refine r_callS C lzD_requireWithin dD_taker_24 [_, _, _] [] rfl rfl (Nat.le_of_ble_eq_true rfl) ⟨(Nat.le_of_ble_eq_true rfl), (Nat.le_of_ble_eq_true rfl), (Nat.le_of_ble_eq_true rfl), (Nat.le_of_ble_eq_true rfl)⟩ rfl (cD_requireWithin C.2.2.2.2.2.1 rfl (by omega) (fun b24 => ?_) (fun b24 => ?_))
      · refine r_ald C dD_taker_27 rfl ?_
        refine r_callV C lzD_requireOpen dD_taker_28 _ [] [] rfl rfl rfl rfl rfl (Nat.le_of_ble_eq_true rfl) ⟨(Nat.le_of_ble_eq_true rfl), (Nat.le_of_ble_eq_true rfl), (Nat.le_of_ble_eq_true rfl), (Nat.le_of_ble_eq_true rfl)⟩ rfl (cD_requireOpen C.2.2.2.2.2.1 hc (fun b28 => ?_) (fun b28 => ?_))
        · refine r_ald C dD_taker_31 rfl ?_
          refine r_getR C dD_taker_32 rfl rfl ?_
          refine r_getR C dD_taker_35 rfl rfl ?_
          refine r_ild C dD_taker_38 rfl ?_
          refine r_aald C dD_taker_39 rfl ⟨by omega, by omega⟩ (by decide) ?_
          refine r_ild C dD_taker_40 rfl ?_
          refine r_ild C dD_taker_41 rfl ?_
          refine r_iast C dD_taker_42 rfl (ed_row c.toNat (by omega)) ⟨by omega, by omega⟩ (by decide) ?_
          refine r_ald C dD_taker_43 rfl ?_
          refine r_callV C lzD_noteFact dD_taker_44 _ [] [] rfl rfl rfl rfl rfl (Nat.le_of_ble_eq_true rfl) ⟨(Nat.le_of_ble_eq_true rfl), (Nat.le_of_ble_eq_true rfl), (Nat.le_of_ble_eq_true rfl), (Nat.le_of_ble_eq_true rfl)⟩ rfl (cD_noteFact C.2.2.2.2.2.1 ?_)
          exact r_vret C dD_taker_47 rfl (Nat.le_of_ble_eq_true rfl) (Nat.le_of_ble_eq_true rfl) (hn (by omega) (by omega))
        · exact gx_out C rfl (Nat.le_of_ble_eq_true rfl) (Nat.le_of_ble_eq_true rfl) (hS (by omega) (by omega))
      · exact gx_out C rfl (Nat.le_of_ble_eq_true rfl) (Nat.le_of_ble_eq_true rfl) (hA (by omega))
    · exact gx_out C rfl (Nat.le_of_ble_eq_true rfl) (Nat.le_of_ble_eq_true rfl) (hA (by omega))
  · exact gx_out C rfl (Nat.le_of_ble_eq_true rfl) (Nat.le_of_ble_eq_true rfl) (hA (by omega))
set_option maxRecDepth 100000 in
set_option maxHeartbeats 4000000 in
theorem cD_charge {g : ed_g} {l : Launch} (hl : l.stackTraces = false) {I : ed_I} {L : ed_L} {c f : Int} (rc : -2147483648 ≤ c ∧ c ≤ 2147483647) (hf : f = 0 ∨ f = 1) (hc : I 0 7 = 0 ∨ I 0 7 = 1) (hr2 : ∀ j, 0 ≤ j → j ≤ 40 → -1 ≤ I 15 j ∧ I 15 j ≤ 100000) {post : ed_post} (hA : ¬ ((1 ≤ c ∧ c ≤ 40) ∧ I 15 c = 1) → post (.inr IAE) Yw I L) (hS : ((1 ≤ c ∧ c ≤ 40) ∧ I 15 c = 1) → ¬ (I 0 7 = 0) → post (.inr ISE) Yw I L) (hn : ((1 ≤ c ∧ c ≤ 40) ∧ I 15 c = 1) → (I 0 7 = 0) → post (.inl (none)) Yw (upI (upI I 18 c f) 0 6 0) L) : ed_Ct g l mD_charge 4 3 18 [.ref 0, .int (iZ c), .int (iZ f)] Yw I L post := by
  refine ed_Ct.of hl rfl (Nat.le_of_ble_eq_true rfl) (fun x _ C => ?_)
  show Gd g x post _ _ _ _ _ _ _ _ 0 [(0, _), (1, _), (2, _)] []
  have hr3 := fun (h : 0 ≤ c ∧ c ≤ 40) => hr2 c h.1 h.2
  refine r_ild C dD_charge_0 rfl ?_
  refine r_i2l C dD_charge_1 (by omega) ?_
  refine r_lk C dD_charge_2 ?_
  refine r_lk C dD_charge_3 ?_
  refine r_callS C lzD_requireWithin dD_charge_6 [_, _, _] [] rfl rfl (Nat.le_of_ble_eq_true rfl) ⟨(Nat.le_of_ble_eq_true rfl), (Nat.le_of_ble_eq_true rfl), (Nat.le_of_ble_eq_true rfl), (Nat.le_of_ble_eq_true rfl)⟩ rfl (cD_requireWithin C.2.2.2.2.2.1 rfl (by omega) (fun b6 => ?_) (fun b6 => ?_))
  · refine r_ald C dD_charge_9 rfl ?_
    refine r_getR C dD_charge_10 rfl rfl ?_
    refine r_getR C dD_charge_13 rfl rfl ?_
    refine r_ild C dD_charge_16 rfl ?_
    refine r_iald C dD_charge_17 rfl ⟨by omega, by omega⟩ (by decide) ?_
    refine r_ik C dD_charge_18 ?_
    refine r_icmp_ne C dD_charge_19 (by omega) (fun b19 => ?_) (fun b19 => ?_)
    · refine r_ik C dD_charge_26 ?_
      refine r_callS C lzD_requireArgument dD_charge_27 [_] [] rfl rfl (Nat.le_of_ble_eq_true rfl) ⟨(Nat.le_of_ble_eq_true rfl), (Nat.le_of_ble_eq_true rfl), (Nat.le_of_ble_eq_true rfl), (Nat.le_of_ble_eq_true rfl)⟩ rfl (cD_requireArgument C.2.2.2.2.2.1 rfl (by omega) (fun h => absurd rfl h) (fun _ => ?_))
      exact gx_out C rfl (Nat.le_of_ble_eq_true rfl) (Nat.le_of_ble_eq_true rfl) (hA (by omega))
    · refine r_ik C dD_charge_22 ?_
      refine r_goto C dD_charge_23 ?_
      refine r_callS C lzD_requireArgument dD_charge_27 [_] [] rfl rfl (Nat.le_of_ble_eq_true rfl) ⟨(Nat.le_of_ble_eq_true rfl), (Nat.le_of_ble_eq_true rfl), (Nat.le_of_ble_eq_true rfl), (Nat.le_of_ble_eq_true rfl)⟩ rfl (cD_requireArgument C.2.2.2.2.2.1 rfl (by omega) (fun _ => ?_) (fun h => absurd h (by decide)))
      refine r_ald C dD_charge_30 rfl ?_
      refine r_callV C lzD_requireOpen dD_charge_31 _ [] [] rfl rfl rfl rfl rfl (Nat.le_of_ble_eq_true rfl) ⟨(Nat.le_of_ble_eq_true rfl), (Nat.le_of_ble_eq_true rfl), (Nat.le_of_ble_eq_true rfl), (Nat.le_of_ble_eq_true rfl)⟩ rfl (cD_requireOpen C.2.2.2.2.2.1 hc (fun b31 => ?_) (fun b31 => ?_))
      · refine r_ald C dD_charge_34 rfl ?_
        refine r_getR C dD_charge_35 rfl rfl ?_
        refine r_getR C dD_charge_38 rfl rfl ?_
        refine r_ild C dD_charge_41 rfl ?_
        refine r_ild C dD_charge_42 rfl ?_
        refine r_zast C dD_charge_43 rfl rfl ⟨by omega, by omega⟩ (by decide) (by omega) ?_
        refine r_ald C dD_charge_44 rfl ?_
        refine r_callV C lzD_noteFact dD_charge_45 _ [] [] rfl rfl rfl rfl rfl (Nat.le_of_ble_eq_true rfl) ⟨(Nat.le_of_ble_eq_true rfl), (Nat.le_of_ble_eq_true rfl), (Nat.le_of_ble_eq_true rfl), (Nat.le_of_ble_eq_true rfl)⟩ rfl (cD_noteFact C.2.2.2.2.2.1 ?_)
        exact r_vret C dD_charge_48 rfl (Nat.le_of_ble_eq_true rfl) (Nat.le_of_ble_eq_true rfl) (hn (by omega) (by omega))
      · exact gx_out C rfl (Nat.le_of_ble_eq_true rfl) (Nat.le_of_ble_eq_true rfl) (hS (by omega) (by omega))
  · exact gx_out C rfl (Nat.le_of_ble_eq_true rfl) (Nat.le_of_ble_eq_true rfl) (hA (by omega))
set_option maxRecDepth 100000 in
set_option maxHeartbeats 4000000 in
theorem cD_debt {g : ed_g} {l : Launch} (hl : l.stackTraces = false) {I : ed_I} {L : ed_L} {c v a : Int} (rc : -2147483648 ≤ c ∧ c ≤ 2147483647) (ra : -2147483648 ≤ a ∧ a ≤ 2147483647) (rv : -9223372036854775808 ≤ v ∧ v ≤ 9223372036854775807) (hc : I 0 7 = 0 ∨ I 0 7 = 1) (hk : ∀ j, 0 ≤ j → j ≤ 40 → I 7 j = 0 ∨ I 7 j = 1) {post : ed_post} (hA : ¬ ((1 ≤ c ∧ c ≤ 40) ∧ (0 ≤ v ∧ v ≤ 1000000000000) ∧ (a = 0 ∨ ((1 ≤ a ∧ a ≤ 40) ∧ I 7 a ≠ 0))) → post (.inr IAE) Yw I L) (hS : ((1 ≤ c ∧ c ≤ 40) ∧ (0 ≤ v ∧ v ≤ 1000000000000) ∧ (a = 0 ∨ ((1 ≤ a ∧ a ≤ 40) ∧ I 7 a ≠ 0))) → ¬ (I 0 7 = 0) → post (.inr ISE) Yw I L) (hn : ((1 ≤ c ∧ c ≤ 40) ∧ (0 ≤ v ∧ v ≤ 1000000000000) ∧ (a = 0 ∨ ((1 ≤ a ∧ a ≤ 40) ∧ I 7 a ≠ 0))) → (I 0 7 = 0) → post (.inl (none)) Yw (upI (upI I 71 c a) 0 6 0) (upI L 70 c v)) : ed_Ct g l mD_debt 4 5 30 [.ref 0, .int (iZ c), .long (lZ v), .int (iZ a)] Yw I L post := by
  refine ed_Ct.of hl rfl (Nat.le_of_ble_eq_true rfl) (fun x _ C => ?_)
  show Gd g x post _ _ _ _ _ _ _ _ 0 [(0, _), (1, _), (2, _), (4, _)] []
  refine r_ild C dD_debt_0 rfl ?_
  refine r_i2l C dD_debt_1 (by omega) ?_
  refine r_lk C dD_debt_2 ?_
  refine r_lk C dD_debt_3 ?_
  refine r_callS C lzD_requireWithin dD_debt_6 [_, _, _] [] rfl rfl (Nat.le_of_ble_eq_true rfl) ⟨(Nat.le_of_ble_eq_true rfl), (Nat.le_of_ble_eq_true rfl), (Nat.le_of_ble_eq_true rfl), (Nat.le_of_ble_eq_true rfl)⟩ rfl (cD_requireWithin C.2.2.2.2.2.1 rfl (by omega) (fun b6 => ?_) (fun b6 => ?_))
  · refine r_lld C dD_debt_9 rfl ?_
    refine r_lk C dD_debt_10 ?_
    refine r_lk C dD_debt_11 ?_
    refine r_callS C lzD_requireWithin dD_debt_14 [_, _, _] [] rfl rfl (Nat.le_of_ble_eq_true rfl) ⟨(Nat.le_of_ble_eq_true rfl), (Nat.le_of_ble_eq_true rfl), (Nat.le_of_ble_eq_true rfl), (Nat.le_of_ble_eq_true rfl)⟩ rfl (cD_requireWithin C.2.2.2.2.2.1 rfl (by omega) (fun b14 => ?_) (fun b14 => ?_))
    · refine r_ald C dD_debt_17 rfl ?_
      refine r_ild C dD_debt_18 rfl ?_
      refine r_callV C lzD_requireAssetOrNone dD_debt_20 _ [_] [] rfl rfl rfl rfl rfl (Nat.le_of_ble_eq_true rfl) ⟨(Nat.le_of_ble_eq_true rfl), (Nat.le_of_ble_eq_true rfl), (Nat.le_of_ble_eq_true rfl), (Nat.le_of_ble_eq_true rfl)⟩ rfl (cD_requireAssetOrNone C.2.2.2.2.2.1 (by omega) hk (fun b20 => ?_) (fun b20 => ?_))
      · refine r_ald C dD_debt_23 rfl ?_
        refine r_callV C lzD_requireOpen dD_debt_24 _ [] [] rfl rfl rfl rfl rfl (Nat.le_of_ble_eq_true rfl) ⟨(Nat.le_of_ble_eq_true rfl), (Nat.le_of_ble_eq_true rfl), (Nat.le_of_ble_eq_true rfl), (Nat.le_of_ble_eq_true rfl)⟩ rfl (cD_requireOpen C.2.2.2.2.2.1 hc (fun b24 => ?_) (fun b24 => ?_))
        · refine r_ald C dD_debt_27 rfl ?_
          refine r_getR C dD_debt_28 rfl rfl ?_
          refine r_getR C dD_debt_31 rfl rfl ?_
          refine r_ild C dD_debt_34 rfl ?_
          refine r_lld C dD_debt_35 rfl ?_
          refine r_last C dD_debt_36 rfl rfl ⟨by omega, by omega⟩ (by decide) ?_
          refine r_ald C dD_debt_37 rfl ?_
          refine r_getR C dD_debt_38 rfl rfl ?_
          refine r_getR C dD_debt_41 rfl rfl ?_
          refine r_ild C dD_debt_44 rfl ?_
          refine r_ild C dD_debt_45 rfl ?_
          refine r_iast C dD_debt_47 rfl rfl ⟨by omega, by omega⟩ (by decide) ?_
          refine r_ald C dD_debt_48 rfl ?_
          refine r_callV C lzD_noteFact dD_debt_49 _ [] [] rfl rfl rfl rfl rfl (Nat.le_of_ble_eq_true rfl) ⟨(Nat.le_of_ble_eq_true rfl), (Nat.le_of_ble_eq_true rfl), (Nat.le_of_ble_eq_true rfl), (Nat.le_of_ble_eq_true rfl)⟩ rfl (cD_noteFact C.2.2.2.2.2.1 ?_)
          exact r_vret C dD_debt_52 rfl (Nat.le_of_ble_eq_true rfl) (Nat.le_of_ble_eq_true rfl) (hn (by omega) (by omega))
        · exact gx_out C rfl (Nat.le_of_ble_eq_true rfl) (Nat.le_of_ble_eq_true rfl) (hS (by omega) (by omega))
      · exact gx_out C rfl (Nat.le_of_ble_eq_true rfl) (Nat.le_of_ble_eq_true rfl) (hA (by omega))
    · exact gx_out C rfl (Nat.le_of_ble_eq_true rfl) (Nat.le_of_ble_eq_true rfl) (hA (by omega))
  · exact gx_out C rfl (Nat.le_of_ble_eq_true rfl) (Nat.le_of_ble_eq_true rfl) (hA (by omega))
set_option maxRecDepth 100000 in
set_option maxHeartbeats 4000000 in
theorem cD_assetTo {g : ed_g} {l : Launch} (hl : l.stackTraces = false) {I : ed_I} {L : ed_L} {a : Int} (ra : -2147483648 ≤ a ∧ a ≤ 2147483647) (hs : I 0 5 = 0 ∨ I 0 5 = 1) {post : ed_post} (hA : ¬ (1 ≤ a ∧ a ≤ 40) → post (.inr IAE) Yw I L) (hS : (1 ≤ a ∧ a ≤ 40) → ¬ (I 0 5 ≠ 0) → post (.inr ISE) Yw I L) (hn : (1 ≤ a ∧ a ≤ 40) → (I 0 5 ≠ 0) → post (.inl (some (.int (iZ (I 13 a))))) Yw I L) : ed_Ct g l mD_assetTo 4 2 12 [.ref 0, .int (iZ a)] Yw I L post := by
  refine ed_Ct.of hl rfl (Nat.le_of_ble_eq_true rfl) (fun x _ C => ?_)
  show Gd g x post _ _ _ _ _ _ _ _ 0 [(0, _), (1, _)] []
  refine r_ild C dD_assetTo_0 rfl ?_
  refine r_i2l C dD_assetTo_1 (by omega) ?_
  refine r_lk C dD_assetTo_2 ?_
  refine r_lk C dD_assetTo_3 ?_
  refine r_callS C lzD_requireWithin dD_assetTo_6 [_, _, _] [] rfl rfl (Nat.le_of_ble_eq_true rfl) ⟨(Nat.le_of_ble_eq_true rfl), (Nat.le_of_ble_eq_true rfl), (Nat.le_of_ble_eq_true rfl), (Nat.le_of_ble_eq_true rfl)⟩ rfl (cD_requireWithin C.2.2.2.2.2.1 rfl (by omega) (fun b6 => ?_) (fun b6 => ?_))
  · refine r_ald C dD_assetTo_9 rfl ?_
    refine r_getI (z := 5) C dD_assetTo_10 rfl rfl rfl ?_
    refine r_callS C lzD_requireState dD_assetTo_13 [_] [] rfl rfl (Nat.le_of_ble_eq_true rfl) ⟨(Nat.le_of_ble_eq_true rfl), (Nat.le_of_ble_eq_true rfl), (Nat.le_of_ble_eq_true rfl), (Nat.le_of_ble_eq_true rfl)⟩ rfl (cD_requireState C.2.2.2.2.2.1 rfl (by omega) (fun b13 => ?_) (fun b13 => ?_))
    · refine r_ald C dD_assetTo_16 rfl ?_
      refine r_getR C dD_assetTo_17 rfl rfl ?_
      refine r_getR C dD_assetTo_20 rfl rfl ?_
      refine r_ild C dD_assetTo_23 rfl ?_
      refine r_iald C dD_assetTo_24 rfl ⟨by omega, by omega⟩ (by decide) ?_
      exact r_iret C dD_assetTo_25 rfl (Nat.le_of_ble_eq_true rfl) (Nat.le_of_ble_eq_true rfl) (hn (by omega) (by omega))
    · exact gx_out C rfl (Nat.le_of_ble_eq_true rfl) (Nat.le_of_ble_eq_true rfl) (hS (by omega) (by omega))
  · exact gx_out C rfl (Nat.le_of_ble_eq_true rfl) (Nat.le_of_ble_eq_true rfl) (hA (by omega))
set_option maxRecDepth 100000 in
set_option maxHeartbeats 4000000 in
theorem cD_clauseState {g : ed_g} {l : Launch} (hl : l.stackTraces = false) {I : ed_I} {L : ed_L} {a : Int} (ra : -2147483648 ≤ a ∧ a ≤ 2147483647) (hs : I 0 5 = 0 ∨ I 0 5 = 1) {post : ed_post} (hA : ¬ (1 ≤ a ∧ a ≤ 40) → post (.inr IAE) Yw I L) (hS : (1 ≤ a ∧ a ≤ 40) → ¬ (I 0 5 ≠ 0) → post (.inr ISE) Yw I L) (hn : (1 ≤ a ∧ a ≤ 40) → (I 0 5 ≠ 0) → post (.inl (some (.int (iZ (I 61 a))))) Yw I L) : ed_Ct g l mD_clauseState 4 2 12 [.ref 0, .int (iZ a)] Yw I L post := by
  refine ed_Ct.of hl rfl (Nat.le_of_ble_eq_true rfl) (fun x _ C => ?_)
  show Gd g x post _ _ _ _ _ _ _ _ 0 [(0, _), (1, _)] []
  refine r_ild C dD_clauseState_0 rfl ?_
  refine r_i2l C dD_clauseState_1 (by omega) ?_
  refine r_lk C dD_clauseState_2 ?_
  refine r_lk C dD_clauseState_3 ?_
  refine r_callS C lzD_requireWithin dD_clauseState_6 [_, _, _] [] rfl rfl (Nat.le_of_ble_eq_true rfl) ⟨(Nat.le_of_ble_eq_true rfl), (Nat.le_of_ble_eq_true rfl), (Nat.le_of_ble_eq_true rfl), (Nat.le_of_ble_eq_true rfl)⟩ rfl (cD_requireWithin C.2.2.2.2.2.1 rfl (by omega) (fun b6 => ?_) (fun b6 => ?_))
  · refine r_ald C dD_clauseState_9 rfl ?_
    refine r_getI (z := 5) C dD_clauseState_10 rfl rfl rfl ?_
    refine r_callS C lzD_requireState dD_clauseState_13 [_] [] rfl rfl (Nat.le_of_ble_eq_true rfl) ⟨(Nat.le_of_ble_eq_true rfl), (Nat.le_of_ble_eq_true rfl), (Nat.le_of_ble_eq_true rfl), (Nat.le_of_ble_eq_true rfl)⟩ rfl (cD_requireState C.2.2.2.2.2.1 rfl (by omega) (fun b13 => ?_) (fun b13 => ?_))
    · refine r_ald C dD_clauseState_16 rfl ?_
      refine r_getR C dD_clauseState_17 rfl rfl ?_
      refine r_getR C dD_clauseState_20 rfl rfl ?_
      refine r_ild C dD_clauseState_23 rfl ?_
      refine r_iald C dD_clauseState_24 rfl ⟨by omega, by omega⟩ (by decide) ?_
      exact r_iret C dD_clauseState_25 rfl (Nat.le_of_ble_eq_true rfl) (Nat.le_of_ble_eq_true rfl) (hn (by omega) (by omega))
    · exact gx_out C rfl (Nat.le_of_ble_eq_true rfl) (Nat.le_of_ble_eq_true rfl) (hS (by omega) (by omega))
  · exact gx_out C rfl (Nat.le_of_ble_eq_true rfl) (Nat.le_of_ble_eq_true rfl) (hA (by omega))
set_option maxRecDepth 100000 in
set_option maxHeartbeats 4000000 in
theorem cD_paid {g : ed_g} {l : Launch} (hl : l.stackTraces = false) {I : ed_I} {L : ed_L} {a : Int} (ra : -2147483648 ≤ a ∧ a ≤ 2147483647) (hs : I 0 5 = 0 ∨ I 0 5 = 1) {post : ed_post} (hA : ¬ (1 ≤ a ∧ a ≤ 40) → post (.inr IAE) Yw I L) (hS : (1 ≤ a ∧ a ≤ 40) → ¬ (I 0 5 ≠ 0) → post (.inr ISE) Yw I L) (hn : (1 ≤ a ∧ a ≤ 40) → (I 0 5 ≠ 0) → post (.inl (some (.long (lZ (L 73 a))))) Yw I L) : ed_Ct g l mD_paid 4 2 12 [.ref 0, .int (iZ a)] Yw I L post := by
  refine ed_Ct.of hl rfl (Nat.le_of_ble_eq_true rfl) (fun x _ C => ?_)
  show Gd g x post _ _ _ _ _ _ _ _ 0 [(0, _), (1, _)] []
  refine r_ild C dD_paid_0 rfl ?_
  refine r_i2l C dD_paid_1 (by omega) ?_
  refine r_lk C dD_paid_2 ?_
  refine r_lk C dD_paid_3 ?_
  refine r_callS C lzD_requireWithin dD_paid_6 [_, _, _] [] rfl rfl (Nat.le_of_ble_eq_true rfl) ⟨(Nat.le_of_ble_eq_true rfl), (Nat.le_of_ble_eq_true rfl), (Nat.le_of_ble_eq_true rfl), (Nat.le_of_ble_eq_true rfl)⟩ rfl (cD_requireWithin C.2.2.2.2.2.1 rfl (by omega) (fun b6 => ?_) (fun b6 => ?_))
  · refine r_ald C dD_paid_9 rfl ?_
    refine r_getI (z := 5) C dD_paid_10 rfl rfl rfl ?_
    refine r_callS C lzD_requireState dD_paid_13 [_] [] rfl rfl (Nat.le_of_ble_eq_true rfl) ⟨(Nat.le_of_ble_eq_true rfl), (Nat.le_of_ble_eq_true rfl), (Nat.le_of_ble_eq_true rfl), (Nat.le_of_ble_eq_true rfl)⟩ rfl (cD_requireState C.2.2.2.2.2.1 rfl (by omega) (fun b13 => ?_) (fun b13 => ?_))
    · refine r_ald C dD_paid_16 rfl ?_
      refine r_getR C dD_paid_17 rfl rfl ?_
      refine r_getR C dD_paid_20 rfl rfl ?_
      refine r_ild C dD_paid_23 rfl ?_
      refine r_lald C dD_paid_24 rfl ⟨by omega, by omega⟩ (by decide) ?_
      exact r_lret C dD_paid_25 rfl (Nat.le_of_ble_eq_true rfl) (Nat.le_of_ble_eq_true rfl) (hn (by omega) (by omega))
    · exact gx_out C rfl (Nat.le_of_ble_eq_true rfl) (Nat.le_of_ble_eq_true rfl) (hS (by omega) (by omega))
  · exact gx_out C rfl (Nat.le_of_ble_eq_true rfl) (Nat.le_of_ble_eq_true rfl) (hA (by omega))
set_option maxRecDepth 100000 in
set_option maxHeartbeats 4000000 in
theorem cD_sum {g : ed_g} {l : Launch} (hl : l.stackTraces = false) {I : ed_I} {L : ed_L} {a : Int} (ra : -2147483648 ≤ a ∧ a ≤ 2147483647) (hs : I 0 5 = 0 ∨ I 0 5 = 1) {post : ed_post} (hA : ¬ (0 ≤ a ∧ a ≤ 7) → post (.inr IAE) Yw I L) (hS : (0 ≤ a ∧ a ≤ 7) → ¬ (I 0 5 ≠ 0) → post (.inr ISE) Yw I L) (hn : (0 ≤ a ∧ a ≤ 7) → (I 0 5 ≠ 0) → post (.inl (some (.long (lZ (L 78 a))))) Yw I L) : ed_Ct g l mD_sum 4 2 12 [.ref 0, .int (iZ a)] Yw I L post := by
  refine ed_Ct.of hl rfl (Nat.le_of_ble_eq_true rfl) (fun x _ C => ?_)
  show Gd g x post _ _ _ _ _ _ _ _ 0 [(0, _), (1, _)] []
  refine r_ild C dD_sum_0 rfl ?_
  refine r_i2l C dD_sum_1 (by omega) ?_
  refine r_lk C dD_sum_2 ?_
  refine r_lk C dD_sum_3 ?_
  refine r_callS C lzD_requireWithin dD_sum_6 [_, _, _] [] rfl rfl (Nat.le_of_ble_eq_true rfl) ⟨(Nat.le_of_ble_eq_true rfl), (Nat.le_of_ble_eq_true rfl), (Nat.le_of_ble_eq_true rfl), (Nat.le_of_ble_eq_true rfl)⟩ rfl (cD_requireWithin C.2.2.2.2.2.1 rfl (by omega) (fun b6 => ?_) (fun b6 => ?_))
  · refine r_ald C dD_sum_9 rfl ?_
    refine r_getI (z := 5) C dD_sum_10 rfl rfl rfl ?_
    refine r_callS C lzD_requireState dD_sum_13 [_] [] rfl rfl (Nat.le_of_ble_eq_true rfl) ⟨(Nat.le_of_ble_eq_true rfl), (Nat.le_of_ble_eq_true rfl), (Nat.le_of_ble_eq_true rfl), (Nat.le_of_ble_eq_true rfl)⟩ rfl (cD_requireState C.2.2.2.2.2.1 rfl (by omega) (fun b13 => ?_) (fun b13 => ?_))
    · refine r_ald C dD_sum_16 rfl ?_
      refine r_getR C dD_sum_17 rfl rfl ?_
      refine r_getR C dD_sum_20 rfl rfl ?_
      refine r_ild C dD_sum_23 rfl ?_
      refine r_lald C dD_sum_24 rfl ⟨by omega, by omega⟩ (by decide) ?_
      exact r_lret C dD_sum_25 rfl (Nat.le_of_ble_eq_true rfl) (Nat.le_of_ble_eq_true rfl) (hn (by omega) (by omega))
    · exact gx_out C rfl (Nat.le_of_ble_eq_true rfl) (Nat.le_of_ble_eq_true rfl) (hS (by omega) (by omega))
  · exact gx_out C rfl (Nat.le_of_ble_eq_true rfl) (Nat.le_of_ble_eq_true rfl) (hA (by omega))
set_option maxRecDepth 100000 in
set_option maxHeartbeats 4000000 in
theorem cD_gets {g : ed_g} {l : Launch} (hl : l.stackTraces = false) {I : ed_I} {L : ed_L} {p w : Int} (rp : -2147483648 ≤ p ∧ p ≤ 2147483647) (rw : -2147483648 ≤ w ∧ w ≤ 2147483647) (hs : I 0 5 = 0 ∨ I 0 5 = 1) {post : ed_post} (hA : ¬ ((0 ≤ p ∧ p ≤ 40) ∧ 0 ≤ w ∧ w ≤ 2) → post (.inr IAE) Yw I L) (hS : ((0 ≤ p ∧ p ≤ 40) ∧ 0 ≤ w ∧ w ≤ 2) → ¬ (I 0 5 ≠ 0) → post (.inr ISE) Yw I L) (hn : ((0 ≤ p ∧ p ≤ 40) ∧ 0 ≤ w ∧ w ≤ 2) → (I 0 5 ≠ 0) → post (.inl (some (.long (lZ (if w = 0 then L 3 p else if w = 1 then L 4 p else L 5 p))))) Yw I L) : ed_Ct g l mD_gets 4 3 18 [.ref 0, .int (iZ p), .int (iZ w)] Yw I L post := by
  refine ed_Ct.of hl rfl (Nat.le_of_ble_eq_true rfl) (fun x _ C => ?_)
  show Gd g x post _ _ _ _ _ _ _ _ 0 [(0, _), (1, _), (2, _)] []
  refine r_ild C dD_gets_0 rfl ?_
  refine r_i2l C dD_gets_1 (by omega) ?_
  refine r_lk C dD_gets_2 ?_
  refine r_lk C dD_gets_3 ?_
  refine r_callS C lzD_requireWithin dD_gets_6 [_, _, _] [] rfl rfl (Nat.le_of_ble_eq_true rfl) ⟨(Nat.le_of_ble_eq_true rfl), (Nat.le_of_ble_eq_true rfl), (Nat.le_of_ble_eq_true rfl), (Nat.le_of_ble_eq_true rfl)⟩ rfl (cD_requireWithin C.2.2.2.2.2.1 rfl (by omega) (fun b6 => ?_) (fun b6 => ?_))
  · refine r_ild C dD_gets_9 rfl ?_
    refine r_i2l C dD_gets_10 (by omega) ?_
    refine r_lk C dD_gets_11 ?_
    refine r_lk C dD_gets_12 ?_
    refine r_callS C lzD_requireWithin dD_gets_15 [_, _, _] [] rfl rfl (Nat.le_of_ble_eq_true rfl) ⟨(Nat.le_of_ble_eq_true rfl), (Nat.le_of_ble_eq_true rfl), (Nat.le_of_ble_eq_true rfl), (Nat.le_of_ble_eq_true rfl)⟩ rfl (cD_requireWithin C.2.2.2.2.2.1 rfl (by omega) (fun b15 => ?_) (fun b15 => ?_))
    · refine r_ald C dD_gets_18 rfl ?_
      refine r_getI (z := 5) C dD_gets_19 rfl rfl rfl ?_
      refine r_callS C lzD_requireState dD_gets_22 [_] [] rfl rfl (Nat.le_of_ble_eq_true rfl) ⟨(Nat.le_of_ble_eq_true rfl), (Nat.le_of_ble_eq_true rfl), (Nat.le_of_ble_eq_true rfl), (Nat.le_of_ble_eq_true rfl)⟩ rfl (cD_requireState C.2.2.2.2.2.1 rfl (by omega) (fun b22 => ?_) (fun b22 => ?_))
      · refine r_ild C dD_gets_25 rfl ?_
        rcases (show w = 0 ∨ w = 1 ∨ w = 2 by omega) with rfl | rfl | rfl
        · refine r_lsw C (by omega) dD_gets_26 (off := 26) (t := 52) (by decide +kernel) (by decide +kernel) rfl ?_
          refine r_ald C dD_gets_52 rfl ?_
          refine r_getR C dD_gets_53 rfl rfl ?_
          refine r_getR C dD_gets_56 rfl rfl ?_
          refine r_ild C dD_gets_59 rfl ?_
          refine r_lald C dD_gets_60 rfl ⟨by omega, by omega⟩ (by decide) ?_
          exact r_lret C dD_gets_61 rfl (Nat.le_of_ble_eq_true rfl) (Nat.le_of_ble_eq_true rfl) (hn (by omega) (by omega))
        · refine r_lsw C (by omega) dD_gets_26 (off := 36) (t := 62) (by decide +kernel) (by decide +kernel) rfl ?_
          refine r_ald C dD_gets_62 rfl ?_
          refine r_getR C dD_gets_63 rfl rfl ?_
          refine r_getR C dD_gets_66 rfl rfl ?_
          refine r_ild C dD_gets_69 rfl ?_
          refine r_lald C dD_gets_70 rfl ⟨by omega, by omega⟩ (by decide) ?_
          exact r_lret C dD_gets_71 rfl (Nat.le_of_ble_eq_true rfl) (Nat.le_of_ble_eq_true rfl) (hn (by omega) (by omega))
        · refine r_lsw C (by omega) dD_gets_26 (off := 46) (t := 72) (by decide +kernel) (by decide +kernel) rfl ?_
          refine r_ald C dD_gets_72 rfl ?_
          refine r_getR C dD_gets_73 rfl rfl ?_
          refine r_getR C dD_gets_76 rfl rfl ?_
          refine r_ild C dD_gets_79 rfl ?_
          refine r_lald C dD_gets_80 rfl ⟨by omega, by omega⟩ (by decide) ?_
          exact r_lret C dD_gets_81 rfl (Nat.le_of_ble_eq_true rfl) (Nat.le_of_ble_eq_true rfl) (hn (by omega) (by omega))
      · exact gx_out C rfl (Nat.le_of_ble_eq_true rfl) (Nat.le_of_ble_eq_true rfl) (hS (by omega) (by omega))
    · exact gx_out C rfl (Nat.le_of_ble_eq_true rfl) (Nat.le_of_ble_eq_true rfl) (hA (by omega))
  · exact gx_out C rfl (Nat.le_of_ble_eq_true rfl) (Nat.le_of_ble_eq_true rfl) (hA (by omega))
set_option maxRecDepth 100000 in
set_option maxHeartbeats 4000000 in
theorem cD_told {g : ed_g} {l : Launch} (hl : l.stackTraces = false) {I : ed_I} {L : ed_L} {c w : Int} (rc : -2147483648 ≤ c ∧ c ≤ 2147483647) (rw : -2147483648 ≤ w ∧ w ≤ 2147483647) (hs : I 0 5 = 0 ∨ I 0 5 = 1) (hg : ∀ j, 0 ≤ j → j ≤ 40 → -1 ≤ I 62 j ∧ I 62 j ≤ 100000) {post : ed_post} (hA : ¬ ((1 ≤ c ∧ c ≤ 40) ∧ 0 ≤ w ∧ w ≤ 4) → post (.inr IAE) Yw I L) (hS : ((1 ≤ c ∧ c ≤ 40) ∧ 0 ≤ w ∧ w ≤ 4) → ¬ (I 0 5 ≠ 0) → post (.inr ISE) Yw I L) (hn : ((1 ≤ c ∧ c ≤ 40) ∧ 0 ≤ w ∧ w ≤ 4) → (I 0 5 ≠ 0) → post (.inl (some (.long (lZ (if w = 0 then L 63 c + L 64 c + L 65 c else if w = 1 then L 67 c else if w = 2 then L 64 c else if w = 3 then L 68 c else I 62 c))))) Yw I L) : ed_Ct g l mD_told 4 3 18 [.ref 0, .int (iZ c), .int (iZ w)] Yw I L post := by
  refine ed_Ct.of hl rfl (Nat.le_of_ble_eq_true rfl) (fun x _ C => ?_)
  show Gd g x post _ _ _ _ _ _ _ _ 0 [(0, _), (1, _), (2, _)] []
  have hg2 := fun (h : 0 ≤ c ∧ c ≤ 40) => hg c h.1 h.2
  refine r_ild C dD_told_0 rfl ?_
  refine r_i2l C dD_told_1 (by omega) ?_
  refine r_lk C dD_told_2 ?_
  refine r_lk C dD_told_3 ?_
  refine r_callS C lzD_requireWithin dD_told_6 [_, _, _] [] rfl rfl (Nat.le_of_ble_eq_true rfl) ⟨(Nat.le_of_ble_eq_true rfl), (Nat.le_of_ble_eq_true rfl), (Nat.le_of_ble_eq_true rfl), (Nat.le_of_ble_eq_true rfl)⟩ rfl (cD_requireWithin C.2.2.2.2.2.1 rfl (by omega) (fun b6 => ?_) (fun b6 => ?_))
  · refine r_ild C dD_told_9 rfl ?_
    refine r_i2l C dD_told_10 (by omega) ?_
    refine r_lk C dD_told_11 ?_
    refine r_lk C dD_told_12 ?_
    refine r_callS C lzD_requireWithin dD_told_15 [_, _, _] [] rfl rfl (Nat.le_of_ble_eq_true rfl) ⟨(Nat.le_of_ble_eq_true rfl), (Nat.le_of_ble_eq_true rfl), (Nat.le_of_ble_eq_true rfl), (Nat.le_of_ble_eq_true rfl)⟩ rfl (cD_requireWithin C.2.2.2.2.2.1 rfl (by omega) (fun b15 => ?_) (fun b15 => ?_))
    · refine r_ald C dD_told_18 rfl ?_
      refine r_getI (z := 5) C dD_told_19 rfl rfl rfl ?_
      refine r_callS C lzD_requireState dD_told_22 [_] [] rfl rfl (Nat.le_of_ble_eq_true rfl) ⟨(Nat.le_of_ble_eq_true rfl), (Nat.le_of_ble_eq_true rfl), (Nat.le_of_ble_eq_true rfl), (Nat.le_of_ble_eq_true rfl)⟩ rfl (cD_requireState C.2.2.2.2.2.1 rfl (by omega) (fun b22 => ?_) (fun b22 => ?_))
      · refine r_ild C dD_told_25 rfl ?_
        rcases (show w = 0 ∨ w = 1 ∨ w = 2 ∨ w = 3 ∨ w = 4 by omega) with rfl | rfl | rfl | rfl | rfl
        · refine r_sw C (by omega) dD_told_26 (off := 30) (t := 56) (by decide) (by decide) rfl rfl ?_
          refine r_ald C dD_told_56 rfl ?_
          refine r_getR C dD_told_57 rfl rfl ?_
          refine r_ild C dD_told_60 rfl ?_
          refine r_callV C lzC_worthInAll dD_told_61 _ [_] [] rfl rfl rfl rfl rfl (Nat.le_of_ble_eq_true rfl) ⟨(Nat.le_of_ble_eq_true rfl), (Nat.le_of_ble_eq_true rfl), (Nat.le_of_ble_eq_true rfl), (Nat.le_of_ble_eq_true rfl)⟩ rfl (cC_worthInAll C.2.2.2.2.2.1 (by omega) ?_)
          exact r_lret C dD_told_64 rfl (Nat.le_of_ble_eq_true rfl) (Nat.le_of_ble_eq_true rfl) (hn (by omega) (by omega))
        · refine r_sw C (by omega) dD_told_26 (off := 39) (t := 65) (by decide) (by decide) rfl rfl ?_
          refine r_ald C dD_told_65 rfl ?_
          refine r_getR C dD_told_66 rfl rfl ?_
          refine r_getR C dD_told_69 rfl rfl ?_
          refine r_ild C dD_told_72 rfl ?_
          refine r_lald C dD_told_73 rfl ⟨by omega, by omega⟩ (by decide) ?_
          exact r_lret C dD_told_74 rfl (Nat.le_of_ble_eq_true rfl) (Nat.le_of_ble_eq_true rfl) (hn (by omega) (by omega))
        · refine r_sw C (by omega) dD_told_26 (off := 49) (t := 75) (by decide) (by decide) rfl rfl ?_
          refine r_ald C dD_told_75 rfl ?_
          refine r_getR C dD_told_76 rfl rfl ?_
          refine r_getR C dD_told_79 rfl rfl ?_
          refine r_ild C dD_told_82 rfl ?_
          refine r_lald C dD_told_83 rfl ⟨by omega, by omega⟩ (by decide) ?_
          exact r_lret C dD_told_84 rfl (Nat.le_of_ble_eq_true rfl) (Nat.le_of_ble_eq_true rfl) (hn (by omega) (by omega))
        · refine r_sw C (by omega) dD_told_26 (off := 59) (t := 85) (by decide) (by decide) rfl rfl ?_
          refine r_ald C dD_told_85 rfl ?_
          refine r_getR C dD_told_86 rfl rfl ?_
          refine r_getR C dD_told_89 rfl rfl ?_
          refine r_ild C dD_told_92 rfl ?_
          refine r_lald C dD_told_93 rfl ⟨by omega, by omega⟩ (by decide) ?_
          exact r_lret C dD_told_94 rfl (Nat.le_of_ble_eq_true rfl) (Nat.le_of_ble_eq_true rfl) (hn (by omega) (by omega))
        · refine r_swD C (by omega) dD_told_26 (t := 95) (by decide) rfl ?_
          refine r_ald C dD_told_95 rfl ?_
          refine r_getR C dD_told_96 rfl rfl ?_
          refine r_getR C dD_told_99 rfl rfl ?_
          refine r_ild C dD_told_102 rfl ?_
          refine r_iald C dD_told_103 rfl ⟨by omega, by omega⟩ (by decide) ?_
          refine r_i2l C dD_told_104 (by omega) ?_
          exact r_lret C dD_told_105 rfl (Nat.le_of_ble_eq_true rfl) (Nat.le_of_ble_eq_true rfl) (hn (by omega) (by omega))
      · exact gx_out C rfl (Nat.le_of_ble_eq_true rfl) (Nat.le_of_ble_eq_true rfl) (hS (by omega) (by omega))
    · exact gx_out C rfl (Nat.le_of_ble_eq_true rfl) (Nat.le_of_ble_eq_true rfl) (hA (by omega))
  · exact gx_out C rfl (Nat.le_of_ble_eq_true rfl) (Nat.le_of_ble_eq_true rfl) (hA (by omega))
set_option maxRecDepth 100000 in
set_option maxHeartbeats 4000000 in
theorem cD_close {g : ed_g} {l : Launch} (hl : l.stackTraces = false) {I : ed_I} {L : ed_L}  (hc : I 0 7 = 0 ∨ I 0 7 = 1) (hs : I 0 6 = 0 ∨ I 0 6 = 1) {post : ed_post} (hS : ¬ (I 0 7 = 0 ∧ I 0 6 ≠ 0) → post (.inr ISE) Yw I L) (hn : (I 0 7 = 0 ∧ I 0 6 ≠ 0) → post (.inl (none)) Yw (upI I 0 7 1) L) : ed_Ct g l mD_close 4 2 12 [.ref 0] Yw I L post := by
  refine ed_Ct.of hl rfl (Nat.le_of_ble_eq_true rfl) (fun x _ C => ?_)
  show Gd g x post _ _ _ _ _ _ _ _ 0 [(0, _)] []
  refine r_ald C dD_close_0 rfl ?_
  refine r_callV C lzD_requireOpen dD_close_1 _ [] [] rfl rfl rfl rfl rfl (Nat.le_of_ble_eq_true rfl) ⟨(Nat.le_of_ble_eq_true rfl), (Nat.le_of_ble_eq_true rfl), (Nat.le_of_ble_eq_true rfl), (Nat.le_of_ble_eq_true rfl)⟩ rfl (cD_requireOpen C.2.2.2.2.2.1 hc (fun b1 => ?_) (fun b1 => ?_))
  · refine r_ald C dD_close_4 rfl ?_
    refine r_getI (z := 6) C dD_close_5 rfl rfl rfl ?_
    refine r_callS C lzD_requireState dD_close_8 [_] [] rfl rfl (Nat.le_of_ble_eq_true rfl) ⟨(Nat.le_of_ble_eq_true rfl), (Nat.le_of_ble_eq_true rfl), (Nat.le_of_ble_eq_true rfl), (Nat.le_of_ble_eq_true rfl)⟩ rfl (cD_requireState C.2.2.2.2.2.1 rfl (by omega) (fun b8 => ?_) (fun b8 => ?_))
    · refine r_ald C dD_close_11 rfl ?_
      refine r_ik C dD_close_12 ?_
      refine r_putI (z := 7) C dD_close_13 rfl rfl rfl rfl (ed_pz0_7 (by omega)) ?_
      exact r_vret C dD_close_16 rfl (Nat.le_of_ble_eq_true rfl) (Nat.le_of_ble_eq_true rfl) (hn (by omega))
    · exact gx_out C rfl (Nat.le_of_ble_eq_true rfl) (Nat.le_of_ble_eq_true rfl) (hS (by omega))
  · exact gx_out C rfl (Nat.le_of_ble_eq_true rfl) (Nat.le_of_ble_eq_true rfl) (hS (by omega))
set_option maxRecDepth 100000 in
set_option maxHeartbeats 4000000 in
theorem cD_worth {g : ed_g} {l : Launch} (hl : l.stackTraces = false) {I : ed_I} {L : ed_L} {y a : Int} (ra : -2147483648 ≤ a ∧ a ≤ 2147483647) (ry : -9223372036854775808 ≤ y ∧ y ≤ 9223372036854775807) {post : ed_post} (hA : ¬ ((0 ≤ y ∧ y ≤ 1000000000) ∧ 0 ≤ a ∧ a ≤ 99) → post (.inr IAE) Yw I L) (hn : ((0 ≤ y ∧ y ≤ 1000000000) ∧ 0 ≤ a ∧ a ≤ 99) → post (.inl (some (.long (lZ (anV y a))))) Yw I L) : ed_Ct g l mD_worth 4 2 12 [.ref 0, .long (lZ y), .int (iZ a)] Yw I L post := by
  refine ed_Ct.of hl rfl (Nat.le_of_ble_eq_true rfl) (fun x _ C => ?_)
  show Gd g x post _ _ _ _ _ _ _ _ 0 [(0, _), (1, _), (3, _)] []
  refine r_lld C dD_worth_0 rfl ?_
  refine r_lk C dD_worth_1 ?_
  refine r_lk C dD_worth_2 ?_
  refine r_callS C lzD_requireWithin dD_worth_5 [_, _, _] [] rfl rfl (Nat.le_of_ble_eq_true rfl) ⟨(Nat.le_of_ble_eq_true rfl), (Nat.le_of_ble_eq_true rfl), (Nat.le_of_ble_eq_true rfl), (Nat.le_of_ble_eq_true rfl)⟩ rfl (cD_requireWithin C.2.2.2.2.2.1 rfl (by omega) (fun b5 => ?_) (fun b5 => ?_))
  · refine r_ild C dD_worth_8 rfl ?_
    refine r_i2l C dD_worth_9 (by omega) ?_
    refine r_lk C dD_worth_10 ?_
    refine r_lk C dD_worth_11 ?_
    refine r_callS C lzD_requireWithin dD_worth_14 [_, _, _] [] rfl rfl (Nat.le_of_ble_eq_true rfl) ⟨(Nat.le_of_ble_eq_true rfl), (Nat.le_of_ble_eq_true rfl), (Nat.le_of_ble_eq_true rfl), (Nat.le_of_ble_eq_true rfl)⟩ rfl (cD_requireWithin C.2.2.2.2.2.1 rfl (by omega) (fun b14 => ?_) (fun b14 => ?_))
    · refine r_lld C dD_worth_17 rfl ?_
      refine r_ild C dD_worth_18 rfl ?_
      refine r_callS C lzD_annuityValue dD_worth_19 [_, _] [] rfl rfl (Nat.le_of_ble_eq_true rfl) ⟨(Nat.le_of_ble_eq_true rfl), (Nat.le_of_ble_eq_true rfl), (Nat.le_of_ble_eq_true rfl), (Nat.le_of_ble_eq_true rfl)⟩ rfl (cD_annuityValue C.2.2.2.2.2.1 (by omega) (by omega) ?_)
      exact r_lret C dD_worth_22 rfl (Nat.le_of_ble_eq_true rfl) (Nat.le_of_ble_eq_true rfl) (hn (by omega))
    · exact gx_out C rfl (Nat.le_of_ble_eq_true rfl) (Nat.le_of_ble_eq_true rfl) (hA (by omega))
  · exact gx_out C rfl (Nat.le_of_ble_eq_true rfl) (Nat.le_of_ble_eq_true rfl) (hA (by omega))
end
section
set_option maxRecDepth 100000 in
set_option maxHeartbeats 4000000 in
theorem cM_thrown {g : ed_g} {l : Launch} (hl : l.stackTraces = false) {I : ed_I} {L : ed_L} {post : ed_post} (hn : post (.inl (some (.int (iZ (I 79 0))))) Yw I L) : ed_Ct g l mM_thrown 0 0 0 [.ref 79] Yw I L post := by
  refine ed_Ct.of hl rfl (Nat.le_of_ble_eq_true rfl) (fun x _ C => ?_)
  show Gd g x post _ _ _ _ _ _ _ _ 0 [(0, _)] []
  refine r_ald C dM_thrown_0 rfl ?_
  refine r_getI (z := 0) C dM_thrown_1 rfl rfl rfl ?_
  exact r_iret C dM_thrown_4 rfl (Nat.le_of_ble_eq_true rfl) (Nat.le_of_ble_eq_true rfl) (hn)
set_option maxRecDepth 100000 in
set_option maxHeartbeats 4000000 in
theorem cM_refused {g : ed_g} {l : Launch} (hl : l.stackTraces = false) {I : ed_I} {L : ed_L} {w : Int} (hw : -2147483648 ≤ w ∧ w ≤ 2147483647) {post : ed_post} (h1 : 0 < w → post (.inl (some (.int (iZ 1)))) Yw (upI I 79 0 w) L) (h0 : w ≤ 0 → post (.inl (some (.int (iZ 0)))) Yw (upI I 79 0 w) L) : ed_Ct g l mM_refused 0 0 0 [.ref 79, .int (iZ w)] Yw I L post := by
  refine ed_Ct.of hl rfl (Nat.le_of_ble_eq_true rfl) (fun x _ C => ?_)
  show Gd g x post _ _ _ _ _ _ _ _ 0 [(0, _), (1, _)] []
  refine r_ald C dM_refused_0 rfl ?_
  refine r_ild C dM_refused_1 rfl ?_
  refine r_putI (z := 0) C dM_refused_2 rfl rfl rfl rfl (ed_pi7_0 _) ?_
  refine r_ild C dM_refused_5 rfl ?_
  refine r_if_le C dM_refused_6 (by omega) (fun b6 => ?_) (fun b6 => ?_)
  · refine r_ik C dM_refused_13 ?_
    exact r_zret C dM_refused_14 rfl (by omega) (Nat.le_of_ble_eq_true rfl) (Nat.le_of_ble_eq_true rfl) (by first | exact h1 (by omega) | exact h0 (by omega))
  · refine r_ik C dM_refused_9 ?_
    refine r_goto C dM_refused_10 ?_
    exact r_zret C dM_refused_14 rfl (by omega) (Nat.le_of_ble_eq_true rfl) (Nat.le_of_ble_eq_true rfl) (by first | exact h1 (by omega) | exact h0 (by omega))
set_option maxRecDepth 100000 in
set_option maxHeartbeats 4000000 in
theorem cM_isIn {g : ed_g} {l : Launch} (hl : l.stackTraces = false) {Y : ed_Y} {I : ed_I} {L : ed_L} {a b c : Int} (hr : -9223372036854775808 ≤ a ∧ a ≤ 9223372036854775807 ∧ -9223372036854775808 ≤ b ∧ b ≤ 9223372036854775807 ∧ -9223372036854775808 ≤ c ∧ c ≤ 9223372036854775807) {post : ed_post} (h1 : b ≤ a ∧ a ≤ c → post (.inl (some (.int (iZ 1)))) Y I L) (h0 : ¬ (b ≤ a ∧ a ≤ c) → post (.inl (some (.int (iZ 0)))) Y I L) : ed_Ct g l mM_isIn 0 0 0 [.long (lZ a), .long (lZ b), .long (lZ c)] Y I L post := by
  refine ed_Ct.of hl rfl (Nat.le_of_ble_eq_true rfl) (fun x _ C => ?_)
  show Gd g x post _ _ _ _ _ _ _ _ 0 [(0, _), (2, _), (4, _)] []
  refine r_lld C dM_isIn_0 rfl ?_
  refine r_lld C dM_isIn_1 rfl ?_
  refine r_lc_lt C dM_isIn_2 dM_isIn_3 (by omega) (fun b3 => ?_) (fun b3 => ?_)
  · refine r_ik C dM_isIn_17 ?_
    exact r_zret C dM_isIn_18 rfl (by omega) (Nat.le_of_ble_eq_true rfl) (Nat.le_of_ble_eq_true rfl) (by first | exact h1 (by omega) | exact h0 (by omega))
  · refine r_lld C dM_isIn_6 rfl ?_
    refine r_lld C dM_isIn_7 rfl ?_
    refine r_lc_gt C dM_isIn_9 dM_isIn_10 (by omega) (fun b10 => ?_) (fun b10 => ?_)
    · refine r_ik C dM_isIn_17 ?_
      exact r_zret C dM_isIn_18 rfl (by omega) (Nat.le_of_ble_eq_true rfl) (Nat.le_of_ble_eq_true rfl) (by first | exact h1 (by omega) | exact h0 (by omega))
    · refine r_ik C dM_isIn_13 ?_
      refine r_goto C dM_isIn_14 ?_
      exact r_zret C dM_isIn_18 rfl (by omega) (Nat.le_of_ble_eq_true rfl) (Nat.le_of_ble_eq_true rfl) (by first | exact h1 (by omega) | exact h0 (by omega))
set_option maxRecDepth 100000 in
set_option maxHeartbeats 4000000 in
theorem cM_isId {g : ed_g} {l : Launch} (hl : l.stackTraces = false) {Y : ed_Y} {I : ed_I} {L : ed_L} {a : Int} (hr : -2147483648 ≤ a ∧ a ≤ 2147483647) {post : ed_post} (h1 : 1 ≤ a ∧ a ≤ 40 → post (.inl (some (.int (iZ 1)))) Y I L) (h0 : ¬ (1 ≤ a ∧ a ≤ 40) → post (.inl (some (.int (iZ 0)))) Y I L) : ed_Ct g l mM_isId 1 0 0 [.int (iZ a)] Y I L post := by
  refine ed_Ct.of hl rfl (Nat.le_of_ble_eq_true rfl) (fun x _ C => ?_)
  show Gd g x post _ _ _ _ _ _ _ _ 0 [(0, _)] []
  refine r_ild C dM_isId_0 rfl ?_
  refine r_i2l C dM_isId_1 (by omega) ?_
  refine r_lk C dM_isId_2 ?_
  refine r_lk C dM_isId_3 ?_
  refine r_callS C lzM_isIn dM_isId_6 [_, _, _] [] rfl rfl (Nat.le_of_ble_eq_true rfl) ⟨(Nat.le_of_ble_eq_true rfl), (Nat.le_of_ble_eq_true rfl), (Nat.le_of_ble_eq_true rfl), (Nat.le_of_ble_eq_true rfl)⟩ rfl (cM_isIn C.2.2.2.2.2.1 (by omega) (fun b6 => ?_) (fun b6 => ?_))
  · exact r_zret C dM_isId_9 rfl (by omega) (Nat.le_of_ble_eq_true rfl) (Nat.le_of_ble_eq_true rfl) (by first | exact h1 (by omega) | exact h0 (by omega))
  · exact r_zret C dM_isId_9 rfl (by omega) (Nat.le_of_ble_eq_true rfl) (Nat.le_of_ble_eq_true rfl) (by first | exact h1 (by omega) | exact h0 (by omega))
set_option maxRecDepth 100000 in
set_option maxHeartbeats 4000000 in
theorem cM_isCents {g : ed_g} {l : Launch} (hl : l.stackTraces = false) {Y : ed_Y} {I : ed_I} {L : ed_L} {a : Int} (hr : -9223372036854775808 ≤ a ∧ a ≤ 9223372036854775807) {post : ed_post} (h1 : 0 ≤ a ∧ a ≤ 1000000000000 → post (.inl (some (.int (iZ 1)))) Y I L) (h0 : ¬ (0 ≤ a ∧ a ≤ 1000000000000) → post (.inl (some (.int (iZ 0)))) Y I L) : ed_Ct g l mM_isCents 1 0 0 [.long (lZ a)] Y I L post := by
  refine ed_Ct.of hl rfl (Nat.le_of_ble_eq_true rfl) (fun x _ C => ?_)
  show Gd g x post _ _ _ _ _ _ _ _ 0 [(0, _)] []
  refine r_lld C dM_isCents_0 rfl ?_
  refine r_lk C dM_isCents_1 ?_
  refine r_lk C dM_isCents_2 ?_
  refine r_callS C lzM_isIn dM_isCents_5 [_, _, _] [] rfl rfl (Nat.le_of_ble_eq_true rfl) ⟨(Nat.le_of_ble_eq_true rfl), (Nat.le_of_ble_eq_true rfl), (Nat.le_of_ble_eq_true rfl), (Nat.le_of_ble_eq_true rfl)⟩ rfl (cM_isIn C.2.2.2.2.2.1 (by omega) (fun b5 => ?_) (fun b5 => ?_))
  · exact r_zret C dM_isCents_8 rfl (by omega) (Nat.le_of_ble_eq_true rfl) (Nat.le_of_ble_eq_true rfl) (by first | exact h1 (by omega) | exact h0 (by omega))
  · exact r_zret C dM_isCents_8 rfl (by omega) (Nat.le_of_ble_eq_true rfl) (Nat.le_of_ble_eq_true rfl) (by first | exact h1 (by omega) | exact h0 (by omega))
set_option maxRecDepth 100000 in
set_option maxHeartbeats 4000000 in
theorem cM_isBarred {g : ed_g} {l : Launch} (hl : l.stackTraces = false) {I : ed_I} {L : ed_L} {v w : Int} (hv : v = 0 ∨ v = 1) (hw : w = 0 ∨ w = 1) (hc : I 79 2 = 0 ∨ I 79 2 = 1) {post : ed_post} (h1 : v = 0 → post (.inl (some (.int (iZ 1)))) Yw (upI I 79 0 1) L) (h2 : v ≠ 0 → (I 79 2 ≠ 0 ∨ w = 0) → post (.inl (some (.int (iZ 1)))) Yw (upI I 79 0 2) L) (h0 : v ≠ 0 → I 79 2 = 0 → w ≠ 0 → post (.inl (some (.int (iZ 0)))) Yw (upI (upI I 79 0 0) 79 4 0) L) : ed_Ct g l mM_isBarred 1 0 0 [.ref 79, .int (iZ v), .int (iZ w)] Yw I L post := by
  refine ed_Ct.of hl rfl (Nat.le_of_ble_eq_true rfl) (fun x _ C => ?_)
  show Gd g x post _ _ _ _ _ _ _ _ 0 [(0, _), (1, _), (2, _)] []
  refine r_ald C dM_isBarred_0 rfl ?_
  refine r_ild C dM_isBarred_1 rfl ?_
  refine r_if_ne C dM_isBarred_2 (by omega) (fun b2 => ?_) (fun b2 => ?_)
  · refine r_ald C dM_isBarred_9 rfl ?_
    refine r_getI (z := 2) C dM_isBarred_10 rfl rfl rfl ?_
    refine r_if_ne C dM_isBarred_13 (by omega) (fun b13 => ?_) (fun b13 => ?_)
    · refine r_ik C dM_isBarred_20 ?_
      refine r_goto C dM_isBarred_21 ?_
      refine r_callV C lzM_refused dM_isBarred_25 _ [_] [] rfl rfl rfl rfl rfl (Nat.le_of_ble_eq_true rfl) ⟨(Nat.le_of_ble_eq_true rfl), (Nat.le_of_ble_eq_true rfl), (Nat.le_of_ble_eq_true rfl), (Nat.le_of_ble_eq_true rfl)⟩ rfl (cM_refused C.2.2.2.2.2.1 (by omega) (fun _ => ?_) (fun h => absurd h (by decide)))
      refine r_if_eq C dM_isBarred_28 (by omega) (fun b28 => ?_) (fun b28 => ?_)
      · omega
      · refine r_ik C dM_isBarred_31 ?_
        exact r_zret C dM_isBarred_32 rfl (by omega) (Nat.le_of_ble_eq_true rfl) (Nat.le_of_ble_eq_true rfl) (by first | exact h1 (by omega) | exact h2 (by omega) (by omega) | exact h0 (by omega) (by omega) (by omega))
    · refine r_ild C dM_isBarred_16 rfl ?_
      refine r_if_ne C dM_isBarred_17 (by omega) (fun b17 => ?_) (fun b17 => ?_)
      · refine r_ik C dM_isBarred_24 ?_
        refine r_callV C lzM_refused dM_isBarred_25 _ [_] [] rfl rfl rfl rfl rfl (Nat.le_of_ble_eq_true rfl) ⟨(Nat.le_of_ble_eq_true rfl), (Nat.le_of_ble_eq_true rfl), (Nat.le_of_ble_eq_true rfl), (Nat.le_of_ble_eq_true rfl)⟩ rfl (cM_refused C.2.2.2.2.2.1 (by omega) (fun h => absurd h (by decide)) (fun _ => ?_))
        refine r_if_eq C dM_isBarred_28 (by omega) (fun b28 => ?_) (fun b28 => ?_)
        · refine r_ald C dM_isBarred_33 rfl ?_
          refine r_ik C dM_isBarred_34 ?_
          refine r_putI (z := 4) C dM_isBarred_35 rfl rfl rfl rfl (ed_pz7_4 (by omega)) ?_
          refine r_ik C dM_isBarred_38 ?_
          exact r_zret C dM_isBarred_39 rfl (by omega) (Nat.le_of_ble_eq_true rfl) (Nat.le_of_ble_eq_true rfl) (by first | exact h1 (by omega) | exact h2 (by omega) (by omega) | exact h0 (by omega) (by omega) (by omega))
        · omega
      · refine r_ik C dM_isBarred_20 ?_
        refine r_goto C dM_isBarred_21 ?_
        refine r_callV C lzM_refused dM_isBarred_25 _ [_] [] rfl rfl rfl rfl rfl (Nat.le_of_ble_eq_true rfl) ⟨(Nat.le_of_ble_eq_true rfl), (Nat.le_of_ble_eq_true rfl), (Nat.le_of_ble_eq_true rfl), (Nat.le_of_ble_eq_true rfl)⟩ rfl (cM_refused C.2.2.2.2.2.1 (by omega) (fun _ => ?_) (fun h => absurd h (by decide)))
        refine r_if_eq C dM_isBarred_28 (by omega) (fun b28 => ?_) (fun b28 => ?_)
        · omega
        · refine r_ik C dM_isBarred_31 ?_
          exact r_zret C dM_isBarred_32 rfl (by omega) (Nat.le_of_ble_eq_true rfl) (Nat.le_of_ble_eq_true rfl) (by first | exact h1 (by omega) | exact h2 (by omega) (by omega) | exact h0 (by omega) (by omega) (by omega))
  · refine r_ik C dM_isBarred_5 ?_
    refine r_goto C dM_isBarred_6 ?_
    refine r_callV C lzM_refused dM_isBarred_25 _ [_] [] rfl rfl rfl rfl rfl (Nat.le_of_ble_eq_true rfl) ⟨(Nat.le_of_ble_eq_true rfl), (Nat.le_of_ble_eq_true rfl), (Nat.le_of_ble_eq_true rfl), (Nat.le_of_ble_eq_true rfl)⟩ rfl (cM_refused C.2.2.2.2.2.1 (by omega) (fun _ => ?_) (fun h => absurd h (by decide)))
    refine r_if_eq C dM_isBarred_28 (by omega) (fun b28 => ?_) (fun b28 => ?_)
    · omega
    · refine r_ik C dM_isBarred_31 ?_
      exact r_zret C dM_isBarred_32 rfl (by omega) (Nat.le_of_ble_eq_true rfl) (Nat.le_of_ble_eq_true rfl) (by first | exact h1 (by omega) | exact h2 (by omega) (by omega) | exact h0 (by omega) (by omega) (by omega))
set_option maxRecDepth 100000 in
set_option maxHeartbeats 4000000 in
theorem cM_isWrong {g : ed_g} {l : Launch} (hl : l.stackTraces = false) {I : ed_I} {L : ed_L} {v : Int} (hv : v = 0 ∨ v = 1) (hs : I 79 3 = 0 ∨ I 79 3 = 1) {post : ed_post} (h1 : v = 0 → post (.inl (some (.int (iZ 1)))) Yw (upI I 79 0 1) L) (h2 : v ≠ 0 → I 79 3 = 0 → post (.inl (some (.int (iZ 1)))) Yw (upI I 79 0 2) L) (h0 : v ≠ 0 → I 79 3 ≠ 0 → post (.inl (some (.int (iZ 0)))) Yw (upI I 79 0 0) L) : ed_Ct g l mM_isWrong 1 0 0 [.ref 79, .int (iZ v)] Yw I L post := by
  refine ed_Ct.of hl rfl (Nat.le_of_ble_eq_true rfl) (fun x _ C => ?_)
  show Gd g x post _ _ _ _ _ _ _ _ 0 [(0, _), (1, _)] []
  refine r_ald C dM_isWrong_0 rfl ?_
  refine r_ild C dM_isWrong_1 rfl ?_
  refine r_if_ne C dM_isWrong_2 (by omega) (fun b2 => ?_) (fun b2 => ?_)
  · refine r_ald C dM_isWrong_9 rfl ?_
    refine r_getI (z := 3) C dM_isWrong_10 rfl rfl rfl ?_
    refine r_if_ne C dM_isWrong_13 (by omega) (fun b13 => ?_) (fun b13 => ?_)
    · refine r_ik C dM_isWrong_20 ?_
      refine r_callV C lzM_refused dM_isWrong_21 _ [_] [] rfl rfl rfl rfl rfl (Nat.le_of_ble_eq_true rfl) ⟨(Nat.le_of_ble_eq_true rfl), (Nat.le_of_ble_eq_true rfl), (Nat.le_of_ble_eq_true rfl), (Nat.le_of_ble_eq_true rfl)⟩ rfl (cM_refused C.2.2.2.2.2.1 (by omega) (fun h => absurd h (by decide)) (fun _ => ?_))
      exact r_zret C dM_isWrong_24 rfl (by omega) (Nat.le_of_ble_eq_true rfl) (Nat.le_of_ble_eq_true rfl) (by first | exact h1 (by omega) | exact h2 (by omega) (by omega) | exact h0 (by omega) (by omega))
    · refine r_ik C dM_isWrong_16 ?_
      refine r_goto C dM_isWrong_17 ?_
      refine r_callV C lzM_refused dM_isWrong_21 _ [_] [] rfl rfl rfl rfl rfl (Nat.le_of_ble_eq_true rfl) ⟨(Nat.le_of_ble_eq_true rfl), (Nat.le_of_ble_eq_true rfl), (Nat.le_of_ble_eq_true rfl), (Nat.le_of_ble_eq_true rfl)⟩ rfl (cM_refused C.2.2.2.2.2.1 (by omega) (fun _ => ?_) (fun h => absurd h (by decide)))
      exact r_zret C dM_isWrong_24 rfl (by omega) (Nat.le_of_ble_eq_true rfl) (Nat.le_of_ble_eq_true rfl) (by first | exact h1 (by omega) | exact h2 (by omega) (by omega) | exact h0 (by omega) (by omega))
  · refine r_ik C dM_isWrong_5 ?_
    refine r_goto C dM_isWrong_6 ?_
    refine r_callV C lzM_refused dM_isWrong_21 _ [_] [] rfl rfl rfl rfl rfl (Nat.le_of_ble_eq_true rfl) ⟨(Nat.le_of_ble_eq_true rfl), (Nat.le_of_ble_eq_true rfl), (Nat.le_of_ble_eq_true rfl), (Nat.le_of_ble_eq_true rfl)⟩ rfl (cM_refused C.2.2.2.2.2.1 (by omega) (fun _ => ?_) (fun h => absurd h (by decide)))
    exact r_zret C dM_isWrong_24 rfl (by omega) (Nat.le_of_ble_eq_true rfl) (Nat.le_of_ble_eq_true rfl) (by first | exact h1 (by omega) | exact h2 (by omega) (by omega) | exact h0 (by omega) (by omega))
set_option maxRecDepth 100000 in
set_option maxHeartbeats 4000000 in
theorem cM_hasAsset {g : ed_g} {l : Launch} (hl : l.stackTraces = false) {I : ed_I} {L : ed_L} {a : Int} (ha : -2147483648 ≤ a ∧ a ≤ 2147483647) (hk : ∀ j, 0 ≤ j → j ≤ 40 → I 81 j = 0 ∨ I 81 j = 1) {post : ed_post} (h1 : (1 ≤ a ∧ a ≤ 40) ∧ I 81 a ≠ 0 → post (.inl (some (.int (iZ 1)))) Yw I L) (h0 : ¬ ((1 ≤ a ∧ a ≤ 40) ∧ I 81 a ≠ 0) → post (.inl (some (.int (iZ 0)))) Yw I L) : ed_Ct g l mM_hasAsset 2 0 0 [.ref 79, .int (iZ a)] Yw I L post := by
  refine ed_Ct.of hl rfl (Nat.le_of_ble_eq_true rfl) (fun x _ C => ?_)
  show Gd g x post _ _ _ _ _ _ _ _ 0 [(0, _), (1, _)] []
  have hka := fun (h : 0 ≤ a ∧ a ≤ 40) => hk a h.1 h.2
  refine r_ild C dM_hasAsset_0 rfl ?_
  refine r_callS C lzM_isId dM_hasAsset_1 [_] [] rfl rfl (Nat.le_of_ble_eq_true rfl) ⟨(Nat.le_of_ble_eq_true rfl), (Nat.le_of_ble_eq_true rfl), (Nat.le_of_ble_eq_true rfl), (Nat.le_of_ble_eq_true rfl)⟩ rfl (cM_isId C.2.2.2.2.2.1 (by omega) (fun b1 => ?_) (fun b1 => ?_))
  · refine r_if_eq C dM_hasAsset_4 (by omega) (fun b4 => ?_) (fun b4 => ?_)
    · omega
    · refine r_ald C dM_hasAsset_7 rfl ?_
      refine r_getR C dM_hasAsset_8 rfl rfl ?_
      refine r_ild C dM_hasAsset_11 rfl ?_
      refine r_zald C dM_hasAsset_12 rfl ⟨by omega, by omega⟩ (by decide) ?_
      refine r_if_eq C dM_hasAsset_13 (by omega) (fun b13 => ?_) (fun b13 => ?_)
      · refine r_ik C dM_hasAsset_20 ?_
        exact r_zret C dM_hasAsset_21 rfl (by omega) (Nat.le_of_ble_eq_true rfl) (Nat.le_of_ble_eq_true rfl) (by first | exact h1 (by omega) | exact h0 (by omega))
      · refine r_ik C dM_hasAsset_16 ?_
        refine r_goto C dM_hasAsset_17 ?_
        exact r_zret C dM_hasAsset_21 rfl (by omega) (Nat.le_of_ble_eq_true rfl) (Nat.le_of_ble_eq_true rfl) (by first | exact h1 (by omega) | exact h0 (by omega))
  · refine r_if_eq C dM_hasAsset_4 (by omega) (fun b4 => ?_) (fun b4 => ?_)
    · refine r_ik C dM_hasAsset_20 ?_
      exact r_zret C dM_hasAsset_21 rfl (by omega) (Nat.le_of_ble_eq_true rfl) (Nat.le_of_ble_eq_true rfl) (by first | exact h1 (by omega) | exact h0 (by omega))
    · omega
set_option maxRecDepth 100000 in
set_option maxHeartbeats 4000000 in
theorem cM_tell {g : ed_g} {l : Launch} (hl : l.stackTraces = false) {I : ed_I} {L : ed_L} {c k a m n : Int} (hc : 0 ≤ c ∧ c ≤ 40) {post : ed_post} (hn : post (.inl none) Yw (upI (upI (upI (upI I 85 c k) 86 c a) 88 c n) 89 c 1) (upI L 87 c m)) : ed_Ct g l mM_tell 0 0 0 [.ref 79, .int (iZ c), .int (iZ k), .int (iZ a), .long (lZ m), .int (iZ n)] Yw I L post := by
  refine ed_Ct.of hl rfl (Nat.le_of_ble_eq_true rfl) (fun x _ C => ?_)
  show Gd g x post _ _ _ _ _ _ _ _ 0 [(0, _), (1, _), (2, _), (3, _), (4, _), (6, _)] []
  refine r_ald C dM_tell_0 rfl ?_
  refine r_getR C dM_tell_1 rfl rfl ?_
  refine r_ild C dM_tell_4 rfl ?_
  refine r_ild C dM_tell_5 rfl ?_
  refine r_iast C dM_tell_6 rfl rfl ⟨by omega, by omega⟩ (by decide) ?_
  refine r_ald C dM_tell_7 rfl ?_
  refine r_getR C dM_tell_8 rfl rfl ?_
  refine r_ild C dM_tell_11 rfl ?_
  refine r_ild C dM_tell_12 rfl ?_
  refine r_iast C dM_tell_13 rfl rfl ⟨by omega, by omega⟩ (by decide) ?_
  refine r_ald C dM_tell_14 rfl ?_
  refine r_getR C dM_tell_15 rfl rfl ?_
  refine r_ild C dM_tell_18 rfl ?_
  refine r_lld C dM_tell_19 rfl ?_
  refine r_last C dM_tell_21 rfl rfl ⟨by omega, by omega⟩ (by decide) ?_
  refine r_ald C dM_tell_22 rfl ?_
  refine r_getR C dM_tell_23 rfl rfl ?_
  refine r_ild C dM_tell_26 rfl ?_
  refine r_ild C dM_tell_27 rfl ?_
  refine r_iast C dM_tell_29 rfl rfl ⟨by omega, by omega⟩ (by decide) ?_
  refine r_ald C dM_tell_30 rfl ?_
  refine r_getR C dM_tell_31 rfl rfl ?_
  refine r_ild C dM_tell_34 rfl ?_
  refine r_ik C dM_tell_35 ?_
  refine r_zast C dM_tell_36 rfl rfl ⟨by omega, by omega⟩ (by decide) (by omega) ?_
  exact r_vret C dM_tell_37 rfl (Nat.le_of_ble_eq_true rfl) (Nat.le_of_ble_eq_true rfl) (hn)
set_option maxRecDepth 100000 in
set_option maxHeartbeats 4000000 in
theorem cM_table {g : ed_g} {l : Launch} (hl : l.stackTraces = false) {I : ed_I} {L : ed_L} {Y : ed_Y} {y a : Int} (hy : 0 ≤ y ∧ y ≤ 1000000000) (ha : 0 ≤ a ∧ a ≤ 99) {post : ed_post} (hp : post (.inl (some (.long (lZ (anV y a))))) Y I L) : ed_Ct g l mM_table 0 0 0 [.long (lZ y), .int (iZ a)] Y I L post := by
  refine ed_Ct.of hl rfl (Nat.le_of_ble_eq_true rfl) (fun x _ C => ?_)
  show Gd g x post _ _ _ _ _ _ _ _ 0 [(0, _), (2, _)] []
  have loop : ∀ (q : Nat) (i f t : Int), (102 - a - i).toNat < q → 1 ≤ i ∧ i ≤ 101 - a → f = anF (i - 1).toNat → t = anS (i - 1).toNat → Gd g x post 0 0 mM_table.2.2.1 0 0 Y I L 10 [(0, .long (lZ y)), (2, .int (iZ a)), (3, .long (lZ f)), (5, .long (lZ t)), (7, .int (iZ i))] [] := by
    intro q
    induction q with
    | zero => intro i f t hq; omega
    | succ q ih =>
      intro i f t hq g1 g2 g3
      have f1 := anF_in (i - 1).toNat
      have f2 := anM (n := (i - 1).toNat) hy (by omega)
      rw [← g3] at f2
      rw [← g2] at f1
      refine r_ild C dM_table_10 rfl ?_
      refine r_ik C dM_table_12 ?_
      refine r_ild C dM_table_14 rfl ?_
      refine r_isub C dM_table_15 ?_
      refine r_icmp_gt C dM_table_16 (by omega) (fun b16 => ?_) (fun b16 => ?_)
      · refine r_lld C dM_table_41 rfl ?_
        refine r_lld C dM_table_42 rfl ?_
        refine r_lmul C dM_table_44 ?_
        refine r_lk C dM_table_45 ?_
        refine r_ldiv C dM_table_48 (by omega) ?_
        exact r_lret C dM_table_49 rfl (Nat.le_of_ble_eq_true rfl) (Nat.le_of_ble_eq_true rfl) (by rw [g3, show (i - 1).toNat = (100 - a).toNat by omega]; exact hp)
      · refine r_lk C dM_table_19 ?_
        refine r_lld C dM_table_22 rfl ?_
        refine r_lmul C dM_table_23 ?_
        refine r_lk C dM_table_24 ?_
        refine r_ldiv C dM_table_27 (by omega) ?_
        refine r_lst C dM_table_28 (by decide) (ls' := [(0, _), (2, _), (3, _), (5, _), (7, _)]) rfl ?_
        refine r_lld C dM_table_29 rfl ?_
        refine r_lld C dM_table_31 rfl ?_
        refine r_ladd C dM_table_32 ?_
        refine r_lst C dM_table_33 (by decide) (ls' := [(0, _), (2, _), (3, _), (5, _), (7, _)]) rfl ?_
        refine r_iinc C dM_table_35 (by decide) rfl (ls' := [(0, _), (2, _), (3, _), (5, _), (7, _)]) rfl ?_
        refine r_goto C dM_table_38 ?_
        exact ih _ _ _ (by omega) (by omega) (by rw [(an_to g1.1).1, g2]) (by rw [(an_to g1.1).2, g2, g3])
  refine r_lk C dM_table_0 ?_
  refine r_lst C dM_table_3 (by decide) (ls' := [(0, _), (2, _), (3, _)]) rfl ?_
  refine r_lk C dM_table_4 ?_
  refine r_lst C dM_table_5 (by decide) (ls' := [(0, _), (2, _), (3, _), (5, _)]) rfl ?_
  refine r_ik C dM_table_7 ?_
  refine r_ist C dM_table_8 (by decide) (ls' := [(0, _), (2, _), (3, _), (5, _), (7, _)]) rfl ?_
  exact loop 200 1 1000000 0 (by omega) (by omega) rfl rfl
/-- another clause below n has the asset a, in a gift or (y) in a legacy -/
def mHad (I : ed_I) (c a y n : Int) : Prop := ∃ j, 1 ≤ j ∧ j < n ∧ j ≠ c ∧ (I 85 j = 1 ∨ (y ≠ 0 ∧ I 85 j = 2)) ∧ I 86 j = a ∧ 0 < a
set_option maxRecDepth 100000 in
set_option maxHeartbeats 4000000 in
theorem cM_isHad {g : ed_g} {l : Launch} (hl : l.stackTraces = false) {I : ed_I} {L : ed_L} {c a y : Int} (hc : -2147483648 ≤ c ∧ c ≤ 2147483647) (ha : -2147483648 ≤ a ∧ a ≤ 2147483647) (hy : y = 0 ∨ y = 1) (hr : ∀ j, 0 ≤ j → j ≤ 40 → -1 ≤ I 86 j ∧ I 86 j ≤ 100000) (hr2 : ∀ j, 0 ≤ j → j ≤ 40 → -1 ≤ I 85 j ∧ I 85 j ≤ 100000) {post : ed_post} (h1 : mHad I c a y 41 → post (.inl (some (.int (iZ 1)))) Yw I L) (h0 : ¬ mHad I c a y 41 → post (.inl (some (.int (iZ 0)))) Yw I L) : ed_Ct g l mM_isHad 0 0 0 [.ref 79, .int (iZ c), .int (iZ a), .int (iZ y)] Yw I L post := by
  refine ed_Ct.of hl rfl (Nat.le_of_ble_eq_true rfl) (fun x _ C => ?_)
  show Gd g x post _ _ _ _ _ _ _ _ 0 [(0, _), (1, _), (2, _), (3, _)] []
  have loop : ∀ (q : Nat) (i b : Int), (41 - i).toNat < q → 1 ≤ i ∧ i ≤ 41 → (b = 0 ∨ b = 1) → (b = 1 ↔ mHad I c a y i) → Gd g x post 0 0 mM_isHad.2.2.1 0 0 Yw I L 6 [(0, .ref 79), (1, .int (iZ c)), (2, .int (iZ a)), (3, .int (iZ y)), (4, .int (iZ b)), (5, .int (iZ i))] [] := by
    intro q
    induction q with
    | zero => intro i b hq; omega
    | succ q ih =>
      intro i b hq g1 g2 g3
      have hri := fun (h : i ≤ 40) => hr i (by omega) h
      have hri2 := fun (h : i ≤ 40) => hr2 i (by omega) h
      refine r_ild C dM_isHad_6 rfl ?_
      refine r_ik C dM_isHad_8 ?_
      refine r_icmp_ge C dM_isHad_10 (by omega) (fun b10 => ?_) (fun b10 => ?_)
      · refine r_ild C dM_isHad_90 rfl ?_
        exact r_zret C dM_isHad_92 rfl (by omega) (Nat.le_of_ble_eq_true rfl) (Nat.le_of_ble_eq_true rfl) (by first | (rcases g2 with rfl | rfl; exact h0 (fun hh => by have := g3.mpr (by rw [show i = 41 by omega]; exact hh); omega); exact h1 (by rw [← show i = 41 by omega]; exact g3.mp rfl)))
      · refine r_ald C dM_isHad_13 rfl ?_
        refine r_getR C dM_isHad_14 rfl rfl ?_
        refine r_ild C dM_isHad_17 rfl ?_
        refine r_iald C dM_isHad_19 rfl ⟨by omega, by omega⟩ (by decide) ?_
        refine r_ik C dM_isHad_20 ?_
        refine r_icmp_eq C dM_isHad_21 (by omega) (fun b21 => ?_) (fun b21 => ?_)
        · refine r_ik C dM_isHad_39 ?_
          refine r_goto C dM_isHad_40 ?_
          refine r_ist C dM_isHad_44 (by decide) (ls' := [(0, _), (1, _), (2, _), (3, _), (4, _), (5, _), (6, _)]) rfl ?_
          refine r_ild C dM_isHad_46 rfl ?_
          refine r_if_ne C dM_isHad_48 (by omega) (fun b48 => ?_) (fun b48 => ?_)
          · refine r_ik C dM_isHad_77 ?_
            refine r_goto C dM_isHad_78 ?_
            refine r_ist C dM_isHad_82 (by decide) (ls' := [(0, _), (1, _), (2, _), (3, _), (4, _), (5, _), (6, _)]) rfl ?_
            refine r_iinc C dM_isHad_84 (by decide) rfl (ls' := [(0, _), (1, _), (2, _), (3, _), (4, _), (5, _), (6, _)]) rfl ?_
            refine r_goto C dM_isHad_87 ?_
            refine Gd.drop (ls := [(0, _), (1, _), (2, _), (3, _), (4, _), (5, _)]) (ls2 := [(6, _)]) (ih _ _ (by omega) (by omega) (by omega) ?_)
            constructor
            · intro h9
              first | omega | exact ⟨i, by omega, by omega, by omega, by omega, by omega, by omega⟩ | (obtain ⟨j, j1, j2, j3, j4, j5, j6⟩ := g3.mp (by omega); exact ⟨j, j1, by omega, j3, j4, j5, j6⟩)
            · rintro ⟨j, j1, j2, j3, j4, j5, j6⟩
              by_cases hj : j = i
              · subst hj; omega
              · first | omega | (have := g3.mpr ⟨j, j1, by omega, j3, j4, j5, j6⟩; omega)
          · refine r_ild C dM_isHad_51 rfl ?_
            refine r_ild C dM_isHad_53 rfl ?_
            refine r_icmp_eq C dM_isHad_54 (by omega) (fun b54 => ?_) (fun b54 => ?_)
            · refine r_ik C dM_isHad_81 ?_
              refine r_ist C dM_isHad_82 (by decide) (ls' := [(0, _), (1, _), (2, _), (3, _), (4, _), (5, _), (6, _)]) rfl ?_
              refine r_iinc C dM_isHad_84 (by decide) rfl (ls' := [(0, _), (1, _), (2, _), (3, _), (4, _), (5, _), (6, _)]) rfl ?_
              refine r_goto C dM_isHad_87 ?_
              refine Gd.drop (ls := [(0, _), (1, _), (2, _), (3, _), (4, _), (5, _)]) (ls2 := [(6, _)]) (ih _ _ (by omega) (by omega) (by omega) ?_)
              constructor
              · intro h9
                first | omega | exact ⟨i, by omega, by omega, by omega, by omega, by omega, by omega⟩ | (obtain ⟨j, j1, j2, j3, j4, j5, j6⟩ := g3.mp (by omega); exact ⟨j, j1, by omega, j3, j4, j5, j6⟩)
              · rintro ⟨j, j1, j2, j3, j4, j5, j6⟩
                by_cases hj : j = i
                · subst hj; omega
                · first | omega | (have := g3.mpr ⟨j, j1, by omega, j3, j4, j5, j6⟩; omega)
            · refine r_ild C dM_isHad_57 rfl ?_
              refine r_if_eq C dM_isHad_59 (by omega) (fun b59 => ?_) (fun b59 => ?_)
              · omega
              · refine r_ald C dM_isHad_62 rfl ?_
                refine r_getR C dM_isHad_63 rfl rfl ?_
                refine r_ild C dM_isHad_66 rfl ?_
                refine r_iald C dM_isHad_68 rfl ⟨by omega, by omega⟩ (by decide) ?_
                refine r_ild C dM_isHad_69 rfl ?_
                refine r_icmp_ne C dM_isHad_70 (by omega) (fun b70 => ?_) (fun b70 => ?_)
                · refine r_ik C dM_isHad_81 ?_
                  refine r_ist C dM_isHad_82 (by decide) (ls' := [(0, _), (1, _), (2, _), (3, _), (4, _), (5, _), (6, _)]) rfl ?_
                  refine r_iinc C dM_isHad_84 (by decide) rfl (ls' := [(0, _), (1, _), (2, _), (3, _), (4, _), (5, _), (6, _)]) rfl ?_
                  refine r_goto C dM_isHad_87 ?_
                  refine Gd.drop (ls := [(0, _), (1, _), (2, _), (3, _), (4, _), (5, _)]) (ls2 := [(6, _)]) (ih _ _ (by omega) (by omega) (by omega) ?_)
                  constructor
                  · intro h9
                    first | omega | exact ⟨i, by omega, by omega, by omega, by omega, by omega, by omega⟩ | (obtain ⟨j, j1, j2, j3, j4, j5, j6⟩ := g3.mp (by omega); exact ⟨j, j1, by omega, j3, j4, j5, j6⟩)
                  · rintro ⟨j, j1, j2, j3, j4, j5, j6⟩
                    by_cases hj : j = i
                    · subst hj; omega
                    · first | omega | (have := g3.mpr ⟨j, j1, by omega, j3, j4, j5, j6⟩; omega)
                · refine r_ild C dM_isHad_73 rfl ?_
                  refine r_if_le C dM_isHad_74 (by omega) (fun b74 => ?_) (fun b74 => ?_)
                  · refine r_ik C dM_isHad_81 ?_
                    refine r_ist C dM_isHad_82 (by decide) (ls' := [(0, _), (1, _), (2, _), (3, _), (4, _), (5, _), (6, _)]) rfl ?_
                    refine r_iinc C dM_isHad_84 (by decide) rfl (ls' := [(0, _), (1, _), (2, _), (3, _), (4, _), (5, _), (6, _)]) rfl ?_
                    refine r_goto C dM_isHad_87 ?_
                    refine Gd.drop (ls := [(0, _), (1, _), (2, _), (3, _), (4, _), (5, _)]) (ls2 := [(6, _)]) (ih _ _ (by omega) (by omega) (by omega) ?_)
                    constructor
                    · intro h9
                      first | omega | exact ⟨i, by omega, by omega, by omega, by omega, by omega, by omega⟩ | (obtain ⟨j, j1, j2, j3, j4, j5, j6⟩ := g3.mp (by omega); exact ⟨j, j1, by omega, j3, j4, j5, j6⟩)
                    · rintro ⟨j, j1, j2, j3, j4, j5, j6⟩
                      by_cases hj : j = i
                      · subst hj; omega
                      · first | omega | (have := g3.mpr ⟨j, j1, by omega, j3, j4, j5, j6⟩; omega)
                  · refine r_ik C dM_isHad_77 ?_
                    refine r_goto C dM_isHad_78 ?_
                    refine r_ist C dM_isHad_82 (by decide) (ls' := [(0, _), (1, _), (2, _), (3, _), (4, _), (5, _), (6, _)]) rfl ?_
                    refine r_iinc C dM_isHad_84 (by decide) rfl (ls' := [(0, _), (1, _), (2, _), (3, _), (4, _), (5, _), (6, _)]) rfl ?_
                    refine r_goto C dM_isHad_87 ?_
                    refine Gd.drop (ls := [(0, _), (1, _), (2, _), (3, _), (4, _), (5, _)]) (ls2 := [(6, _)]) (ih _ _ (by omega) (by omega) (by omega) ?_)
                    constructor
                    · intro h9
                      first | omega | exact ⟨i, by omega, by omega, by omega, by omega, by omega, by omega⟩ | (obtain ⟨j, j1, j2, j3, j4, j5, j6⟩ := g3.mp (by omega); exact ⟨j, j1, by omega, j3, j4, j5, j6⟩)
                    · rintro ⟨j, j1, j2, j3, j4, j5, j6⟩
                      by_cases hj : j = i
                      · subst hj; omega
                      · first | omega | (have := g3.mpr ⟨j, j1, by omega, j3, j4, j5, j6⟩; omega)
        · refine r_ild C dM_isHad_24 rfl ?_
          refine r_if_eq C dM_isHad_25 (by omega) (fun b25 => ?_) (fun b25 => ?_)
          · refine r_ik C dM_isHad_43 ?_
            refine r_ist C dM_isHad_44 (by decide) (ls' := [(0, _), (1, _), (2, _), (3, _), (4, _), (5, _), (6, _)]) rfl ?_
            refine r_ild C dM_isHad_46 rfl ?_
            refine r_if_ne C dM_isHad_48 (by omega) (fun b48 => ?_) (fun b48 => ?_)
            · refine r_ik C dM_isHad_77 ?_
              refine r_goto C dM_isHad_78 ?_
              refine r_ist C dM_isHad_82 (by decide) (ls' := [(0, _), (1, _), (2, _), (3, _), (4, _), (5, _), (6, _)]) rfl ?_
              refine r_iinc C dM_isHad_84 (by decide) rfl (ls' := [(0, _), (1, _), (2, _), (3, _), (4, _), (5, _), (6, _)]) rfl ?_
              refine r_goto C dM_isHad_87 ?_
              refine Gd.drop (ls := [(0, _), (1, _), (2, _), (3, _), (4, _), (5, _)]) (ls2 := [(6, _)]) (ih _ _ (by omega) (by omega) (by omega) ?_)
              constructor
              · intro h9
                first | omega | exact ⟨i, by omega, by omega, by omega, by omega, by omega, by omega⟩ | (obtain ⟨j, j1, j2, j3, j4, j5, j6⟩ := g3.mp (by omega); exact ⟨j, j1, by omega, j3, j4, j5, j6⟩)
              · rintro ⟨j, j1, j2, j3, j4, j5, j6⟩
                by_cases hj : j = i
                · subst hj; omega
                · first | omega | (have := g3.mpr ⟨j, j1, by omega, j3, j4, j5, j6⟩; omega)
            · refine r_ild C dM_isHad_51 rfl ?_
              refine r_ild C dM_isHad_53 rfl ?_
              refine r_icmp_eq C dM_isHad_54 (by omega) (fun b54 => ?_) (fun b54 => ?_)
              · refine r_ik C dM_isHad_81 ?_
                refine r_ist C dM_isHad_82 (by decide) (ls' := [(0, _), (1, _), (2, _), (3, _), (4, _), (5, _), (6, _)]) rfl ?_
                refine r_iinc C dM_isHad_84 (by decide) rfl (ls' := [(0, _), (1, _), (2, _), (3, _), (4, _), (5, _), (6, _)]) rfl ?_
                refine r_goto C dM_isHad_87 ?_
                refine Gd.drop (ls := [(0, _), (1, _), (2, _), (3, _), (4, _), (5, _)]) (ls2 := [(6, _)]) (ih _ _ (by omega) (by omega) (by omega) ?_)
                constructor
                · intro h9
                  first | omega | exact ⟨i, by omega, by omega, by omega, by omega, by omega, by omega⟩ | (obtain ⟨j, j1, j2, j3, j4, j5, j6⟩ := g3.mp (by omega); exact ⟨j, j1, by omega, j3, j4, j5, j6⟩)
                · rintro ⟨j, j1, j2, j3, j4, j5, j6⟩
                  by_cases hj : j = i
                  · subst hj; omega
                  · first | omega | (have := g3.mpr ⟨j, j1, by omega, j3, j4, j5, j6⟩; omega)
              · refine r_ild C dM_isHad_57 rfl ?_
                refine r_if_eq C dM_isHad_59 (by omega) (fun b59 => ?_) (fun b59 => ?_)
                · refine r_ik C dM_isHad_81 ?_
                  refine r_ist C dM_isHad_82 (by decide) (ls' := [(0, _), (1, _), (2, _), (3, _), (4, _), (5, _), (6, _)]) rfl ?_
                  refine r_iinc C dM_isHad_84 (by decide) rfl (ls' := [(0, _), (1, _), (2, _), (3, _), (4, _), (5, _), (6, _)]) rfl ?_
                  refine r_goto C dM_isHad_87 ?_
                  refine Gd.drop (ls := [(0, _), (1, _), (2, _), (3, _), (4, _), (5, _)]) (ls2 := [(6, _)]) (ih _ _ (by omega) (by omega) (by omega) ?_)
                  constructor
                  · intro h9
                    first | omega | exact ⟨i, by omega, by omega, by omega, by omega, by omega, by omega⟩ | (obtain ⟨j, j1, j2, j3, j4, j5, j6⟩ := g3.mp (by omega); exact ⟨j, j1, by omega, j3, j4, j5, j6⟩)
                  · rintro ⟨j, j1, j2, j3, j4, j5, j6⟩
                    by_cases hj : j = i
                    · subst hj; omega
                    · first | omega | (have := g3.mpr ⟨j, j1, by omega, j3, j4, j5, j6⟩; omega)
                · omega
          · refine r_ald C dM_isHad_28 rfl ?_
            refine r_getR C dM_isHad_29 rfl rfl ?_
            refine r_ild C dM_isHad_32 rfl ?_
            refine r_iald C dM_isHad_34 rfl ⟨by omega, by omega⟩ (by decide) ?_
            refine r_ik C dM_isHad_35 ?_
            refine r_icmp_ne C dM_isHad_36 (by omega) (fun b36 => ?_) (fun b36 => ?_)
            · refine r_ik C dM_isHad_43 ?_
              refine r_ist C dM_isHad_44 (by decide) (ls' := [(0, _), (1, _), (2, _), (3, _), (4, _), (5, _), (6, _)]) rfl ?_
              refine r_ild C dM_isHad_46 rfl ?_
              refine r_if_ne C dM_isHad_48 (by omega) (fun b48 => ?_) (fun b48 => ?_)
              · refine r_ik C dM_isHad_77 ?_
                refine r_goto C dM_isHad_78 ?_
                refine r_ist C dM_isHad_82 (by decide) (ls' := [(0, _), (1, _), (2, _), (3, _), (4, _), (5, _), (6, _)]) rfl ?_
                refine r_iinc C dM_isHad_84 (by decide) rfl (ls' := [(0, _), (1, _), (2, _), (3, _), (4, _), (5, _), (6, _)]) rfl ?_
                refine r_goto C dM_isHad_87 ?_
                refine Gd.drop (ls := [(0, _), (1, _), (2, _), (3, _), (4, _), (5, _)]) (ls2 := [(6, _)]) (ih _ _ (by omega) (by omega) (by omega) ?_)
                constructor
                · intro h9
                  first | omega | exact ⟨i, by omega, by omega, by omega, by omega, by omega, by omega⟩ | (obtain ⟨j, j1, j2, j3, j4, j5, j6⟩ := g3.mp (by omega); exact ⟨j, j1, by omega, j3, j4, j5, j6⟩)
                · rintro ⟨j, j1, j2, j3, j4, j5, j6⟩
                  by_cases hj : j = i
                  · subst hj; omega
                  · first | omega | (have := g3.mpr ⟨j, j1, by omega, j3, j4, j5, j6⟩; omega)
              · refine r_ild C dM_isHad_51 rfl ?_
                refine r_ild C dM_isHad_53 rfl ?_
                refine r_icmp_eq C dM_isHad_54 (by omega) (fun b54 => ?_) (fun b54 => ?_)
                · refine r_ik C dM_isHad_81 ?_
                  refine r_ist C dM_isHad_82 (by decide) (ls' := [(0, _), (1, _), (2, _), (3, _), (4, _), (5, _), (6, _)]) rfl ?_
                  refine r_iinc C dM_isHad_84 (by decide) rfl (ls' := [(0, _), (1, _), (2, _), (3, _), (4, _), (5, _), (6, _)]) rfl ?_
                  refine r_goto C dM_isHad_87 ?_
                  refine Gd.drop (ls := [(0, _), (1, _), (2, _), (3, _), (4, _), (5, _)]) (ls2 := [(6, _)]) (ih _ _ (by omega) (by omega) (by omega) ?_)
                  constructor
                  · intro h9
                    first | omega | exact ⟨i, by omega, by omega, by omega, by omega, by omega, by omega⟩ | (obtain ⟨j, j1, j2, j3, j4, j5, j6⟩ := g3.mp (by omega); exact ⟨j, j1, by omega, j3, j4, j5, j6⟩)
                  · rintro ⟨j, j1, j2, j3, j4, j5, j6⟩
                    by_cases hj : j = i
                    · subst hj; omega
                    · first | omega | (have := g3.mpr ⟨j, j1, by omega, j3, j4, j5, j6⟩; omega)
                · refine r_ild C dM_isHad_57 rfl ?_
                  refine r_if_eq C dM_isHad_59 (by omega) (fun b59 => ?_) (fun b59 => ?_)
                  · refine r_ik C dM_isHad_81 ?_
                    refine r_ist C dM_isHad_82 (by decide) (ls' := [(0, _), (1, _), (2, _), (3, _), (4, _), (5, _), (6, _)]) rfl ?_
                    refine r_iinc C dM_isHad_84 (by decide) rfl (ls' := [(0, _), (1, _), (2, _), (3, _), (4, _), (5, _), (6, _)]) rfl ?_
                    refine r_goto C dM_isHad_87 ?_
                    refine Gd.drop (ls := [(0, _), (1, _), (2, _), (3, _), (4, _), (5, _)]) (ls2 := [(6, _)]) (ih _ _ (by omega) (by omega) (by omega) ?_)
                    constructor
                    · intro h9
                      first | omega | exact ⟨i, by omega, by omega, by omega, by omega, by omega, by omega⟩ | (obtain ⟨j, j1, j2, j3, j4, j5, j6⟩ := g3.mp (by omega); exact ⟨j, j1, by omega, j3, j4, j5, j6⟩)
                    · rintro ⟨j, j1, j2, j3, j4, j5, j6⟩
                      by_cases hj : j = i
                      · subst hj; omega
                      · first | omega | (have := g3.mpr ⟨j, j1, by omega, j3, j4, j5, j6⟩; omega)
                  · omega
            · refine r_ik C dM_isHad_39 ?_
              refine r_goto C dM_isHad_40 ?_
              refine r_ist C dM_isHad_44 (by decide) (ls' := [(0, _), (1, _), (2, _), (3, _), (4, _), (5, _), (6, _)]) rfl ?_
              refine r_ild C dM_isHad_46 rfl ?_
              refine r_if_ne C dM_isHad_48 (by omega) (fun b48 => ?_) (fun b48 => ?_)
              · refine r_ik C dM_isHad_77 ?_
                refine r_goto C dM_isHad_78 ?_
                refine r_ist C dM_isHad_82 (by decide) (ls' := [(0, _), (1, _), (2, _), (3, _), (4, _), (5, _), (6, _)]) rfl ?_
                refine r_iinc C dM_isHad_84 (by decide) rfl (ls' := [(0, _), (1, _), (2, _), (3, _), (4, _), (5, _), (6, _)]) rfl ?_
                refine r_goto C dM_isHad_87 ?_
                refine Gd.drop (ls := [(0, _), (1, _), (2, _), (3, _), (4, _), (5, _)]) (ls2 := [(6, _)]) (ih _ _ (by omega) (by omega) (by omega) ?_)
                constructor
                · intro h9
                  first | omega | exact ⟨i, by omega, by omega, by omega, by omega, by omega, by omega⟩ | (obtain ⟨j, j1, j2, j3, j4, j5, j6⟩ := g3.mp (by omega); exact ⟨j, j1, by omega, j3, j4, j5, j6⟩)
                · rintro ⟨j, j1, j2, j3, j4, j5, j6⟩
                  by_cases hj : j = i
                  · subst hj; omega
                  · first | omega | (have := g3.mpr ⟨j, j1, by omega, j3, j4, j5, j6⟩; omega)
              · refine r_ild C dM_isHad_51 rfl ?_
                refine r_ild C dM_isHad_53 rfl ?_
                refine r_icmp_eq C dM_isHad_54 (by omega) (fun b54 => ?_) (fun b54 => ?_)
                · refine r_ik C dM_isHad_81 ?_
                  refine r_ist C dM_isHad_82 (by decide) (ls' := [(0, _), (1, _), (2, _), (3, _), (4, _), (5, _), (6, _)]) rfl ?_
                  refine r_iinc C dM_isHad_84 (by decide) rfl (ls' := [(0, _), (1, _), (2, _), (3, _), (4, _), (5, _), (6, _)]) rfl ?_
                  refine r_goto C dM_isHad_87 ?_
                  refine Gd.drop (ls := [(0, _), (1, _), (2, _), (3, _), (4, _), (5, _)]) (ls2 := [(6, _)]) (ih _ _ (by omega) (by omega) (by omega) ?_)
                  constructor
                  · intro h9
                    first | omega | exact ⟨i, by omega, by omega, by omega, by omega, by omega, by omega⟩ | (obtain ⟨j, j1, j2, j3, j4, j5, j6⟩ := g3.mp (by omega); exact ⟨j, j1, by omega, j3, j4, j5, j6⟩)
                  · rintro ⟨j, j1, j2, j3, j4, j5, j6⟩
                    by_cases hj : j = i
                    · subst hj; omega
                    · first | omega | (have := g3.mpr ⟨j, j1, by omega, j3, j4, j5, j6⟩; omega)
                · refine r_ild C dM_isHad_57 rfl ?_
                  refine r_if_eq C dM_isHad_59 (by omega) (fun b59 => ?_) (fun b59 => ?_)
                  · omega
                  · refine r_ald C dM_isHad_62 rfl ?_
                    refine r_getR C dM_isHad_63 rfl rfl ?_
                    refine r_ild C dM_isHad_66 rfl ?_
                    refine r_iald C dM_isHad_68 rfl ⟨by omega, by omega⟩ (by decide) ?_
                    refine r_ild C dM_isHad_69 rfl ?_
                    refine r_icmp_ne C dM_isHad_70 (by omega) (fun b70 => ?_) (fun b70 => ?_)
                    · refine r_ik C dM_isHad_81 ?_
                      refine r_ist C dM_isHad_82 (by decide) (ls' := [(0, _), (1, _), (2, _), (3, _), (4, _), (5, _), (6, _)]) rfl ?_
                      refine r_iinc C dM_isHad_84 (by decide) rfl (ls' := [(0, _), (1, _), (2, _), (3, _), (4, _), (5, _), (6, _)]) rfl ?_
                      refine r_goto C dM_isHad_87 ?_
                      refine Gd.drop (ls := [(0, _), (1, _), (2, _), (3, _), (4, _), (5, _)]) (ls2 := [(6, _)]) (ih _ _ (by omega) (by omega) (by omega) ?_)
                      constructor
                      · intro h9
                        first | omega | exact ⟨i, by omega, by omega, by omega, by omega, by omega, by omega⟩ | (obtain ⟨j, j1, j2, j3, j4, j5, j6⟩ := g3.mp (by omega); exact ⟨j, j1, by omega, j3, j4, j5, j6⟩)
                      · rintro ⟨j, j1, j2, j3, j4, j5, j6⟩
                        by_cases hj : j = i
                        · subst hj; omega
                        · first | omega | (have := g3.mpr ⟨j, j1, by omega, j3, j4, j5, j6⟩; omega)
                    · refine r_ild C dM_isHad_73 rfl ?_
                      refine r_if_le C dM_isHad_74 (by omega) (fun b74 => ?_) (fun b74 => ?_)
                      · refine r_ik C dM_isHad_81 ?_
                        refine r_ist C dM_isHad_82 (by decide) (ls' := [(0, _), (1, _), (2, _), (3, _), (4, _), (5, _), (6, _)]) rfl ?_
                        refine r_iinc C dM_isHad_84 (by decide) rfl (ls' := [(0, _), (1, _), (2, _), (3, _), (4, _), (5, _), (6, _)]) rfl ?_
                        refine r_goto C dM_isHad_87 ?_
                        refine Gd.drop (ls := [(0, _), (1, _), (2, _), (3, _), (4, _), (5, _)]) (ls2 := [(6, _)]) (ih _ _ (by omega) (by omega) (by omega) ?_)
                        constructor
                        · intro h9
                          first | omega | exact ⟨i, by omega, by omega, by omega, by omega, by omega, by omega⟩ | (obtain ⟨j, j1, j2, j3, j4, j5, j6⟩ := g3.mp (by omega); exact ⟨j, j1, by omega, j3, j4, j5, j6⟩)
                        · rintro ⟨j, j1, j2, j3, j4, j5, j6⟩
                          by_cases hj : j = i
                          · subst hj; omega
                          · first | omega | (have := g3.mpr ⟨j, j1, by omega, j3, j4, j5, j6⟩; omega)
                      · refine r_ik C dM_isHad_77 ?_
                        refine r_goto C dM_isHad_78 ?_
                        refine r_ist C dM_isHad_82 (by decide) (ls' := [(0, _), (1, _), (2, _), (3, _), (4, _), (5, _), (6, _)]) rfl ?_
                        refine r_iinc C dM_isHad_84 (by decide) rfl (ls' := [(0, _), (1, _), (2, _), (3, _), (4, _), (5, _), (6, _)]) rfl ?_
                        refine r_goto C dM_isHad_87 ?_
                        refine Gd.drop (ls := [(0, _), (1, _), (2, _), (3, _), (4, _), (5, _)]) (ls2 := [(6, _)]) (ih _ _ (by omega) (by omega) (by omega) ?_)
                        constructor
                        · intro h9
                          first | omega | exact ⟨i, by omega, by omega, by omega, by omega, by omega, by omega⟩ | (obtain ⟨j, j1, j2, j3, j4, j5, j6⟩ := g3.mp (by omega); exact ⟨j, j1, by omega, j3, j4, j5, j6⟩)
                        · rintro ⟨j, j1, j2, j3, j4, j5, j6⟩
                          by_cases hj : j = i
                          · subst hj; omega
                          · first | omega | (have := g3.mpr ⟨j, j1, by omega, j3, j4, j5, j6⟩; omega)
  refine r_ik C dM_isHad_0 ?_
  refine r_ist C dM_isHad_1 (by decide) (ls' := [(0, _), (1, _), (2, _), (3, _), (4, _)]) rfl ?_
  refine r_ik C dM_isHad_3 ?_
  refine r_ist C dM_isHad_4 (by decide) (ls' := [(0, _), (1, _), (2, _), (3, _), (4, _), (5, _)]) rfl ?_
  exact loop 50 1 0 (by omega) (by omega) (by omega) (by constructor <;> (first | omega | (rintro ⟨j, j1, j2, -⟩; omega)))
set_option maxRecDepth 100000 in
set_option maxHeartbeats 4000000 in
theorem cM_testator {g : ed_g} {l : Launch} (hl : l.stackTraces = false) {I : ed_I} {L : ed_L} {a : Int} (ra : -2147483648 ≤ a ∧ a ≤ 2147483647) (hc : I 79 2 = 0 ∨ I 79 2 = 1) {post : ed_post} (h1 : ¬ (1 ≤ a ∧ a ≤ 100000) → post (.inl (none)) Yw (upI I 79 0 1) L) (h2 : (1 ≤ a ∧ a ≤ 100000) → ¬ (I 79 2 = 0) → post (.inl (none)) Yw (upI I 79 0 2) L) (hn : (1 ≤ a ∧ a ≤ 100000) → (I 79 2 = 0) → post (.inl (none)) Yw (upI (upI (upI I 79 0 0) 79 4 0) 79 1 a) L) : ed_Ct g l mM_testator 3 0 0 [.ref 79, .int (iZ a)] Yw I L post := by
  refine ed_Ct.of hl rfl (Nat.le_of_ble_eq_true rfl) (fun x _ C => ?_)
  show Gd g x post _ _ _ _ _ _ _ _ 0 [(0, _), (1, _)] []
  refine r_ald C dM_testator_0 rfl ?_
  refine r_ild C dM_testator_1 rfl ?_
  refine r_i2l C dM_testator_2 (by omega) ?_
  refine r_lk C dM_testator_3 ?_
  refine r_lk C dM_testator_4 ?_
  refine r_callS C lzM_isIn dM_testator_7 [_, _, _] [_] rfl rfl (Nat.le_of_ble_eq_true rfl) ⟨(Nat.le_of_ble_eq_true rfl), (Nat.le_of_ble_eq_true rfl), (Nat.le_of_ble_eq_true rfl), (Nat.le_of_ble_eq_true rfl)⟩ rfl (cM_isIn C.2.2.2.2.2.1 (by omega) (fun b7 => ?_) (fun b7 => ?_))
  · refine r_ik C dM_testator_10 ?_
    refine r_callV C lzM_isBarred dM_testator_11 _ [_, _] [] rfl rfl rfl rfl rfl (Nat.le_of_ble_eq_true rfl) ⟨(Nat.le_of_ble_eq_true rfl), (Nat.le_of_ble_eq_true rfl), (Nat.le_of_ble_eq_true rfl), (Nat.le_of_ble_eq_true rfl)⟩ rfl (cM_isBarred C.2.2.2.2.2.1 (by omega) (by omega) hc (fun h => absurd h (by decide)) (fun _ b11 => ?_) (fun _ b11 _ => ?_))
    · refine r_if_ne C dM_testator_14 (by omega) (fun b14 => ?_) (fun b14 => ?_)
      · exact r_vret C dM_testator_22 rfl (Nat.le_of_ble_eq_true rfl) (Nat.le_of_ble_eq_true rfl) (by first | exact h1 (by omega) | exact h2 (by omega) (by omega) | exact hn (by omega) (by omega))
      · omega
    · refine r_if_ne C dM_testator_14 (by omega) (fun b14 => ?_) (fun b14 => ?_)
      · omega
      · refine r_ald C dM_testator_17 rfl ?_
        refine r_ild C dM_testator_18 rfl ?_
        refine r_putI (z := 1) C dM_testator_19 rfl rfl rfl rfl (ed_pi7_1 _) ?_
        exact r_vret C dM_testator_22 rfl (Nat.le_of_ble_eq_true rfl) (Nat.le_of_ble_eq_true rfl) (by first | exact h1 (by omega) | exact h2 (by omega) (by omega) | exact hn (by omega) (by omega))
  · refine r_ik C dM_testator_10 ?_
    refine r_callV C lzM_isBarred dM_testator_11 _ [_, _] [] rfl rfl rfl rfl rfl (Nat.le_of_ble_eq_true rfl) ⟨(Nat.le_of_ble_eq_true rfl), (Nat.le_of_ble_eq_true rfl), (Nat.le_of_ble_eq_true rfl), (Nat.le_of_ble_eq_true rfl)⟩ rfl (cM_isBarred C.2.2.2.2.2.1 (by omega) (by omega) hc (fun _ => ?_) (fun h => absurd rfl h) (fun h => absurd rfl h))
    refine r_if_ne C dM_testator_14 (by omega) (fun b14 => ?_) (fun b14 => ?_)
    · exact r_vret C dM_testator_22 rfl (Nat.le_of_ble_eq_true rfl) (Nat.le_of_ble_eq_true rfl) (by first | exact h1 (by omega) | exact h2 (by omega) (by omega) | exact hn (by omega) (by omega))
    · omega
set_option maxRecDepth 100000 in
set_option maxHeartbeats 4000000 in
theorem cM_person {g : ed_g} {l : Launch} (hl : l.stackTraces = false) {I : ed_I} {L : ed_L} {a b : Int} (ra : -2147483648 ≤ a ∧ a ≤ 2147483647) (rb : -2147483648 ≤ b ∧ b ≤ 2147483647) (hc : I 79 2 = 0 ∨ I 79 2 = 1) {post : ed_post} (h1 : ¬ ((1 ≤ a ∧ a ≤ 40) ∧ 0 ≤ b ∧ b ≤ 100000) → post (.inl (none)) Yw (upI I 79 0 1) L) (h2 : ((1 ≤ a ∧ a ≤ 40) ∧ 0 ≤ b ∧ b ≤ 100000) → ¬ (I 79 2 = 0) → post (.inl (none)) Yw (upI I 79 0 2) L) (hn : ((1 ≤ a ∧ a ≤ 40) ∧ 0 ≤ b ∧ b ≤ 100000) → (I 79 2 = 0) → post (.inl (none)) Yw (upI (upI (upI I 79 0 0) 79 4 0) 80 a b) L) : ed_Ct g l mM_person 3 0 0 [.ref 79, .int (iZ a), .int (iZ b)] Yw I L post := by
  refine ed_Ct.of hl rfl (Nat.le_of_ble_eq_true rfl) (fun x _ C => ?_)
  show Gd g x post _ _ _ _ _ _ _ _ 0 [(0, _), (1, _), (2, _)] []
  refine r_ald C dM_person_0 rfl ?_
  refine r_ild C dM_person_1 rfl ?_
  refine r_callS C lzM_isId dM_person_2 [_] [_] rfl rfl (Nat.le_of_ble_eq_true rfl) ⟨(Nat.le_of_ble_eq_true rfl), (Nat.le_of_ble_eq_true rfl), (Nat.le_of_ble_eq_true rfl), (Nat.le_of_ble_eq_true rfl)⟩ rfl (cM_isId C.2.2.2.2.2.1 (by omega) (fun b2 => ?_) (fun b2 => ?_))
  · refine r_if_eq C dM_person_5 (by omega) (fun b5 => ?_) (fun b5 => ?_)
    · omega
    · refine r_ild C dM_person_8 rfl ?_
      refine r_i2l C dM_person_9 (by omega) ?_
      refine r_lk C dM_person_10 ?_
      refine r_lk C dM_person_11 ?_
      refine r_callS C lzM_isIn dM_person_14 [_, _, _] [_] rfl rfl (Nat.le_of_ble_eq_true rfl) ⟨(Nat.le_of_ble_eq_true rfl), (Nat.le_of_ble_eq_true rfl), (Nat.le_of_ble_eq_true rfl), (Nat.le_of_ble_eq_true rfl)⟩ rfl (cM_isIn C.2.2.2.2.2.1 (by omega) (fun b14 => ?_) (fun b14 => ?_))
      · refine r_if_eq C dM_person_17 (by omega) (fun b17 => ?_) (fun b17 => ?_)
        · omega
        · refine r_ik C dM_person_20 ?_
          refine r_goto C dM_person_21 ?_
          refine r_ik C dM_person_25 ?_
          refine r_callV C lzM_isBarred dM_person_26 _ [_, _] [] rfl rfl rfl rfl rfl (Nat.le_of_ble_eq_true rfl) ⟨(Nat.le_of_ble_eq_true rfl), (Nat.le_of_ble_eq_true rfl), (Nat.le_of_ble_eq_true rfl), (Nat.le_of_ble_eq_true rfl)⟩ rfl (cM_isBarred C.2.2.2.2.2.1 (by omega) (by omega) hc (fun h => absurd h (by decide)) (fun _ b26 => ?_) (fun _ b26 _ => ?_))
          · refine r_if_ne C dM_person_29 (by omega) (fun b29 => ?_) (fun b29 => ?_)
            · exact r_vret C dM_person_39 rfl (Nat.le_of_ble_eq_true rfl) (Nat.le_of_ble_eq_true rfl) (by first | exact h1 (by omega) | exact h2 (by omega) (by omega) | exact hn (by omega) (by omega))
            · omega
          · refine r_if_ne C dM_person_29 (by omega) (fun b29 => ?_) (fun b29 => ?_)
            · omega
            · refine r_ald C dM_person_32 rfl ?_
              refine r_getR C dM_person_33 rfl rfl ?_
              refine r_ild C dM_person_36 rfl ?_
              refine r_ild C dM_person_37 rfl ?_
              refine r_iast C dM_person_38 rfl rfl ⟨by omega, by omega⟩ (by decide) ?_
              exact r_vret C dM_person_39 rfl (Nat.le_of_ble_eq_true rfl) (Nat.le_of_ble_eq_true rfl) (by first | exact h1 (by omega) | exact h2 (by omega) (by omega) | exact hn (by omega) (by omega))
      · refine r_if_eq C dM_person_17 (by omega) (fun b17 => ?_) (fun b17 => ?_)
        · refine r_ik C dM_person_24 ?_
          refine r_ik C dM_person_25 ?_
          refine r_callV C lzM_isBarred dM_person_26 _ [_, _] [] rfl rfl rfl rfl rfl (Nat.le_of_ble_eq_true rfl) ⟨(Nat.le_of_ble_eq_true rfl), (Nat.le_of_ble_eq_true rfl), (Nat.le_of_ble_eq_true rfl), (Nat.le_of_ble_eq_true rfl)⟩ rfl (cM_isBarred C.2.2.2.2.2.1 (by omega) (by omega) hc (fun _ => ?_) (fun h => absurd rfl h) (fun h => absurd rfl h))
          refine r_if_ne C dM_person_29 (by omega) (fun b29 => ?_) (fun b29 => ?_)
          · exact r_vret C dM_person_39 rfl (Nat.le_of_ble_eq_true rfl) (Nat.le_of_ble_eq_true rfl) (by first | exact h1 (by omega) | exact h2 (by omega) (by omega) | exact hn (by omega) (by omega))
          · omega
        · omega
  · refine r_if_eq C dM_person_5 (by omega) (fun b5 => ?_) (fun b5 => ?_)
    · refine r_ik C dM_person_24 ?_
      refine r_ik C dM_person_25 ?_
      refine r_callV C lzM_isBarred dM_person_26 _ [_, _] [] rfl rfl rfl rfl rfl (Nat.le_of_ble_eq_true rfl) ⟨(Nat.le_of_ble_eq_true rfl), (Nat.le_of_ble_eq_true rfl), (Nat.le_of_ble_eq_true rfl), (Nat.le_of_ble_eq_true rfl)⟩ rfl (cM_isBarred C.2.2.2.2.2.1 (by omega) (by omega) hc (fun _ => ?_) (fun h => absurd rfl h) (fun h => absurd rfl h))
      refine r_if_ne C dM_person_29 (by omega) (fun b29 => ?_) (fun b29 => ?_)
      · exact r_vret C dM_person_39 rfl (Nat.le_of_ble_eq_true rfl) (Nat.le_of_ble_eq_true rfl) (by first | exact h1 (by omega) | exact h2 (by omega) (by omega) | exact hn (by omega) (by omega))
      · omega
    · omega
set_option maxRecDepth 100000 in
set_option maxHeartbeats 4000000 in
theorem cM_asset {g : ed_g} {l : Launch} (hl : l.stackTraces = false) {I : ed_I} {L : ed_L} {a v f : Int} (ra : -2147483648 ≤ a ∧ a ≤ 2147483647) (rv : -9223372036854775808 ≤ v ∧ v ≤ 9223372036854775807) (hf : f = 0 ∨ f = 1) (hc : I 79 2 = 0 ∨ I 79 2 = 1) (hk : ∀ j, 0 ≤ j → j ≤ 40 → I 81 j = 0 ∨ I 81 j = 1) {post : ed_post} (h1 : ¬ ((1 ≤ a ∧ a ≤ 40) ∧ 0 ≤ v ∧ v ≤ 1000000000000) → post (.inl (none)) Yw (upI I 79 0 1) L) (h2 : ((1 ≤ a ∧ a ≤ 40) ∧ 0 ≤ v ∧ v ≤ 1000000000000) → ¬ (I 79 2 = 0 ∧ I 81 a = 0) → post (.inl (none)) Yw (upI I 79 0 2) L) (hn : ((1 ≤ a ∧ a ≤ 40) ∧ 0 ≤ v ∧ v ≤ 1000000000000) → (I 79 2 = 0 ∧ I 81 a = 0) → post (.inl (none)) Yw (upI (upI (upI (upI (upI I 79 0 0) 79 4 0) 81 a 1) 83 a f) 84 a 0) (upI L 82 a v)) : ed_Ct g l mM_asset 3 0 0 [.ref 79, .int (iZ a), .long (lZ v), .int (iZ f)] Yw I L post := by
  refine ed_Ct.of hl rfl (Nat.le_of_ble_eq_true rfl) (fun x _ C => ?_)
  show Gd g x post _ _ _ _ _ _ _ _ 0 [(0, _), (1, _), (2, _), (4, _)] []
  have hka := fun (h : 0 ≤ a ∧ a ≤ 40) => hk a h.1 h.2
  refine r_ild C dM_asset_0 rfl ?_
  refine r_callS C lzM_isId dM_asset_1 [_] [] rfl rfl (Nat.le_of_ble_eq_true rfl) ⟨(Nat.le_of_ble_eq_true rfl), (Nat.le_of_ble_eq_true rfl), (Nat.le_of_ble_eq_true rfl), (Nat.le_of_ble_eq_true rfl)⟩ rfl (cM_isId C.2.2.2.2.2.1 (by omega) (fun b1 => ?_) (fun b1 => ?_))
  · refine r_if_eq C dM_asset_4 (by omega) (fun b4 => ?_) (fun b4 => ?_)
    · omega
    · refine r_lld C dM_asset_7 rfl ?_
      refine r_callS C lzM_isCents dM_asset_8 [_] [] rfl rfl (Nat.le_of_ble_eq_true rfl) ⟨(Nat.le_of_ble_eq_true rfl), (Nat.le_of_ble_eq_true rfl), (Nat.le_of_ble_eq_true rfl), (Nat.le_of_ble_eq_true rfl)⟩ rfl (cM_isCents C.2.2.2.2.2.1 (by omega) (fun b8 => ?_) (fun b8 => ?_))
      · refine r_if_eq C dM_asset_11 (by omega) (fun b11 => ?_) (fun b11 => ?_)
        · omega
        · refine r_ik C dM_asset_14 ?_
          refine r_goto C dM_asset_15 ?_
          refine r_ist C dM_asset_19 (by decide) (ls' := [(0, _), (1, _), (2, _), (4, _), (5, _)]) rfl ?_
          refine r_ald C dM_asset_21 rfl ?_
          refine r_ild C dM_asset_22 rfl ?_
          refine r_ild C dM_asset_24 rfl ?_
          refine r_if_eq C dM_asset_26 (by omega) (fun b26 => ?_) (fun b26 => ?_)
          · omega
          · refine r_ald C dM_asset_29 rfl ?_
            refine r_getR C dM_asset_30 rfl rfl ?_
            refine r_ild C dM_asset_33 rfl ?_
            refine r_zald C dM_asset_34 rfl ⟨by omega, by omega⟩ (by decide) ?_
            refine r_if_ne C dM_asset_35 (by omega) (fun b35 => ?_) (fun b35 => ?_)
            · refine r_ik C dM_asset_42 ?_
              refine r_callV C lzM_isBarred dM_asset_43 _ [_, _] [] rfl rfl rfl rfl rfl (Nat.le_of_ble_eq_true rfl) ⟨(Nat.le_of_ble_eq_true rfl), (Nat.le_of_ble_eq_true rfl), (Nat.le_of_ble_eq_true rfl), (Nat.le_of_ble_eq_true rfl)⟩ rfl (cM_isBarred C.2.2.2.2.2.1 (by omega) (by omega) hc (fun h => absurd h (by decide)) (fun _ _ => ?_) (fun _ _ h => absurd rfl h))
              refine r_if_ne C dM_asset_46 (by omega) (fun b46 => ?_) (fun b46 => ?_)
              · exact r_vret C dM_asset_78 rfl (Nat.le_of_ble_eq_true rfl) (Nat.le_of_ble_eq_true rfl) (by first | exact h1 (by omega) | exact h2 (by omega) (by omega) | exact hn (by omega) (by omega))
              · omega
            · refine r_ik C dM_asset_38 ?_
              refine r_goto C dM_asset_39 ?_
              refine r_callV C lzM_isBarred dM_asset_43 _ [_, _] [] rfl rfl rfl rfl rfl (Nat.le_of_ble_eq_true rfl) ⟨(Nat.le_of_ble_eq_true rfl), (Nat.le_of_ble_eq_true rfl), (Nat.le_of_ble_eq_true rfl), (Nat.le_of_ble_eq_true rfl)⟩ rfl (cM_isBarred C.2.2.2.2.2.1 (by omega) (by omega) hc (fun h => absurd h (by decide)) (fun _ b43 => ?_) (fun _ b43 _ => ?_))
              · refine r_if_ne C dM_asset_46 (by omega) (fun b46 => ?_) (fun b46 => ?_)
                · exact r_vret C dM_asset_78 rfl (Nat.le_of_ble_eq_true rfl) (Nat.le_of_ble_eq_true rfl) (by first | exact h1 (by omega) | exact h2 (by omega) (by omega) | exact hn (by omega) (by omega))
                · omega
              · refine r_if_ne C dM_asset_46 (by omega) (fun b46 => ?_) (fun b46 => ?_)
                · omega
                · refine r_ald C dM_asset_49 rfl ?_
                  refine r_getR C dM_asset_50 rfl rfl ?_
                  refine r_ild C dM_asset_53 rfl ?_
                  refine r_ik C dM_asset_54 ?_
                  refine r_zast C dM_asset_55 rfl rfl ⟨by omega, by omega⟩ (by decide) (by omega) ?_
                  refine r_ald C dM_asset_56 rfl ?_
                  refine r_getR C dM_asset_57 rfl rfl ?_
                  refine r_ild C dM_asset_60 rfl ?_
                  refine r_lld C dM_asset_61 rfl ?_
                  refine r_last C dM_asset_62 rfl rfl ⟨by omega, by omega⟩ (by decide) ?_
                  refine r_ald C dM_asset_63 rfl ?_
                  refine r_getR C dM_asset_64 rfl rfl ?_
                  refine r_ild C dM_asset_67 rfl ?_
                  refine r_ild C dM_asset_68 rfl ?_
                  refine r_zast C dM_asset_70 rfl rfl ⟨by omega, by omega⟩ (by decide) (by omega) ?_
                  refine r_ald C dM_asset_71 rfl ?_
                  refine r_getR C dM_asset_72 rfl rfl ?_
                  refine r_ild C dM_asset_75 rfl ?_
                  refine r_ik C dM_asset_76 ?_
                  refine r_zast C dM_asset_77 rfl rfl ⟨by omega, by omega⟩ (by decide) (by omega) ?_
                  exact r_vret C dM_asset_78 rfl (Nat.le_of_ble_eq_true rfl) (Nat.le_of_ble_eq_true rfl) (by first | exact h1 (by omega) | exact h2 (by omega) (by omega) | exact hn (by omega) (by omega))
      · refine r_if_eq C dM_asset_11 (by omega) (fun b11 => ?_) (fun b11 => ?_)
        · refine r_ik C dM_asset_18 ?_
          refine r_ist C dM_asset_19 (by decide) (ls' := [(0, _), (1, _), (2, _), (4, _), (5, _)]) rfl ?_
          refine r_ald C dM_asset_21 rfl ?_
          refine r_ild C dM_asset_22 rfl ?_
          refine r_ild C dM_asset_24 rfl ?_
          refine r_if_eq C dM_asset_26 (by omega) (fun b26 => ?_) (fun b26 => ?_)
          · refine r_ik C dM_asset_42 ?_
            refine r_callV C lzM_isBarred dM_asset_43 _ [_, _] [] rfl rfl rfl rfl rfl (Nat.le_of_ble_eq_true rfl) ⟨(Nat.le_of_ble_eq_true rfl), (Nat.le_of_ble_eq_true rfl), (Nat.le_of_ble_eq_true rfl), (Nat.le_of_ble_eq_true rfl)⟩ rfl (cM_isBarred C.2.2.2.2.2.1 (by omega) (by omega) hc (fun _ => ?_) (fun h => absurd rfl h) (fun h => absurd rfl h))
            refine r_if_ne C dM_asset_46 (by omega) (fun b46 => ?_) (fun b46 => ?_)
            · exact r_vret C dM_asset_78 rfl (Nat.le_of_ble_eq_true rfl) (Nat.le_of_ble_eq_true rfl) (by first | exact h1 (by omega) | exact h2 (by omega) (by omega) | exact hn (by omega) (by omega))
            · omega
          · omega
        · omega
  · refine r_if_eq C dM_asset_4 (by omega) (fun b4 => ?_) (fun b4 => ?_)
    · refine r_ik C dM_asset_18 ?_
      refine r_ist C dM_asset_19 (by decide) (ls' := [(0, _), (1, _), (2, _), (4, _), (5, _)]) rfl ?_
      refine r_ald C dM_asset_21 rfl ?_
      refine r_ild C dM_asset_22 rfl ?_
      refine r_ild C dM_asset_24 rfl ?_
      refine r_if_eq C dM_asset_26 (by omega) (fun b26 => ?_) (fun b26 => ?_)
      · refine r_ik C dM_asset_42 ?_
        refine r_callV C lzM_isBarred dM_asset_43 _ [_, _] [] rfl rfl rfl rfl rfl (Nat.le_of_ble_eq_true rfl) ⟨(Nat.le_of_ble_eq_true rfl), (Nat.le_of_ble_eq_true rfl), (Nat.le_of_ble_eq_true rfl), (Nat.le_of_ble_eq_true rfl)⟩ rfl (cM_isBarred C.2.2.2.2.2.1 (by omega) (by omega) hc (fun _ => ?_) (fun h => absurd rfl h) (fun h => absurd rfl h))
        refine r_if_ne C dM_asset_46 (by omega) (fun b46 => ?_) (fun b46 => ?_)
        · exact r_vret C dM_asset_78 rfl (Nat.le_of_ble_eq_true rfl) (Nat.le_of_ble_eq_true rfl) (by first | exact h1 (by omega) | exact h2 (by omega) (by omega) | exact hn (by omega) (by omega))
        · omega
      · omega
    · omega
set_option maxRecDepth 100000 in
set_option maxHeartbeats 4000000 in
theorem cM_revalue {g : ed_g} {l : Launch} (hl : l.stackTraces = false) {I : ed_I} {L : ed_L} {a v : Int} (ra : -2147483648 ≤ a ∧ a ≤ 2147483647) (rv : -9223372036854775808 ≤ v ∧ v ≤ 9223372036854775807) (hc : I 79 2 = 0 ∨ I 79 2 = 1) (hk : ∀ j, 0 ≤ j → j ≤ 40 → I 81 j = 0 ∨ I 81 j = 1) {post : ed_post} (h1 : ¬ (((1 ≤ a ∧ a ≤ 40) ∧ I 81 a ≠ 0) ∧ 0 ≤ v ∧ v ≤ 1000000000000) → post (.inl (some (.long (lZ 0)))) Yw (upI I 79 0 1) L) (h2 : (((1 ≤ a ∧ a ≤ 40) ∧ I 81 a ≠ 0) ∧ 0 ≤ v ∧ v ≤ 1000000000000) → ¬ (I 79 2 = 0) → post (.inl (some (.long (lZ 0)))) Yw (upI I 79 0 2) L) (hn : (((1 ≤ a ∧ a ≤ 40) ∧ I 81 a ≠ 0) ∧ 0 ≤ v ∧ v ≤ 1000000000000) → (I 79 2 = 0) → post (.inl (some (.long (lZ (L 82 a))))) Yw (upI (upI I 79 0 0) 79 4 0) (upI L 82 a v)) : ed_Ct g l mM_revalue 3 0 0 [.ref 79, .int (iZ a), .long (lZ v)] Yw I L post := by
  refine ed_Ct.of hl rfl (Nat.le_of_ble_eq_true rfl) (fun x _ C => ?_)
  show Gd g x post _ _ _ _ _ _ _ _ 0 [(0, _), (1, _), (2, _)] []
  refine r_ald C dM_revalue_0 rfl ?_
  refine r_ald C dM_revalue_1 rfl ?_
  refine r_ild C dM_revalue_2 rfl ?_
  refine r_callV C lzM_hasAsset dM_revalue_3 _ [_] [_] rfl rfl rfl rfl rfl (Nat.le_of_ble_eq_true rfl) ⟨(Nat.le_of_ble_eq_true rfl), (Nat.le_of_ble_eq_true rfl), (Nat.le_of_ble_eq_true rfl), (Nat.le_of_ble_eq_true rfl)⟩ rfl (cM_hasAsset C.2.2.2.2.2.1 (by omega) hk (fun b3 => ?_) (fun b3 => ?_))
  · refine r_if_eq C dM_revalue_6 (by omega) (fun b6 => ?_) (fun b6 => ?_)
    · omega
    · refine r_lld C dM_revalue_9 rfl ?_
      refine r_callS C lzM_isCents dM_revalue_10 [_] [_] rfl rfl (Nat.le_of_ble_eq_true rfl) ⟨(Nat.le_of_ble_eq_true rfl), (Nat.le_of_ble_eq_true rfl), (Nat.le_of_ble_eq_true rfl), (Nat.le_of_ble_eq_true rfl)⟩ rfl (cM_isCents C.2.2.2.2.2.1 (by omega) (fun b10 => ?_) (fun b10 => ?_))
      · refine r_if_eq C dM_revalue_13 (by omega) (fun b13 => ?_) (fun b13 => ?_)
        · omega
        · refine r_ik C dM_revalue_16 ?_
          refine r_goto C dM_revalue_17 ?_
          refine r_ik C dM_revalue_21 ?_
          refine r_callV C lzM_isBarred dM_revalue_22 _ [_, _] [] rfl rfl rfl rfl rfl (Nat.le_of_ble_eq_true rfl) ⟨(Nat.le_of_ble_eq_true rfl), (Nat.le_of_ble_eq_true rfl), (Nat.le_of_ble_eq_true rfl), (Nat.le_of_ble_eq_true rfl)⟩ rfl (cM_isBarred C.2.2.2.2.2.1 (by omega) (by omega) hc (fun h => absurd h (by decide)) (fun _ b22 => ?_) (fun _ b22 _ => ?_))
          · refine r_if_eq C dM_revalue_25 (by omega) (fun b25 => ?_) (fun b25 => ?_)
            · omega
            · refine r_lk C dM_revalue_28 ?_
              exact r_lret C dM_revalue_29 rfl (Nat.le_of_ble_eq_true rfl) (Nat.le_of_ble_eq_true rfl) (by first | exact h1 (by omega) | exact h2 (by omega) (by omega) | exact hn (by omega) (by omega))
          · refine r_if_eq C dM_revalue_25 (by omega) (fun b25 => ?_) (fun b25 => ?_)
            · refine r_ald C dM_revalue_30 rfl ?_
              refine r_getR C dM_revalue_31 rfl rfl ?_
              refine r_ild C dM_revalue_34 rfl ?_
              refine r_lald C dM_revalue_35 rfl ⟨by omega, by omega⟩ (by decide) ?_
              refine r_lst C dM_revalue_36 (by decide) (ls' := [(0, _), (1, _), (2, _), (4, _)]) rfl ?_
              refine r_ald C dM_revalue_38 rfl ?_
              refine r_getR C dM_revalue_39 rfl rfl ?_
              refine r_ild C dM_revalue_42 rfl ?_
              refine r_lld C dM_revalue_43 rfl ?_
              refine r_last C dM_revalue_44 rfl rfl ⟨by omega, by omega⟩ (by decide) ?_
              refine r_lld C dM_revalue_45 rfl ?_
              exact r_lret C dM_revalue_47 rfl (Nat.le_of_ble_eq_true rfl) (Nat.le_of_ble_eq_true rfl) (by first | exact h1 (by omega) | exact h2 (by omega) (by omega) | exact hn (by omega) (by omega))
            · omega
      · refine r_if_eq C dM_revalue_13 (by omega) (fun b13 => ?_) (fun b13 => ?_)
        · refine r_ik C dM_revalue_20 ?_
          refine r_ik C dM_revalue_21 ?_
          refine r_callV C lzM_isBarred dM_revalue_22 _ [_, _] [] rfl rfl rfl rfl rfl (Nat.le_of_ble_eq_true rfl) ⟨(Nat.le_of_ble_eq_true rfl), (Nat.le_of_ble_eq_true rfl), (Nat.le_of_ble_eq_true rfl), (Nat.le_of_ble_eq_true rfl)⟩ rfl (cM_isBarred C.2.2.2.2.2.1 (by omega) (by omega) hc (fun _ => ?_) (fun h => absurd rfl h) (fun h => absurd rfl h))
          refine r_if_eq C dM_revalue_25 (by omega) (fun b25 => ?_) (fun b25 => ?_)
          · omega
          · refine r_lk C dM_revalue_28 ?_
            exact r_lret C dM_revalue_29 rfl (Nat.le_of_ble_eq_true rfl) (Nat.le_of_ble_eq_true rfl) (by first | exact h1 (by omega) | exact h2 (by omega) (by omega) | exact hn (by omega) (by omega))
        · omega
  · refine r_if_eq C dM_revalue_6 (by omega) (fun b6 => ?_) (fun b6 => ?_)
    · refine r_ik C dM_revalue_20 ?_
      refine r_ik C dM_revalue_21 ?_
      refine r_callV C lzM_isBarred dM_revalue_22 _ [_, _] [] rfl rfl rfl rfl rfl (Nat.le_of_ble_eq_true rfl) ⟨(Nat.le_of_ble_eq_true rfl), (Nat.le_of_ble_eq_true rfl), (Nat.le_of_ble_eq_true rfl), (Nat.le_of_ble_eq_true rfl)⟩ rfl (cM_isBarred C.2.2.2.2.2.1 (by omega) (by omega) hc (fun _ => ?_) (fun h => absurd rfl h) (fun h => absurd rfl h))
      refine r_if_eq C dM_revalue_25 (by omega) (fun b25 => ?_) (fun b25 => ?_)
      · omega
      · refine r_lk C dM_revalue_28 ?_
        exact r_lret C dM_revalue_29 rfl (Nat.le_of_ble_eq_true rfl) (Nat.le_of_ble_eq_true rfl) (by first | exact h1 (by omega) | exact h2 (by omega) (by omega) | exact hn (by omega) (by omega))
    · omega
set_option maxRecDepth 100000 in
set_option maxHeartbeats 4000000 in
theorem cM_gone {g : ed_g} {l : Launch} (hl : l.stackTraces = false) {I : ed_I} {L : ed_L} {a : Int} (ra : -2147483648 ≤ a ∧ a ≤ 2147483647) (hc : I 79 2 = 0 ∨ I 79 2 = 1) (hk : ∀ j, 0 ≤ j → j ≤ 40 → I 81 j = 0 ∨ I 81 j = 1) {post : ed_post} (h1 : ¬ ((1 ≤ a ∧ a ≤ 40) ∧ I 81 a ≠ 0) → post (.inl (none)) Yw (upI I 79 0 1) L) (h2 : ((1 ≤ a ∧ a ≤ 40) ∧ I 81 a ≠ 0) → ¬ (I 79 2 = 0) → post (.inl (none)) Yw (upI I 79 0 2) L) (hn : ((1 ≤ a ∧ a ≤ 40) ∧ I 81 a ≠ 0) → (I 79 2 = 0) → post (.inl (none)) Yw (upI (upI (upI I 79 0 0) 79 4 0) 84 a 1) L) : ed_Ct g l mM_gone 3 0 0 [.ref 79, .int (iZ a)] Yw I L post := by
  refine ed_Ct.of hl rfl (Nat.le_of_ble_eq_true rfl) (fun x _ C => ?_)
  show Gd g x post _ _ _ _ _ _ _ _ 0 [(0, _), (1, _)] []
  refine r_ald C dM_gone_0 rfl ?_
  refine r_ald C dM_gone_1 rfl ?_
  refine r_ild C dM_gone_2 rfl ?_
  refine r_callV C lzM_hasAsset dM_gone_3 _ [_] [_] rfl rfl rfl rfl rfl (Nat.le_of_ble_eq_true rfl) ⟨(Nat.le_of_ble_eq_true rfl), (Nat.le_of_ble_eq_true rfl), (Nat.le_of_ble_eq_true rfl), (Nat.le_of_ble_eq_true rfl)⟩ rfl (cM_hasAsset C.2.2.2.2.2.1 (by omega) hk (fun b3 => ?_) (fun b3 => ?_))
  · refine r_ik C dM_gone_6 ?_
    refine r_callV C lzM_isBarred dM_gone_7 _ [_, _] [] rfl rfl rfl rfl rfl (Nat.le_of_ble_eq_true rfl) ⟨(Nat.le_of_ble_eq_true rfl), (Nat.le_of_ble_eq_true rfl), (Nat.le_of_ble_eq_true rfl), (Nat.le_of_ble_eq_true rfl)⟩ rfl (cM_isBarred C.2.2.2.2.2.1 (by omega) (by omega) hc (fun h => absurd h (by decide)) (fun _ b7 => ?_) (fun _ b7 _ => ?_))
    · refine r_if_ne C dM_gone_10 (by omega) (fun b10 => ?_) (fun b10 => ?_)
      · exact r_vret C dM_gone_20 rfl (Nat.le_of_ble_eq_true rfl) (Nat.le_of_ble_eq_true rfl) (by first | exact h1 (by omega) | exact h2 (by omega) (by omega) | exact hn (by omega) (by omega))
      · omega
    · refine r_if_ne C dM_gone_10 (by omega) (fun b10 => ?_) (fun b10 => ?_)
      · omega
      · refine r_ald C dM_gone_13 rfl ?_
        refine r_getR C dM_gone_14 rfl rfl ?_
        refine r_ild C dM_gone_17 rfl ?_
        refine r_ik C dM_gone_18 ?_
        refine r_zast C dM_gone_19 rfl rfl ⟨by omega, by omega⟩ (by decide) (by omega) ?_
        exact r_vret C dM_gone_20 rfl (Nat.le_of_ble_eq_true rfl) (Nat.le_of_ble_eq_true rfl) (by first | exact h1 (by omega) | exact h2 (by omega) (by omega) | exact hn (by omega) (by omega))
  · refine r_ik C dM_gone_6 ?_
    refine r_callV C lzM_isBarred dM_gone_7 _ [_, _] [] rfl rfl rfl rfl rfl (Nat.le_of_ble_eq_true rfl) ⟨(Nat.le_of_ble_eq_true rfl), (Nat.le_of_ble_eq_true rfl), (Nat.le_of_ble_eq_true rfl), (Nat.le_of_ble_eq_true rfl)⟩ rfl (cM_isBarred C.2.2.2.2.2.1 (by omega) (by omega) hc (fun _ => ?_) (fun h => absurd rfl h) (fun h => absurd rfl h))
    refine r_if_ne C dM_gone_10 (by omega) (fun b10 => ?_) (fun b10 => ?_)
    · exact r_vret C dM_gone_20 rfl (Nat.le_of_ble_eq_true rfl) (Nat.le_of_ble_eq_true rfl) (by first | exact h1 (by omega) | exact h2 (by omega) (by omega) | exact hn (by omega) (by omega))
    · omega
end
section
set_option maxRecDepth 100000 in
set_option maxHeartbeats 4000000 in
theorem cM_gift {g : ed_g} {l : Launch} (hl : l.stackTraces = false) {I : ed_I} {L : ed_L} {c a : Int} (rc : -2147483648 ≤ c ∧ c ≤ 2147483647) (ra : -2147483648 ≤ a ∧ a ≤ 2147483647) (hc : I 79 2 = 0 ∨ I 79 2 = 1) (hk : ∀ j, 0 ≤ j → j ≤ 40 → I 81 j = 0 ∨ I 81 j = 1) (hr : ∀ j, 0 ≤ j → j ≤ 40 → -1 ≤ I 86 j ∧ I 86 j ≤ 100000) (hr2 : ∀ j, 0 ≤ j → j ≤ 40 → -1 ≤ I 85 j ∧ I 85 j ≤ 100000) {post : ed_post} (h1 : ¬ ((1 ≤ c ∧ c ≤ 40) ∧ (1 ≤ a ∧ a ≤ 40) ∧ I 81 a ≠ 0) → post (.inl (none)) Yw (upI I 79 0 1) L) (h2 : ((1 ≤ c ∧ c ≤ 40) ∧ (1 ≤ a ∧ a ≤ 40) ∧ I 81 a ≠ 0) → ¬ (I 79 2 = 0 ∧ ¬ mHad I c a 1 41) → post (.inl (none)) Yw (upI I 79 0 2) L) (hn : ((1 ≤ c ∧ c ≤ 40) ∧ (1 ≤ a ∧ a ≤ 40) ∧ I 81 a ≠ 0) → (I 79 2 = 0 ∧ ¬ mHad I c a 1 41) → post (.inl (none)) Yw (upI (upI (upI (upI (upI (upI I 79 0 0) 79 4 0) 85 c 1) 86 c a) 88 c 0) 89 c 1) (upI L 87 c 0)) : ed_Ct g l mM_gift 3 0 0 [.ref 79, .int (iZ c), .int (iZ a)] Yw I L post := by
  refine ed_Ct.of hl rfl (Nat.le_of_ble_eq_true rfl) (fun x _ C => ?_)
  show Gd g x post _ _ _ _ _ _ _ _ 0 [(0, _), (1, _), (2, _)] []
  refine r_ild C dM_gift_0 rfl ?_
  refine r_callS C lzM_isId dM_gift_1 [_] [] rfl rfl (Nat.le_of_ble_eq_true rfl) ⟨(Nat.le_of_ble_eq_true rfl), (Nat.le_of_ble_eq_true rfl), (Nat.le_of_ble_eq_true rfl), (Nat.le_of_ble_eq_true rfl)⟩ rfl (cM_isId C.2.2.2.2.2.1 (by omega) (fun b1 => ?_) (fun b1 => ?_))
  · refine r_if_eq C dM_gift_4 (by omega) (fun b4 => ?_) (fun b4 => ?_)
    · omega
    · refine r_ald C dM_gift_7 rfl ?_
      refine r_ild C dM_gift_8 rfl ?_
      refine r_callV C lzM_hasAsset dM_gift_9 _ [_] [] rfl rfl rfl rfl rfl (Nat.le_of_ble_eq_true rfl) ⟨(Nat.le_of_ble_eq_true rfl), (Nat.le_of_ble_eq_true rfl), (Nat.le_of_ble_eq_true rfl), (Nat.le_of_ble_eq_true rfl)⟩ rfl (cM_hasAsset C.2.2.2.2.2.1 (by omega) hk (fun b9 => ?_) (fun b9 => ?_))
      · refine r_if_eq C dM_gift_12 (by omega) (fun b12 => ?_) (fun b12 => ?_)
        · omega
        · refine r_ik C dM_gift_15 ?_
          refine r_goto C dM_gift_16 ?_
          refine r_ist C dM_gift_20 (by decide) (ls' := [(0, _), (1, _), (2, _), (3, _)]) rfl ?_
          refine r_ald C dM_gift_21 rfl ?_
          refine r_ild C dM_gift_22 rfl ?_
          refine r_ild C dM_gift_23 rfl ?_
          refine r_if_eq C dM_gift_24 (by omega) (fun b24 => ?_) (fun b24 => ?_)
          · omega
          · refine r_ald C dM_gift_27 rfl ?_
            refine r_ild C dM_gift_28 rfl ?_
            refine r_ild C dM_gift_29 rfl ?_
            refine r_ik C dM_gift_30 ?_
            refine r_callV C lzM_isHad dM_gift_31 _ [_, _, _] [_, _] rfl rfl rfl rfl rfl (Nat.le_of_ble_eq_true rfl) ⟨(Nat.le_of_ble_eq_true rfl), (Nat.le_of_ble_eq_true rfl), (Nat.le_of_ble_eq_true rfl), (Nat.le_of_ble_eq_true rfl)⟩ rfl (cM_isHad C.2.2.2.2.2.1 (by omega) (by omega) (by omega) hr hr2 (fun b31 => ?_) (fun b31 => ?_))
            · refine r_if_ne C dM_gift_34 (by omega) (fun b34 => ?_) (fun b34 => ?_)
              · refine r_ik C dM_gift_41 ?_
                refine r_callV C lzM_isBarred dM_gift_42 _ [_, _] [] rfl rfl rfl rfl rfl (Nat.le_of_ble_eq_true rfl) ⟨(Nat.le_of_ble_eq_true rfl), (Nat.le_of_ble_eq_true rfl), (Nat.le_of_ble_eq_true rfl), (Nat.le_of_ble_eq_true rfl)⟩ rfl (cM_isBarred C.2.2.2.2.2.1 (by omega) (by omega) hc (fun h => absurd h (by decide)) (fun _ _ => ?_) (fun _ _ h => absurd rfl h))
                refine r_if_ne C dM_gift_45 (by omega) (fun b45 => ?_) (fun b45 => ?_)
                · exact r_vret C dM_gift_57 rfl (Nat.le_of_ble_eq_true rfl) (Nat.le_of_ble_eq_true rfl) (by first | exact h1 (by omega) | exact h2 (by omega) (fun hh => by first | omega | exact hh.2 b31) | exact hn (by omega) ⟨by omega, b31⟩)
                · omega
              · omega
            · refine r_if_ne C dM_gift_34 (by omega) (fun b34 => ?_) (fun b34 => ?_)
              · omega
              · refine r_ik C dM_gift_37 ?_
                refine r_goto C dM_gift_38 ?_
                refine r_callV C lzM_isBarred dM_gift_42 _ [_, _] [] rfl rfl rfl rfl rfl (Nat.le_of_ble_eq_true rfl) ⟨(Nat.le_of_ble_eq_true rfl), (Nat.le_of_ble_eq_true rfl), (Nat.le_of_ble_eq_true rfl), (Nat.le_of_ble_eq_true rfl)⟩ rfl (cM_isBarred C.2.2.2.2.2.1 (by omega) (by omega) hc (fun h => absurd h (by decide)) (fun _ b42 => ?_) (fun _ b42 _ => ?_))
                · refine r_if_ne C dM_gift_45 (by omega) (fun b45 => ?_) (fun b45 => ?_)
                  · exact r_vret C dM_gift_57 rfl (Nat.le_of_ble_eq_true rfl) (Nat.le_of_ble_eq_true rfl) (by first | exact h1 (by omega) | exact h2 (by omega) (fun hh => by first | omega | exact hh.2 b31) | exact hn (by omega) ⟨by omega, b31⟩)
                  · omega
                · refine r_if_ne C dM_gift_45 (by omega) (fun b45 => ?_) (fun b45 => ?_)
                  · omega
                  · refine r_ald C dM_gift_48 rfl ?_
                    refine r_ild C dM_gift_49 rfl ?_
                    refine r_ik C dM_gift_50 ?_
                    refine r_ild C dM_gift_51 rfl ?_
                    refine r_lk C dM_gift_52 ?_
                    refine r_ik C dM_gift_53 ?_
                    refine r_callV C lzM_tell dM_gift_54 _ [_, _, _, _, _] [] rfl rfl rfl rfl rfl (Nat.le_of_ble_eq_true rfl) ⟨(Nat.le_of_ble_eq_true rfl), (Nat.le_of_ble_eq_true rfl), (Nat.le_of_ble_eq_true rfl), (Nat.le_of_ble_eq_true rfl)⟩ rfl (cM_tell C.2.2.2.2.2.1 (by omega) ?_)
                    exact r_vret C dM_gift_57 rfl (Nat.le_of_ble_eq_true rfl) (Nat.le_of_ble_eq_true rfl) (by first | exact h1 (by omega) | exact h2 (by omega) (fun hh => by first | omega | exact hh.2 b31) | exact hn (by omega) ⟨by omega, b31⟩)
      · refine r_if_eq C dM_gift_12 (by omega) (fun b12 => ?_) (fun b12 => ?_)
        · refine r_ik C dM_gift_19 ?_
          refine r_ist C dM_gift_20 (by decide) (ls' := [(0, _), (1, _), (2, _), (3, _)]) rfl ?_
          refine r_ald C dM_gift_21 rfl ?_
          refine r_ild C dM_gift_22 rfl ?_
          refine r_ild C dM_gift_23 rfl ?_
          refine r_if_eq C dM_gift_24 (by omega) (fun b24 => ?_) (fun b24 => ?_)
          · refine r_ik C dM_gift_41 ?_
            refine r_callV C lzM_isBarred dM_gift_42 _ [_, _] [] rfl rfl rfl rfl rfl (Nat.le_of_ble_eq_true rfl) ⟨(Nat.le_of_ble_eq_true rfl), (Nat.le_of_ble_eq_true rfl), (Nat.le_of_ble_eq_true rfl), (Nat.le_of_ble_eq_true rfl)⟩ rfl (cM_isBarred C.2.2.2.2.2.1 (by omega) (by omega) hc (fun _ => ?_) (fun h => absurd rfl h) (fun h => absurd rfl h))
            refine r_if_ne C dM_gift_45 (by omega) (fun b45 => ?_) (fun b45 => ?_)
            · exact r_vret C dM_gift_57 rfl (Nat.le_of_ble_eq_true rfl) (Nat.le_of_ble_eq_true rfl) (by first | exact h1 (by omega) | exact h2 (by omega) (fun hh => by first | omega | exact hh.2 b31) | exact hn (by omega) ⟨by omega, b31⟩)
            · omega
          · omega
        · omega
  · refine r_if_eq C dM_gift_4 (by omega) (fun b4 => ?_) (fun b4 => ?_)
    · refine r_ik C dM_gift_19 ?_
      refine r_ist C dM_gift_20 (by decide) (ls' := [(0, _), (1, _), (2, _), (3, _)]) rfl ?_
      refine r_ald C dM_gift_21 rfl ?_
      refine r_ild C dM_gift_22 rfl ?_
      refine r_ild C dM_gift_23 rfl ?_
      refine r_if_eq C dM_gift_24 (by omega) (fun b24 => ?_) (fun b24 => ?_)
      · refine r_ik C dM_gift_41 ?_
        refine r_callV C lzM_isBarred dM_gift_42 _ [_, _] [] rfl rfl rfl rfl rfl (Nat.le_of_ble_eq_true rfl) ⟨(Nat.le_of_ble_eq_true rfl), (Nat.le_of_ble_eq_true rfl), (Nat.le_of_ble_eq_true rfl), (Nat.le_of_ble_eq_true rfl)⟩ rfl (cM_isBarred C.2.2.2.2.2.1 (by omega) (by omega) hc (fun _ => ?_) (fun h => absurd rfl h) (fun h => absurd rfl h))
        refine r_if_ne C dM_gift_45 (by omega) (fun b45 => ?_) (fun b45 => ?_)
        · exact r_vret C dM_gift_57 rfl (Nat.le_of_ble_eq_true rfl) (Nat.le_of_ble_eq_true rfl) (by first | exact h1 (by omega) | exact h2 (by omega) (fun hh => by first | omega | exact hh.2 b31) | exact hn (by omega) ⟨by omega, b31⟩)
        · omega
      · omega
    · omega
set_option maxRecDepth 100000 in
set_option maxHeartbeats 4000000 in
theorem cM_legacy {g : ed_g} {l : Launch} (hl : l.stackTraces = false) {I : ed_I} {L : ed_L} {c v a : Int} (rc : -2147483648 ≤ c ∧ c ≤ 2147483647) (ra : -2147483648 ≤ a ∧ a ≤ 2147483647) (rv : -9223372036854775808 ≤ v ∧ v ≤ 9223372036854775807) (hc : I 79 2 = 0 ∨ I 79 2 = 1) (hk : ∀ j, 0 ≤ j → j ≤ 40 → I 81 j = 0 ∨ I 81 j = 1) (hfu : ∀ j, 0 ≤ j → j ≤ 40 → I 83 j = 0 ∨ I 83 j = 1) (hr : ∀ j, 0 ≤ j → j ≤ 40 → -1 ≤ I 86 j ∧ I 86 j ≤ 100000) (hr2 : ∀ j, 0 ≤ j → j ≤ 40 → -1 ≤ I 85 j ∧ I 85 j ≤ 100000) {post : ed_post} (h1 : ¬ ((1 ≤ c ∧ c ≤ 40) ∧ (0 ≤ v ∧ v ≤ 1000000000000) ∧ (a = 0 ∨ ((1 ≤ a ∧ a ≤ 40) ∧ I 81 a ≠ 0 ∧ I 83 a ≠ 0))) → post (.inl (none)) Yw (upI I 79 0 1) L) (h2 : ((1 ≤ c ∧ c ≤ 40) ∧ (0 ≤ v ∧ v ≤ 1000000000000) ∧ (a = 0 ∨ ((1 ≤ a ∧ a ≤ 40) ∧ I 81 a ≠ 0 ∧ I 83 a ≠ 0))) → ¬ (I 79 2 = 0 ∧ ¬ mHad I c a 0 41) → post (.inl (none)) Yw (upI I 79 0 2) L) (hn : ((1 ≤ c ∧ c ≤ 40) ∧ (0 ≤ v ∧ v ≤ 1000000000000) ∧ (a = 0 ∨ ((1 ≤ a ∧ a ≤ 40) ∧ I 81 a ≠ 0 ∧ I 83 a ≠ 0))) → (I 79 2 = 0 ∧ ¬ mHad I c a 0 41) → post (.inl (none)) Yw (upI (upI (upI (upI (upI (upI I 79 0 0) 79 4 0) 85 c 2) 86 c a) 88 c 0) 89 c 1) (upI L 87 c v)) : ed_Ct g l mM_legacy 3 0 0 [.ref 79, .int (iZ c), .long (lZ v), .int (iZ a)] Yw I L post := by
  refine ed_Ct.of hl rfl (Nat.le_of_ble_eq_true rfl) (fun x _ C => ?_)
  show Gd g x post _ _ _ _ _ _ _ _ 0 [(0, _), (1, _), (2, _), (4, _)] []
  have hfa := fun (h : 0 ≤ a ∧ a ≤ 40) => hfu a h.1 h.2
  refine r_ild C dM_legacy_0 rfl ?_
  refine r_callS C lzM_isId dM_legacy_1 [_] [] rfl rfl (Nat.le_of_ble_eq_true rfl) ⟨(Nat.le_of_ble_eq_true rfl), (Nat.le_of_ble_eq_true rfl), (Nat.le_of_ble_eq_true rfl), (Nat.le_of_ble_eq_true rfl)⟩ rfl (cM_isId C.2.2.2.2.2.1 (by omega) (fun b1 => ?_) (fun b1 => ?_))
  · refine r_if_eq C dM_legacy_4 (by omega) (fun b4 => ?_) (fun b4 => ?_)
    · omega
    · refine r_lld C dM_legacy_7 rfl ?_
      refine r_callS C lzM_isCents dM_legacy_8 [_] [] rfl rfl (Nat.le_of_ble_eq_true rfl) ⟨(Nat.le_of_ble_eq_true rfl), (Nat.le_of_ble_eq_true rfl), (Nat.le_of_ble_eq_true rfl), (Nat.le_of_ble_eq_true rfl)⟩ rfl (cM_isCents C.2.2.2.2.2.1 (by omega) (fun b8 => ?_) (fun b8 => ?_))
      · refine r_if_eq C dM_legacy_11 (by omega) (fun b11 => ?_) (fun b11 => ?_)
        · omega
        · refine r_ild C dM_legacy_14 rfl ?_
          refine r_if_eq C dM_legacy_16 (by omega) (fun b16 => ?_) (fun b16 => ?_)
          · refine r_ik C dM_legacy_38 ?_
            refine r_goto C dM_legacy_39 ?_
            refine r_ist C dM_legacy_43 (by decide) (ls' := [(0, _), (1, _), (2, _), (4, _), (5, _)]) rfl ?_
            refine r_ald C dM_legacy_45 rfl ?_
            refine r_ild C dM_legacy_46 rfl ?_
            refine r_ild C dM_legacy_48 rfl ?_
            refine r_if_eq C dM_legacy_50 (by omega) (fun b50 => ?_) (fun b50 => ?_)
            · omega
            · refine r_ald C dM_legacy_53 rfl ?_
              refine r_ild C dM_legacy_54 rfl ?_
              refine r_ild C dM_legacy_55 rfl ?_
              refine r_ik C dM_legacy_57 ?_
              refine r_callV C lzM_isHad dM_legacy_58 _ [_, _, _] [_, _] rfl rfl rfl rfl rfl (Nat.le_of_ble_eq_true rfl) ⟨(Nat.le_of_ble_eq_true rfl), (Nat.le_of_ble_eq_true rfl), (Nat.le_of_ble_eq_true rfl), (Nat.le_of_ble_eq_true rfl)⟩ rfl (cM_isHad C.2.2.2.2.2.1 (by omega) (by omega) (by omega) hr hr2 (fun b58 => ?_) (fun b58 => ?_))
              · refine r_if_ne C dM_legacy_61 (by omega) (fun b61 => ?_) (fun b61 => ?_)
                · refine r_ik C dM_legacy_68 ?_
                  refine r_callV C lzM_isBarred dM_legacy_69 _ [_, _] [] rfl rfl rfl rfl rfl (Nat.le_of_ble_eq_true rfl) ⟨(Nat.le_of_ble_eq_true rfl), (Nat.le_of_ble_eq_true rfl), (Nat.le_of_ble_eq_true rfl), (Nat.le_of_ble_eq_true rfl)⟩ rfl (cM_isBarred C.2.2.2.2.2.1 (by omega) (by omega) hc (fun h => absurd h (by decide)) (fun _ _ => ?_) (fun _ _ h => absurd rfl h))
                  refine r_if_ne C dM_legacy_72 (by omega) (fun b72 => ?_) (fun b72 => ?_)
                  · exact r_vret C dM_legacy_85 rfl (Nat.le_of_ble_eq_true rfl) (Nat.le_of_ble_eq_true rfl) (by first | exact h1 (by omega) | exact h2 (by omega) (fun hh => by first | omega | exact hh.2 b58) | exact hn (by omega) ⟨by omega, b58⟩)
                  · omega
                · omega
              · refine r_if_ne C dM_legacy_61 (by omega) (fun b61 => ?_) (fun b61 => ?_)
                · omega
                · refine r_ik C dM_legacy_64 ?_
                  refine r_goto C dM_legacy_65 ?_
                  refine r_callV C lzM_isBarred dM_legacy_69 _ [_, _] [] rfl rfl rfl rfl rfl (Nat.le_of_ble_eq_true rfl) ⟨(Nat.le_of_ble_eq_true rfl), (Nat.le_of_ble_eq_true rfl), (Nat.le_of_ble_eq_true rfl), (Nat.le_of_ble_eq_true rfl)⟩ rfl (cM_isBarred C.2.2.2.2.2.1 (by omega) (by omega) hc (fun h => absurd h (by decide)) (fun _ b69 => ?_) (fun _ b69 _ => ?_))
                  · refine r_if_ne C dM_legacy_72 (by omega) (fun b72 => ?_) (fun b72 => ?_)
                    · exact r_vret C dM_legacy_85 rfl (Nat.le_of_ble_eq_true rfl) (Nat.le_of_ble_eq_true rfl) (by first | exact h1 (by omega) | exact h2 (by omega) (fun hh => by first | omega | exact hh.2 b58) | exact hn (by omega) ⟨by omega, b58⟩)
                    · omega
                  · refine r_if_ne C dM_legacy_72 (by omega) (fun b72 => ?_) (fun b72 => ?_)
                    · omega
                    · refine r_ald C dM_legacy_75 rfl ?_
                      refine r_ild C dM_legacy_76 rfl ?_
                      refine r_ik C dM_legacy_77 ?_
                      refine r_ild C dM_legacy_78 rfl ?_
                      refine r_lld C dM_legacy_80 rfl ?_
                      refine r_ik C dM_legacy_81 ?_
                      refine r_callV C lzM_tell dM_legacy_82 _ [_, _, _, _, _] [] rfl rfl rfl rfl rfl (Nat.le_of_ble_eq_true rfl) ⟨(Nat.le_of_ble_eq_true rfl), (Nat.le_of_ble_eq_true rfl), (Nat.le_of_ble_eq_true rfl), (Nat.le_of_ble_eq_true rfl)⟩ rfl (cM_tell C.2.2.2.2.2.1 (by omega) ?_)
                      exact r_vret C dM_legacy_85 rfl (Nat.le_of_ble_eq_true rfl) (Nat.le_of_ble_eq_true rfl) (by first | exact h1 (by omega) | exact h2 (by omega) (fun hh => by first | omega | exact hh.2 b58) | exact hn (by omega) ⟨by omega, b58⟩)
          · refine r_ald C dM_legacy_19 rfl ?_
            refine r_ild C dM_legacy_20 rfl ?_
            refine r_callV C lzM_hasAsset dM_legacy_22 _ [_] [] rfl rfl rfl rfl rfl (Nat.le_of_ble_eq_true rfl) ⟨(Nat.le_of_ble_eq_true rfl), (Nat.le_of_ble_eq_true rfl), (Nat.le_of_ble_eq_true rfl), (Nat.le_of_ble_eq_true rfl)⟩ rfl (cM_hasAsset C.2.2.2.2.2.1 (by omega) hk (fun b22 => ?_) (fun b22 => ?_))
            · refine r_if_eq C dM_legacy_25 (by omega) (fun b25 => ?_) (fun b25 => ?_)
              · omega
              · refine r_ald C dM_legacy_28 rfl ?_
                refine r_getR C dM_legacy_29 rfl rfl ?_
                refine r_ild C dM_legacy_32 rfl ?_
                refine r_zald C dM_legacy_34 rfl ⟨by omega, by omega⟩ (by decide) ?_
                refine r_if_eq C dM_legacy_35 (by omega) (fun b35 => ?_) (fun b35 => ?_)
                · refine r_ik C dM_legacy_42 ?_
                  refine r_ist C dM_legacy_43 (by decide) (ls' := [(0, _), (1, _), (2, _), (4, _), (5, _)]) rfl ?_
                  refine r_ald C dM_legacy_45 rfl ?_
                  refine r_ild C dM_legacy_46 rfl ?_
                  refine r_ild C dM_legacy_48 rfl ?_
                  refine r_if_eq C dM_legacy_50 (by omega) (fun b50 => ?_) (fun b50 => ?_)
                  · refine r_ik C dM_legacy_68 ?_
                    refine r_callV C lzM_isBarred dM_legacy_69 _ [_, _] [] rfl rfl rfl rfl rfl (Nat.le_of_ble_eq_true rfl) ⟨(Nat.le_of_ble_eq_true rfl), (Nat.le_of_ble_eq_true rfl), (Nat.le_of_ble_eq_true rfl), (Nat.le_of_ble_eq_true rfl)⟩ rfl (cM_isBarred C.2.2.2.2.2.1 (by omega) (by omega) hc (fun _ => ?_) (fun h => absurd rfl h) (fun h => absurd rfl h))
                    refine r_if_ne C dM_legacy_72 (by omega) (fun b72 => ?_) (fun b72 => ?_)
                    · exact r_vret C dM_legacy_85 rfl (Nat.le_of_ble_eq_true rfl) (Nat.le_of_ble_eq_true rfl) (by first | exact h1 (by omega) | exact h2 (by omega) (fun hh => by first | omega | exact hh.2 b58) | exact hn (by omega) ⟨by omega, b58⟩)
                    · omega
                  · omega
                · refine r_ik C dM_legacy_38 ?_
                  refine r_goto C dM_legacy_39 ?_
                  refine r_ist C dM_legacy_43 (by decide) (ls' := [(0, _), (1, _), (2, _), (4, _), (5, _)]) rfl ?_
                  refine r_ald C dM_legacy_45 rfl ?_
                  refine r_ild C dM_legacy_46 rfl ?_
                  refine r_ild C dM_legacy_48 rfl ?_
                  refine r_if_eq C dM_legacy_50 (by omega) (fun b50 => ?_) (fun b50 => ?_)
                  · omega
                  · refine r_ald C dM_legacy_53 rfl ?_
                    refine r_ild C dM_legacy_54 rfl ?_
                    refine r_ild C dM_legacy_55 rfl ?_
                    refine r_ik C dM_legacy_57 ?_
                    refine r_callV C lzM_isHad dM_legacy_58 _ [_, _, _] [_, _] rfl rfl rfl rfl rfl (Nat.le_of_ble_eq_true rfl) ⟨(Nat.le_of_ble_eq_true rfl), (Nat.le_of_ble_eq_true rfl), (Nat.le_of_ble_eq_true rfl), (Nat.le_of_ble_eq_true rfl)⟩ rfl (cM_isHad C.2.2.2.2.2.1 (by omega) (by omega) (by omega) hr hr2 (fun b58 => ?_) (fun b58 => ?_))
                    · refine r_if_ne C dM_legacy_61 (by omega) (fun b61 => ?_) (fun b61 => ?_)
                      · refine r_ik C dM_legacy_68 ?_
                        refine r_callV C lzM_isBarred dM_legacy_69 _ [_, _] [] rfl rfl rfl rfl rfl (Nat.le_of_ble_eq_true rfl) ⟨(Nat.le_of_ble_eq_true rfl), (Nat.le_of_ble_eq_true rfl), (Nat.le_of_ble_eq_true rfl), (Nat.le_of_ble_eq_true rfl)⟩ rfl (cM_isBarred C.2.2.2.2.2.1 (by omega) (by omega) hc (fun h => absurd h (by decide)) (fun _ _ => ?_) (fun _ _ h => absurd rfl h))
                        refine r_if_ne C dM_legacy_72 (by omega) (fun b72 => ?_) (fun b72 => ?_)
                        · exact r_vret C dM_legacy_85 rfl (Nat.le_of_ble_eq_true rfl) (Nat.le_of_ble_eq_true rfl) (by first | exact h1 (by omega) | exact h2 (by omega) (fun hh => by first | omega | exact hh.2 b58) | exact hn (by omega) ⟨by omega, b58⟩)
                        · omega
                      · omega
                    · refine r_if_ne C dM_legacy_61 (by omega) (fun b61 => ?_) (fun b61 => ?_)
                      · omega
                      · refine r_ik C dM_legacy_64 ?_
                        refine r_goto C dM_legacy_65 ?_
                        refine r_callV C lzM_isBarred dM_legacy_69 _ [_, _] [] rfl rfl rfl rfl rfl (Nat.le_of_ble_eq_true rfl) ⟨(Nat.le_of_ble_eq_true rfl), (Nat.le_of_ble_eq_true rfl), (Nat.le_of_ble_eq_true rfl), (Nat.le_of_ble_eq_true rfl)⟩ rfl (cM_isBarred C.2.2.2.2.2.1 (by omega) (by omega) hc (fun h => absurd h (by decide)) (fun _ b69 => ?_) (fun _ b69 _ => ?_))
                        · refine r_if_ne C dM_legacy_72 (by omega) (fun b72 => ?_) (fun b72 => ?_)
                          · exact r_vret C dM_legacy_85 rfl (Nat.le_of_ble_eq_true rfl) (Nat.le_of_ble_eq_true rfl) (by first | exact h1 (by omega) | exact h2 (by omega) (fun hh => by first | omega | exact hh.2 b58) | exact hn (by omega) ⟨by omega, b58⟩)
                          · omega
                        · refine r_if_ne C dM_legacy_72 (by omega) (fun b72 => ?_) (fun b72 => ?_)
                          · omega
                          · refine r_ald C dM_legacy_75 rfl ?_
                            refine r_ild C dM_legacy_76 rfl ?_
                            refine r_ik C dM_legacy_77 ?_
                            refine r_ild C dM_legacy_78 rfl ?_
                            refine r_lld C dM_legacy_80 rfl ?_
                            refine r_ik C dM_legacy_81 ?_
                            refine r_callV C lzM_tell dM_legacy_82 _ [_, _, _, _, _] [] rfl rfl rfl rfl rfl (Nat.le_of_ble_eq_true rfl) ⟨(Nat.le_of_ble_eq_true rfl), (Nat.le_of_ble_eq_true rfl), (Nat.le_of_ble_eq_true rfl), (Nat.le_of_ble_eq_true rfl)⟩ rfl (cM_tell C.2.2.2.2.2.1 (by omega) ?_)
                            exact r_vret C dM_legacy_85 rfl (Nat.le_of_ble_eq_true rfl) (Nat.le_of_ble_eq_true rfl) (by first | exact h1 (by omega) | exact h2 (by omega) (fun hh => by first | omega | exact hh.2 b58) | exact hn (by omega) ⟨by omega, b58⟩)
            · refine r_if_eq C dM_legacy_25 (by omega) (fun b25 => ?_) (fun b25 => ?_)
              · refine r_ik C dM_legacy_42 ?_
                refine r_ist C dM_legacy_43 (by decide) (ls' := [(0, _), (1, _), (2, _), (4, _), (5, _)]) rfl ?_
                refine r_ald C dM_legacy_45 rfl ?_
                refine r_ild C dM_legacy_46 rfl ?_
                refine r_ild C dM_legacy_48 rfl ?_
                refine r_if_eq C dM_legacy_50 (by omega) (fun b50 => ?_) (fun b50 => ?_)
                · refine r_ik C dM_legacy_68 ?_
                  refine r_callV C lzM_isBarred dM_legacy_69 _ [_, _] [] rfl rfl rfl rfl rfl (Nat.le_of_ble_eq_true rfl) ⟨(Nat.le_of_ble_eq_true rfl), (Nat.le_of_ble_eq_true rfl), (Nat.le_of_ble_eq_true rfl), (Nat.le_of_ble_eq_true rfl)⟩ rfl (cM_isBarred C.2.2.2.2.2.1 (by omega) (by omega) hc (fun _ => ?_) (fun h => absurd rfl h) (fun h => absurd rfl h))
                  refine r_if_ne C dM_legacy_72 (by omega) (fun b72 => ?_) (fun b72 => ?_)
                  · exact r_vret C dM_legacy_85 rfl (Nat.le_of_ble_eq_true rfl) (Nat.le_of_ble_eq_true rfl) (by first | exact h1 (by omega) | exact h2 (by omega) (fun hh => by first | omega | exact hh.2 b58) | exact hn (by omega) ⟨by omega, b58⟩)
                  · omega
                · omega
              · omega
      · refine r_if_eq C dM_legacy_11 (by omega) (fun b11 => ?_) (fun b11 => ?_)
        · refine r_ik C dM_legacy_42 ?_
          refine r_ist C dM_legacy_43 (by decide) (ls' := [(0, _), (1, _), (2, _), (4, _), (5, _)]) rfl ?_
          refine r_ald C dM_legacy_45 rfl ?_
          refine r_ild C dM_legacy_46 rfl ?_
          refine r_ild C dM_legacy_48 rfl ?_
          refine r_if_eq C dM_legacy_50 (by omega) (fun b50 => ?_) (fun b50 => ?_)
          · refine r_ik C dM_legacy_68 ?_
            refine r_callV C lzM_isBarred dM_legacy_69 _ [_, _] [] rfl rfl rfl rfl rfl (Nat.le_of_ble_eq_true rfl) ⟨(Nat.le_of_ble_eq_true rfl), (Nat.le_of_ble_eq_true rfl), (Nat.le_of_ble_eq_true rfl), (Nat.le_of_ble_eq_true rfl)⟩ rfl (cM_isBarred C.2.2.2.2.2.1 (by omega) (by omega) hc (fun _ => ?_) (fun h => absurd rfl h) (fun h => absurd rfl h))
            refine r_if_ne C dM_legacy_72 (by omega) (fun b72 => ?_) (fun b72 => ?_)
            · exact r_vret C dM_legacy_85 rfl (Nat.le_of_ble_eq_true rfl) (Nat.le_of_ble_eq_true rfl) (by first | exact h1 (by omega) | exact h2 (by omega) (fun hh => by first | omega | exact hh.2 b58) | exact hn (by omega) ⟨by omega, b58⟩)
            · omega
          · omega
        · omega
  · refine r_if_eq C dM_legacy_4 (by omega) (fun b4 => ?_) (fun b4 => ?_)
    · refine r_ik C dM_legacy_42 ?_
      refine r_ist C dM_legacy_43 (by decide) (ls' := [(0, _), (1, _), (2, _), (4, _), (5, _)]) rfl ?_
      refine r_ald C dM_legacy_45 rfl ?_
      refine r_ild C dM_legacy_46 rfl ?_
      refine r_ild C dM_legacy_48 rfl ?_
      refine r_if_eq C dM_legacy_50 (by omega) (fun b50 => ?_) (fun b50 => ?_)
      · refine r_ik C dM_legacy_68 ?_
        refine r_callV C lzM_isBarred dM_legacy_69 _ [_, _] [] rfl rfl rfl rfl rfl (Nat.le_of_ble_eq_true rfl) ⟨(Nat.le_of_ble_eq_true rfl), (Nat.le_of_ble_eq_true rfl), (Nat.le_of_ble_eq_true rfl), (Nat.le_of_ble_eq_true rfl)⟩ rfl (cM_isBarred C.2.2.2.2.2.1 (by omega) (by omega) hc (fun _ => ?_) (fun h => absurd rfl h) (fun h => absurd rfl h))
        refine r_if_ne C dM_legacy_72 (by omega) (fun b72 => ?_) (fun b72 => ?_)
        · exact r_vret C dM_legacy_85 rfl (Nat.le_of_ble_eq_true rfl) (Nat.le_of_ble_eq_true rfl) (by first | exact h1 (by omega) | exact h2 (by omega) (fun hh => by first | omega | exact hh.2 b58) | exact hn (by omega) ⟨by omega, b58⟩)
        · omega
      · omega
    · omega
set_option maxRecDepth 100000 in
set_option maxHeartbeats 4000000 in
theorem cM_annuity {g : ed_g} {l : Launch} (hl : l.stackTraces = false) {I : ed_I} {L : ed_L} {c y a : Int} (rc : -2147483648 ≤ c ∧ c ≤ 2147483647) (ra : -2147483648 ≤ a ∧ a ≤ 2147483647) (ry : -9223372036854775808 ≤ y ∧ y ≤ 9223372036854775807) (hc : I 79 2 = 0 ∨ I 79 2 = 1) {post : ed_post} (h1 : ¬ ((1 ≤ c ∧ c ≤ 40) ∧ (0 ≤ y ∧ y ≤ 1000000000) ∧ 0 ≤ a ∧ a ≤ 99) → post (.inl (none)) Yw (upI I 79 0 1) L) (h2 : ((1 ≤ c ∧ c ≤ 40) ∧ (0 ≤ y ∧ y ≤ 1000000000) ∧ 0 ≤ a ∧ a ≤ 99) → ¬ (I 79 2 = 0) → post (.inl (none)) Yw (upI I 79 0 2) L) (hn : ((1 ≤ c ∧ c ≤ 40) ∧ (0 ≤ y ∧ y ≤ 1000000000) ∧ 0 ≤ a ∧ a ≤ 99) → (I 79 2 = 0) → post (.inl (none)) Yw (upI (upI (upI (upI (upI (upI I 79 0 0) 79 4 0) 85 c 3) 86 c 0) 88 c a) 89 c 1) (upI L 87 c y)) : ed_Ct g l mM_annuity 3 0 0 [.ref 79, .int (iZ c), .long (lZ y), .int (iZ a)] Yw I L post := by
  refine ed_Ct.of hl rfl (Nat.le_of_ble_eq_true rfl) (fun x _ C => ?_)
  show Gd g x post _ _ _ _ _ _ _ _ 0 [(0, _), (1, _), (2, _), (4, _)] []
  refine r_ald C dM_annuity_0 rfl ?_
  refine r_ild C dM_annuity_1 rfl ?_
  refine r_callS C lzM_isId dM_annuity_2 [_] [_] rfl rfl (Nat.le_of_ble_eq_true rfl) ⟨(Nat.le_of_ble_eq_true rfl), (Nat.le_of_ble_eq_true rfl), (Nat.le_of_ble_eq_true rfl), (Nat.le_of_ble_eq_true rfl)⟩ rfl (cM_isId C.2.2.2.2.2.1 (by omega) (fun b2 => ?_) (fun b2 => ?_))
  · refine r_if_eq C dM_annuity_5 (by omega) (fun b5 => ?_) (fun b5 => ?_)
    · omega
    · refine r_lld C dM_annuity_8 rfl ?_
      refine r_lk C dM_annuity_9 ?_
      refine r_lk C dM_annuity_10 ?_
      refine r_callS C lzM_isIn dM_annuity_13 [_, _, _] [_] rfl rfl (Nat.le_of_ble_eq_true rfl) ⟨(Nat.le_of_ble_eq_true rfl), (Nat.le_of_ble_eq_true rfl), (Nat.le_of_ble_eq_true rfl), (Nat.le_of_ble_eq_true rfl)⟩ rfl (cM_isIn C.2.2.2.2.2.1 (by omega) (fun b13 => ?_) (fun b13 => ?_))
      · refine r_if_eq C dM_annuity_16 (by omega) (fun b16 => ?_) (fun b16 => ?_)
        · omega
        · refine r_ild C dM_annuity_19 rfl ?_
          refine r_i2l C dM_annuity_21 (by omega) ?_
          refine r_lk C dM_annuity_22 ?_
          refine r_lk C dM_annuity_23 ?_
          refine r_callS C lzM_isIn dM_annuity_26 [_, _, _] [_] rfl rfl (Nat.le_of_ble_eq_true rfl) ⟨(Nat.le_of_ble_eq_true rfl), (Nat.le_of_ble_eq_true rfl), (Nat.le_of_ble_eq_true rfl), (Nat.le_of_ble_eq_true rfl)⟩ rfl (cM_isIn C.2.2.2.2.2.1 (by omega) (fun b26 => ?_) (fun b26 => ?_))
          · refine r_if_eq C dM_annuity_29 (by omega) (fun b29 => ?_) (fun b29 => ?_)
            · omega
            · refine r_ik C dM_annuity_32 ?_
              refine r_goto C dM_annuity_33 ?_
              refine r_ik C dM_annuity_37 ?_
              refine r_callV C lzM_isBarred dM_annuity_38 _ [_, _] [] rfl rfl rfl rfl rfl (Nat.le_of_ble_eq_true rfl) ⟨(Nat.le_of_ble_eq_true rfl), (Nat.le_of_ble_eq_true rfl), (Nat.le_of_ble_eq_true rfl), (Nat.le_of_ble_eq_true rfl)⟩ rfl (cM_isBarred C.2.2.2.2.2.1 (by omega) (by omega) hc (fun h => absurd h (by decide)) (fun _ b38 => ?_) (fun _ b38 _ => ?_))
              · refine r_if_ne C dM_annuity_41 (by omega) (fun b41 => ?_) (fun b41 => ?_)
                · exact r_vret C dM_annuity_54 rfl (Nat.le_of_ble_eq_true rfl) (Nat.le_of_ble_eq_true rfl) (by first | exact h1 (by omega) | exact h2 (by omega) (by omega) | exact hn (by omega) (by omega))
                · omega
              · refine r_if_ne C dM_annuity_41 (by omega) (fun b41 => ?_) (fun b41 => ?_)
                · omega
                · refine r_ald C dM_annuity_44 rfl ?_
                  refine r_ild C dM_annuity_45 rfl ?_
                  refine r_ik C dM_annuity_46 ?_
                  refine r_ik C dM_annuity_47 ?_
                  refine r_lld C dM_annuity_48 rfl ?_
                  refine r_ild C dM_annuity_49 rfl ?_
                  refine r_callV C lzM_tell dM_annuity_51 _ [_, _, _, _, _] [] rfl rfl rfl rfl rfl (Nat.le_of_ble_eq_true rfl) ⟨(Nat.le_of_ble_eq_true rfl), (Nat.le_of_ble_eq_true rfl), (Nat.le_of_ble_eq_true rfl), (Nat.le_of_ble_eq_true rfl)⟩ rfl (cM_tell C.2.2.2.2.2.1 (by omega) ?_)
                  exact r_vret C dM_annuity_54 rfl (Nat.le_of_ble_eq_true rfl) (Nat.le_of_ble_eq_true rfl) (by first | exact h1 (by omega) | exact h2 (by omega) (by omega) | exact hn (by omega) (by omega))
          · refine r_if_eq C dM_annuity_29 (by omega) (fun b29 => ?_) (fun b29 => ?_)
            · refine r_ik C dM_annuity_36 ?_
              refine r_ik C dM_annuity_37 ?_
              refine r_callV C lzM_isBarred dM_annuity_38 _ [_, _] [] rfl rfl rfl rfl rfl (Nat.le_of_ble_eq_true rfl) ⟨(Nat.le_of_ble_eq_true rfl), (Nat.le_of_ble_eq_true rfl), (Nat.le_of_ble_eq_true rfl), (Nat.le_of_ble_eq_true rfl)⟩ rfl (cM_isBarred C.2.2.2.2.2.1 (by omega) (by omega) hc (fun _ => ?_) (fun h => absurd rfl h) (fun h => absurd rfl h))
              refine r_if_ne C dM_annuity_41 (by omega) (fun b41 => ?_) (fun b41 => ?_)
              · exact r_vret C dM_annuity_54 rfl (Nat.le_of_ble_eq_true rfl) (Nat.le_of_ble_eq_true rfl) (by first | exact h1 (by omega) | exact h2 (by omega) (by omega) | exact hn (by omega) (by omega))
              · omega
            · omega
      · refine r_if_eq C dM_annuity_16 (by omega) (fun b16 => ?_) (fun b16 => ?_)
        · refine r_ik C dM_annuity_36 ?_
          refine r_ik C dM_annuity_37 ?_
          refine r_callV C lzM_isBarred dM_annuity_38 _ [_, _] [] rfl rfl rfl rfl rfl (Nat.le_of_ble_eq_true rfl) ⟨(Nat.le_of_ble_eq_true rfl), (Nat.le_of_ble_eq_true rfl), (Nat.le_of_ble_eq_true rfl), (Nat.le_of_ble_eq_true rfl)⟩ rfl (cM_isBarred C.2.2.2.2.2.1 (by omega) (by omega) hc (fun _ => ?_) (fun h => absurd rfl h) (fun h => absurd rfl h))
          refine r_if_ne C dM_annuity_41 (by omega) (fun b41 => ?_) (fun b41 => ?_)
          · exact r_vret C dM_annuity_54 rfl (Nat.le_of_ble_eq_true rfl) (Nat.le_of_ble_eq_true rfl) (by first | exact h1 (by omega) | exact h2 (by omega) (by omega) | exact hn (by omega) (by omega))
          · omega
        · omega
  · refine r_if_eq C dM_annuity_5 (by omega) (fun b5 => ?_) (fun b5 => ?_)
    · refine r_ik C dM_annuity_36 ?_
      refine r_ik C dM_annuity_37 ?_
      refine r_callV C lzM_isBarred dM_annuity_38 _ [_, _] [] rfl rfl rfl rfl rfl (Nat.le_of_ble_eq_true rfl) ⟨(Nat.le_of_ble_eq_true rfl), (Nat.le_of_ble_eq_true rfl), (Nat.le_of_ble_eq_true rfl), (Nat.le_of_ble_eq_true rfl)⟩ rfl (cM_isBarred C.2.2.2.2.2.1 (by omega) (by omega) hc (fun _ => ?_) (fun h => absurd rfl h) (fun h => absurd rfl h))
      refine r_if_ne C dM_annuity_41 (by omega) (fun b41 => ?_) (fun b41 => ?_)
      · exact r_vret C dM_annuity_54 rfl (Nat.le_of_ble_eq_true rfl) (Nat.le_of_ble_eq_true rfl) (by first | exact h1 (by omega) | exact h2 (by omega) (by omega) | exact hn (by omega) (by omega))
      · omega
    · omega
set_option maxRecDepth 100000 in
set_option maxHeartbeats 4000000 in
theorem cM_residue {g : ed_g} {l : Launch} (hl : l.stackTraces = false) {I : ed_I} {L : ed_L} {c a : Int} (rc : -2147483648 ≤ c ∧ c ≤ 2147483647) (ra : -2147483648 ≤ a ∧ a ≤ 2147483647) (hc : I 79 2 = 0 ∨ I 79 2 = 1) {post : ed_post} (h1 : ¬ ((1 ≤ c ∧ c ≤ 40) ∧ 1 ≤ a ∧ a ≤ 1000) → post (.inl (none)) Yw (upI I 79 0 1) L) (h2 : ((1 ≤ c ∧ c ≤ 40) ∧ 1 ≤ a ∧ a ≤ 1000) → ¬ (I 79 2 = 0) → post (.inl (none)) Yw (upI I 79 0 2) L) (hn : ((1 ≤ c ∧ c ≤ 40) ∧ 1 ≤ a ∧ a ≤ 1000) → (I 79 2 = 0) → post (.inl (none)) Yw (upI (upI (upI (upI (upI (upI I 79 0 0) 79 4 0) 85 c 4) 86 c 0) 88 c a) 89 c 1) (upI L 87 c 0)) : ed_Ct g l mM_residue 3 0 0 [.ref 79, .int (iZ c), .int (iZ a)] Yw I L post := by
  refine ed_Ct.of hl rfl (Nat.le_of_ble_eq_true rfl) (fun x _ C => ?_)
  show Gd g x post _ _ _ _ _ _ _ _ 0 [(0, _), (1, _), (2, _)] []
  refine r_ald C dM_residue_0 rfl ?_
  refine r_ild C dM_residue_1 rfl ?_
  refine r_callS C lzM_isId dM_residue_2 [_] [_] rfl rfl (Nat.le_of_ble_eq_true rfl) ⟨(Nat.le_of_ble_eq_true rfl), (Nat.le_of_ble_eq_true rfl), (Nat.le_of_ble_eq_true rfl), (Nat.le_of_ble_eq_true rfl)⟩ rfl (cM_isId C.2.2.2.2.2.1 (by omega) (fun b2 => ?_) (fun b2 => ?_))
  · refine r_if_eq C dM_residue_5 (by omega) (fun b5 => ?_) (fun b5 => ?_)
    · omega
    · refine r_ild C dM_residue_8 rfl ?_
      refine r_i2l C dM_residue_9 (by omega) ?_
      refine r_lk C dM_residue_10 ?_
      refine r_lk C dM_residue_11 ?_
      refine r_callS C lzM_isIn dM_residue_14 [_, _, _] [_] rfl rfl (Nat.le_of_ble_eq_true rfl) ⟨(Nat.le_of_ble_eq_true rfl), (Nat.le_of_ble_eq_true rfl), (Nat.le_of_ble_eq_true rfl), (Nat.le_of_ble_eq_true rfl)⟩ rfl (cM_isIn C.2.2.2.2.2.1 (by omega) (fun b14 => ?_) (fun b14 => ?_))
      · refine r_if_eq C dM_residue_17 (by omega) (fun b17 => ?_) (fun b17 => ?_)
        · omega
        · refine r_ik C dM_residue_20 ?_
          refine r_goto C dM_residue_21 ?_
          refine r_ik C dM_residue_25 ?_
          refine r_callV C lzM_isBarred dM_residue_26 _ [_, _] [] rfl rfl rfl rfl rfl (Nat.le_of_ble_eq_true rfl) ⟨(Nat.le_of_ble_eq_true rfl), (Nat.le_of_ble_eq_true rfl), (Nat.le_of_ble_eq_true rfl), (Nat.le_of_ble_eq_true rfl)⟩ rfl (cM_isBarred C.2.2.2.2.2.1 (by omega) (by omega) hc (fun h => absurd h (by decide)) (fun _ b26 => ?_) (fun _ b26 _ => ?_))
          · refine r_if_ne C dM_residue_29 (by omega) (fun b29 => ?_) (fun b29 => ?_)
            · exact r_vret C dM_residue_41 rfl (Nat.le_of_ble_eq_true rfl) (Nat.le_of_ble_eq_true rfl) (by first | exact h1 (by omega) | exact h2 (by omega) (by omega) | exact hn (by omega) (by omega))
            · omega
          · refine r_if_ne C dM_residue_29 (by omega) (fun b29 => ?_) (fun b29 => ?_)
            · omega
            · refine r_ald C dM_residue_32 rfl ?_
              refine r_ild C dM_residue_33 rfl ?_
              refine r_ik C dM_residue_34 ?_
              refine r_ik C dM_residue_35 ?_
              refine r_lk C dM_residue_36 ?_
              refine r_ild C dM_residue_37 rfl ?_
              refine r_callV C lzM_tell dM_residue_38 _ [_, _, _, _, _] [] rfl rfl rfl rfl rfl (Nat.le_of_ble_eq_true rfl) ⟨(Nat.le_of_ble_eq_true rfl), (Nat.le_of_ble_eq_true rfl), (Nat.le_of_ble_eq_true rfl), (Nat.le_of_ble_eq_true rfl)⟩ rfl (cM_tell C.2.2.2.2.2.1 (by omega) ?_)
              exact r_vret C dM_residue_41 rfl (Nat.le_of_ble_eq_true rfl) (Nat.le_of_ble_eq_true rfl) (by first | exact h1 (by omega) | exact h2 (by omega) (by omega) | exact hn (by omega) (by omega))
      · refine r_if_eq C dM_residue_17 (by omega) (fun b17 => ?_) (fun b17 => ?_)
        · refine r_ik C dM_residue_24 ?_
          refine r_ik C dM_residue_25 ?_
          refine r_callV C lzM_isBarred dM_residue_26 _ [_, _] [] rfl rfl rfl rfl rfl (Nat.le_of_ble_eq_true rfl) ⟨(Nat.le_of_ble_eq_true rfl), (Nat.le_of_ble_eq_true rfl), (Nat.le_of_ble_eq_true rfl), (Nat.le_of_ble_eq_true rfl)⟩ rfl (cM_isBarred C.2.2.2.2.2.1 (by omega) (by omega) hc (fun _ => ?_) (fun h => absurd rfl h) (fun h => absurd rfl h))
          refine r_if_ne C dM_residue_29 (by omega) (fun b29 => ?_) (fun b29 => ?_)
          · exact r_vret C dM_residue_41 rfl (Nat.le_of_ble_eq_true rfl) (Nat.le_of_ble_eq_true rfl) (by first | exact h1 (by omega) | exact h2 (by omega) (by omega) | exact hn (by omega) (by omega))
          · omega
        · omega
  · refine r_if_eq C dM_residue_5 (by omega) (fun b5 => ?_) (fun b5 => ?_)
    · refine r_ik C dM_residue_24 ?_
      refine r_ik C dM_residue_25 ?_
      refine r_callV C lzM_isBarred dM_residue_26 _ [_, _] [] rfl rfl rfl rfl rfl (Nat.le_of_ble_eq_true rfl) ⟨(Nat.le_of_ble_eq_true rfl), (Nat.le_of_ble_eq_true rfl), (Nat.le_of_ble_eq_true rfl), (Nat.le_of_ble_eq_true rfl)⟩ rfl (cM_isBarred C.2.2.2.2.2.1 (by omega) (by omega) hc (fun _ => ?_) (fun h => absurd rfl h) (fun h => absurd rfl h))
      refine r_if_ne C dM_residue_29 (by omega) (fun b29 => ?_) (fun b29 => ?_)
      · exact r_vret C dM_residue_41 rfl (Nat.le_of_ble_eq_true rfl) (Nat.le_of_ble_eq_true rfl) (by first | exact h1 (by omega) | exact h2 (by omega) (by omega) | exact hn (by omega) (by omega))
      · omega
    · omega
set_option maxRecDepth 100000 in
set_option maxHeartbeats 4000000 in
theorem cM_strike {g : ed_g} {l : Launch} (hl : l.stackTraces = false) {I : ed_I} {L : ed_L} {c : Int} (rc : -2147483648 ≤ c ∧ c ≤ 2147483647) (hc : I 79 2 = 0 ∨ I 79 2 = 1) {post : ed_post} (h1 : ¬ (1 ≤ c ∧ c ≤ 40) → post (.inl (none)) Yw (upI I 79 0 1) L) (h2 : (1 ≤ c ∧ c ≤ 40) → ¬ (I 79 2 = 0) → post (.inl (none)) Yw (upI I 79 0 2) L) (hn : (1 ≤ c ∧ c ≤ 40) → (I 79 2 = 0) → post (.inl (none)) Yw (upI (upI (upI I 79 0 0) 79 4 0) 85 c 0) L) : ed_Ct g l mM_strike 3 0 0 [.ref 79, .int (iZ c)] Yw I L post := by
  refine ed_Ct.of hl rfl (Nat.le_of_ble_eq_true rfl) (fun x _ C => ?_)
  show Gd g x post _ _ _ _ _ _ _ _ 0 [(0, _), (1, _)] []
  refine r_ald C dM_strike_0 rfl ?_
  refine r_ild C dM_strike_1 rfl ?_
  refine r_callS C lzM_isId dM_strike_2 [_] [_] rfl rfl (Nat.le_of_ble_eq_true rfl) ⟨(Nat.le_of_ble_eq_true rfl), (Nat.le_of_ble_eq_true rfl), (Nat.le_of_ble_eq_true rfl), (Nat.le_of_ble_eq_true rfl)⟩ rfl (cM_isId C.2.2.2.2.2.1 (by omega) (fun b2 => ?_) (fun b2 => ?_))
  · refine r_ik C dM_strike_5 ?_
    refine r_callV C lzM_isBarred dM_strike_6 _ [_, _] [] rfl rfl rfl rfl rfl (Nat.le_of_ble_eq_true rfl) ⟨(Nat.le_of_ble_eq_true rfl), (Nat.le_of_ble_eq_true rfl), (Nat.le_of_ble_eq_true rfl), (Nat.le_of_ble_eq_true rfl)⟩ rfl (cM_isBarred C.2.2.2.2.2.1 (by omega) (by omega) hc (fun h => absurd h (by decide)) (fun _ b6 => ?_) (fun _ b6 _ => ?_))
    · refine r_if_ne C dM_strike_9 (by omega) (fun b9 => ?_) (fun b9 => ?_)
      · exact r_vret C dM_strike_19 rfl (Nat.le_of_ble_eq_true rfl) (Nat.le_of_ble_eq_true rfl) (by first | exact h1 (by omega) | exact h2 (by omega) (by omega) | exact hn (by omega) (by omega))
      · omega
    · refine r_if_ne C dM_strike_9 (by omega) (fun b9 => ?_) (fun b9 => ?_)
      · omega
      · refine r_ald C dM_strike_12 rfl ?_
        refine r_getR C dM_strike_13 rfl rfl ?_
        refine r_ild C dM_strike_16 rfl ?_
        refine r_ik C dM_strike_17 ?_
        refine r_iast C dM_strike_18 rfl rfl ⟨by omega, by omega⟩ (by decide) ?_
        exact r_vret C dM_strike_19 rfl (Nat.le_of_ble_eq_true rfl) (Nat.le_of_ble_eq_true rfl) (by first | exact h1 (by omega) | exact h2 (by omega) (by omega) | exact hn (by omega) (by omega))
  · refine r_ik C dM_strike_5 ?_
    refine r_callV C lzM_isBarred dM_strike_6 _ [_, _] [] rfl rfl rfl rfl rfl (Nat.le_of_ble_eq_true rfl) ⟨(Nat.le_of_ble_eq_true rfl), (Nat.le_of_ble_eq_true rfl), (Nat.le_of_ble_eq_true rfl), (Nat.le_of_ble_eq_true rfl)⟩ rfl (cM_isBarred C.2.2.2.2.2.1 (by omega) (by omega) hc (fun _ => ?_) (fun h => absurd rfl h) (fun h => absurd rfl h))
    refine r_if_ne C dM_strike_9 (by omega) (fun b9 => ?_) (fun b9 => ?_)
    · exact r_vret C dM_strike_19 rfl (Nat.le_of_ble_eq_true rfl) (Nat.le_of_ble_eq_true rfl) (by first | exact h1 (by omega) | exact h2 (by omega) (by omega) | exact hn (by omega) (by omega))
    · omega
set_option maxRecDepth 100000 in
set_option maxHeartbeats 4000000 in
theorem cM_taker {g : ed_g} {l : Launch} (hl : l.stackTraces = false) {I : ed_I} {L : ed_L} {c r p : Int} (rc : -2147483648 ≤ c ∧ c ≤ 2147483647) (rr : -2147483648 ≤ r ∧ r ≤ 2147483647) (rp : -2147483648 ≤ p ∧ p ≤ 2147483647) (hc : I 79 2 = 0 ∨ I 79 2 = 1) {post : ed_post} (h1 : ¬ ((1 ≤ c ∧ c ≤ 40) ∧ (1 ≤ r ∧ r ≤ 4) ∧ 0 ≤ p ∧ p ≤ 40) → post (.inl (none)) Yw (upI I 79 0 1) L) (h2 : ((1 ≤ c ∧ c ≤ 40) ∧ (1 ≤ r ∧ r ≤ 4) ∧ 0 ≤ p ∧ p ≤ 40) → ¬ (I 79 2 = 0) → post (.inl (none)) Yw (upI I 79 0 2) L) (hn : ((1 ≤ c ∧ c ≤ 40) ∧ (1 ≤ r ∧ r ≤ 4) ∧ 0 ≤ p ∧ p ≤ 40) → (I 79 2 = 0) → post (.inl (none)) Yw (upI (upI (upI I 79 0 0) 79 4 0) 90 (5 * c + r) p) L) : ed_Ct g l mM_taker 3 0 0 [.ref 79, .int (iZ c), .int (iZ r), .int (iZ p)] Yw I L post := by
  refine ed_Ct.of hl rfl (Nat.le_of_ble_eq_true rfl) (fun x _ C => ?_)
  show Gd g x post _ _ _ _ _ _ _ _ 0 [(0, _), (1, _), (2, _), (3, _)] []
  refine r_ald C dM_taker_0 rfl ?_
  refine r_ild C dM_taker_1 rfl ?_
  refine r_callS C lzM_isId dM_taker_2 [_] [_] rfl rfl (Nat.le_of_ble_eq_true rfl) ⟨(Nat.le_of_ble_eq_true rfl), (Nat.le_of_ble_eq_true rfl), (Nat.le_of_ble_eq_true rfl), (Nat.le_of_ble_eq_true rfl)⟩ rfl (cM_isId C.2.2.2.2.2.1 (by omega) (fun b2 => ?_) (fun b2 => ?_))
  · refine r_if_eq C dM_taker_5 (by omega) (fun b5 => ?_) (fun b5 => ?_)
    · omega
    · refine r_ild C dM_taker_8 rfl ?_
      refine r_i2l C dM_taker_9 (by omega) ?_
      refine r_lk C dM_taker_10 ?_
      refine r_lk C dM_taker_11 ?_
      refine r_callS C lzM_isIn dM_taker_14 [_, _, _] [_] rfl rfl (Nat.le_of_ble_eq_true rfl) ⟨(Nat.le_of_ble_eq_true rfl), (Nat.le_of_ble_eq_true rfl), (Nat.le_of_ble_eq_true rfl), (Nat.le_of_ble_eq_true rfl)⟩ rfl (cM_isIn C.2.2.2.2.2.1 (by omega) (fun b14 => ?_) (fun b14 => ?_))
      · refine r_if_eq C dM_taker_17 (by omega) (fun b17 => ?_) (fun b17 => ?_)
        · omega
        · refine r_ild C dM_taker_20 rfl ?_
          refine r_i2l C dM_taker_21 (by omega) ?_
          refine r_lk C dM_taker_22 ?_
          refine r_lk C dM_taker_23 ?_
          refine r_callS C lzM_isIn dM_taker_26 [_, _, _] [_] rfl rfl (Nat.le_of_ble_eq_true rfl) ⟨(Nat.le_of_ble_eq_true rfl), (Nat.le_of_ble_eq_true rfl), (Nat.le_of_ble_eq_true rfl), (Nat.le_of_ble_eq_true rfl)⟩ rfl (cM_isIn C.2.2.2.2.2.1 (by omega) (fun b26 => ?_) (fun b26 => ?_))
          · refine r_if_eq C dM_taker_29 (by omega) (fun b29 => ?_) (fun b29 => ?_)
            · omega
            · refine r_ik C dM_taker_32 ?_
              refine r_goto C dM_taker_33 ?_
              refine r_ik C dM_taker_37 ?_
              refine r_callV C lzM_isBarred dM_taker_38 _ [_, _] [] rfl rfl rfl rfl rfl (Nat.le_of_ble_eq_true rfl) ⟨(Nat.le_of_ble_eq_true rfl), (Nat.le_of_ble_eq_true rfl), (Nat.le_of_ble_eq_true rfl), (Nat.le_of_ble_eq_true rfl)⟩ rfl (cM_isBarred C.2.2.2.2.2.1 (by omega) (by omega) hc (fun h => absurd h (by decide)) (fun _ b38 => ?_) (fun _ b38 _ => ?_))
              · refine r_if_ne C dM_taker_41 (by omega) (fun b41 => ?_) (fun b41 => ?_)
                · exact r_vret C dM_taker_55 rfl (Nat.le_of_ble_eq_true rfl) (Nat.le_of_ble_eq_true rfl) (by first | exact h1 (by omega) | exact h2 (by omega) (by omega) | exact hn (by omega) (by omega))
                · omega
              · refine r_if_ne C dM_taker_41 (by omega) (fun b41 => ?_) (fun b41 => ?_)
                · omega
                · refine r_ald C dM_taker_44 rfl ?_
                  refine r_getR C dM_taker_45 rfl rfl ?_
                  refine r_ik C dM_taker_48 ?_
                  refine r_ild C dM_taker_49 rfl ?_
                  refine r_imul C dM_taker_50 ?_
                  refine r_ild C dM_taker_51 rfl ?_
                  refine r_iadd C dM_taker_52 ?_
                  refine r_ild C dM_taker_53 rfl ?_
                  refine r_iast C dM_taker_54 rfl rfl ⟨by omega, by omega⟩ (by decide) ?_
                  exact r_vret C dM_taker_55 rfl (Nat.le_of_ble_eq_true rfl) (Nat.le_of_ble_eq_true rfl) (by first | exact h1 (by omega) | exact h2 (by omega) (by omega) | exact hn (by omega) (by omega))
          · refine r_if_eq C dM_taker_29 (by omega) (fun b29 => ?_) (fun b29 => ?_)
            · refine r_ik C dM_taker_36 ?_
              refine r_ik C dM_taker_37 ?_
              refine r_callV C lzM_isBarred dM_taker_38 _ [_, _] [] rfl rfl rfl rfl rfl (Nat.le_of_ble_eq_true rfl) ⟨(Nat.le_of_ble_eq_true rfl), (Nat.le_of_ble_eq_true rfl), (Nat.le_of_ble_eq_true rfl), (Nat.le_of_ble_eq_true rfl)⟩ rfl (cM_isBarred C.2.2.2.2.2.1 (by omega) (by omega) hc (fun _ => ?_) (fun h => absurd rfl h) (fun h => absurd rfl h))
              refine r_if_ne C dM_taker_41 (by omega) (fun b41 => ?_) (fun b41 => ?_)
              · exact r_vret C dM_taker_55 rfl (Nat.le_of_ble_eq_true rfl) (Nat.le_of_ble_eq_true rfl) (by first | exact h1 (by omega) | exact h2 (by omega) (by omega) | exact hn (by omega) (by omega))
              · omega
            · omega
      · refine r_if_eq C dM_taker_17 (by omega) (fun b17 => ?_) (fun b17 => ?_)
        · refine r_ik C dM_taker_36 ?_
          refine r_ik C dM_taker_37 ?_
          refine r_callV C lzM_isBarred dM_taker_38 _ [_, _] [] rfl rfl rfl rfl rfl (Nat.le_of_ble_eq_true rfl) ⟨(Nat.le_of_ble_eq_true rfl), (Nat.le_of_ble_eq_true rfl), (Nat.le_of_ble_eq_true rfl), (Nat.le_of_ble_eq_true rfl)⟩ rfl (cM_isBarred C.2.2.2.2.2.1 (by omega) (by omega) hc (fun _ => ?_) (fun h => absurd rfl h) (fun h => absurd rfl h))
          refine r_if_ne C dM_taker_41 (by omega) (fun b41 => ?_) (fun b41 => ?_)
          · exact r_vret C dM_taker_55 rfl (Nat.le_of_ble_eq_true rfl) (Nat.le_of_ble_eq_true rfl) (by first | exact h1 (by omega) | exact h2 (by omega) (by omega) | exact hn (by omega) (by omega))
          · omega
        · omega
  · refine r_if_eq C dM_taker_5 (by omega) (fun b5 => ?_) (fun b5 => ?_)
    · refine r_ik C dM_taker_36 ?_
      refine r_ik C dM_taker_37 ?_
      refine r_callV C lzM_isBarred dM_taker_38 _ [_, _] [] rfl rfl rfl rfl rfl (Nat.le_of_ble_eq_true rfl) ⟨(Nat.le_of_ble_eq_true rfl), (Nat.le_of_ble_eq_true rfl), (Nat.le_of_ble_eq_true rfl), (Nat.le_of_ble_eq_true rfl)⟩ rfl (cM_isBarred C.2.2.2.2.2.1 (by omega) (by omega) hc (fun _ => ?_) (fun h => absurd rfl h) (fun h => absurd rfl h))
      refine r_if_ne C dM_taker_41 (by omega) (fun b41 => ?_) (fun b41 => ?_)
      · exact r_vret C dM_taker_55 rfl (Nat.le_of_ble_eq_true rfl) (Nat.le_of_ble_eq_true rfl) (by first | exact h1 (by omega) | exact h2 (by omega) (by omega) | exact hn (by omega) (by omega))
      · omega
    · omega
set_option maxRecDepth 100000 in
set_option maxHeartbeats 4000000 in
theorem cM_charge {g : ed_g} {l : Launch} (hl : l.stackTraces = false) {I : ed_I} {L : ed_L} {c f : Int} (rc : -2147483648 ≤ c ∧ c ≤ 2147483647) (hf : f = 0 ∨ f = 1) (hc : I 79 2 = 0 ∨ I 79 2 = 1) (hr2 : ∀ j, 0 ≤ j → j ≤ 40 → -1 ≤ I 85 j ∧ I 85 j ≤ 100000) {post : ed_post} (h1 : ¬ ((1 ≤ c ∧ c ≤ 40) ∧ I 85 c = 1) → post (.inl (none)) Yw (upI I 79 0 1) L) (h2 : ((1 ≤ c ∧ c ≤ 40) ∧ I 85 c = 1) → ¬ (I 79 2 = 0) → post (.inl (none)) Yw (upI I 79 0 2) L) (hn : ((1 ≤ c ∧ c ≤ 40) ∧ I 85 c = 1) → (I 79 2 = 0) → post (.inl (none)) Yw (upI (upI (upI I 79 0 0) 79 4 0) 89 c f) L) : ed_Ct g l mM_charge 3 0 0 [.ref 79, .int (iZ c), .int (iZ f)] Yw I L post := by
  refine ed_Ct.of hl rfl (Nat.le_of_ble_eq_true rfl) (fun x _ C => ?_)
  show Gd g x post _ _ _ _ _ _ _ _ 0 [(0, _), (1, _), (2, _)] []
  have hr3 := fun (h : 0 ≤ c ∧ c ≤ 40) => hr2 c h.1 h.2
  refine r_ald C dM_charge_0 rfl ?_
  refine r_ild C dM_charge_1 rfl ?_
  refine r_callS C lzM_isId dM_charge_2 [_] [_] rfl rfl (Nat.le_of_ble_eq_true rfl) ⟨(Nat.le_of_ble_eq_true rfl), (Nat.le_of_ble_eq_true rfl), (Nat.le_of_ble_eq_true rfl), (Nat.le_of_ble_eq_true rfl)⟩ rfl (cM_isId C.2.2.2.2.2.1 (by omega) (fun b2 => ?_) (fun b2 => ?_))
  · refine r_if_eq C dM_charge_5 (by omega) (fun b5 => ?_) (fun b5 => ?_)
    · omega
    · refine r_ald C dM_charge_8 rfl ?_
      refine r_getR C dM_charge_9 rfl rfl ?_
      refine r_ild C dM_charge_12 rfl ?_
      refine r_iald C dM_charge_13 rfl ⟨by omega, by omega⟩ (by decide) ?_
      refine r_ik C dM_charge_14 ?_
      refine r_icmp_ne C dM_charge_15 (by omega) (fun b15 => ?_) (fun b15 => ?_)
      · refine r_ik C dM_charge_22 ?_
        refine r_ik C dM_charge_23 ?_
        refine r_callV C lzM_isBarred dM_charge_24 _ [_, _] [] rfl rfl rfl rfl rfl (Nat.le_of_ble_eq_true rfl) ⟨(Nat.le_of_ble_eq_true rfl), (Nat.le_of_ble_eq_true rfl), (Nat.le_of_ble_eq_true rfl), (Nat.le_of_ble_eq_true rfl)⟩ rfl (cM_isBarred C.2.2.2.2.2.1 (by omega) (by omega) hc (fun _ => ?_) (fun h => absurd rfl h) (fun h => absurd rfl h))
        refine r_if_ne C dM_charge_27 (by omega) (fun b27 => ?_) (fun b27 => ?_)
        · exact r_vret C dM_charge_37 rfl (Nat.le_of_ble_eq_true rfl) (Nat.le_of_ble_eq_true rfl) (by first | exact h1 (by omega) | exact h2 (by omega) (by omega) | exact hn (by omega) (by omega))
        · omega
      · refine r_ik C dM_charge_18 ?_
        refine r_goto C dM_charge_19 ?_
        refine r_ik C dM_charge_23 ?_
        refine r_callV C lzM_isBarred dM_charge_24 _ [_, _] [] rfl rfl rfl rfl rfl (Nat.le_of_ble_eq_true rfl) ⟨(Nat.le_of_ble_eq_true rfl), (Nat.le_of_ble_eq_true rfl), (Nat.le_of_ble_eq_true rfl), (Nat.le_of_ble_eq_true rfl)⟩ rfl (cM_isBarred C.2.2.2.2.2.1 (by omega) (by omega) hc (fun h => absurd h (by decide)) (fun _ b24 => ?_) (fun _ b24 _ => ?_))
        · refine r_if_ne C dM_charge_27 (by omega) (fun b27 => ?_) (fun b27 => ?_)
          · exact r_vret C dM_charge_37 rfl (Nat.le_of_ble_eq_true rfl) (Nat.le_of_ble_eq_true rfl) (by first | exact h1 (by omega) | exact h2 (by omega) (by omega) | exact hn (by omega) (by omega))
          · omega
        · refine r_if_ne C dM_charge_27 (by omega) (fun b27 => ?_) (fun b27 => ?_)
          · omega
          · refine r_ald C dM_charge_30 rfl ?_
            refine r_getR C dM_charge_31 rfl rfl ?_
            refine r_ild C dM_charge_34 rfl ?_
            refine r_ild C dM_charge_35 rfl ?_
            refine r_zast C dM_charge_36 rfl rfl ⟨by omega, by omega⟩ (by decide) (by omega) ?_
            exact r_vret C dM_charge_37 rfl (Nat.le_of_ble_eq_true rfl) (Nat.le_of_ble_eq_true rfl) (by first | exact h1 (by omega) | exact h2 (by omega) (by omega) | exact hn (by omega) (by omega))
  · refine r_if_eq C dM_charge_5 (by omega) (fun b5 => ?_) (fun b5 => ?_)
    · refine r_ik C dM_charge_22 ?_
      refine r_ik C dM_charge_23 ?_
      refine r_callV C lzM_isBarred dM_charge_24 _ [_, _] [] rfl rfl rfl rfl rfl (Nat.le_of_ble_eq_true rfl) ⟨(Nat.le_of_ble_eq_true rfl), (Nat.le_of_ble_eq_true rfl), (Nat.le_of_ble_eq_true rfl), (Nat.le_of_ble_eq_true rfl)⟩ rfl (cM_isBarred C.2.2.2.2.2.1 (by omega) (by omega) hc (fun _ => ?_) (fun h => absurd rfl h) (fun h => absurd rfl h))
      refine r_if_ne C dM_charge_27 (by omega) (fun b27 => ?_) (fun b27 => ?_)
      · exact r_vret C dM_charge_37 rfl (Nat.le_of_ble_eq_true rfl) (Nat.le_of_ble_eq_true rfl) (by first | exact h1 (by omega) | exact h2 (by omega) (by omega) | exact hn (by omega) (by omega))
      · omega
    · omega
set_option maxRecDepth 100000 in
set_option maxHeartbeats 4000000 in
theorem cM_debt {g : ed_g} {l : Launch} (hl : l.stackTraces = false) {I : ed_I} {L : ed_L} {c v a : Int} (rc : -2147483648 ≤ c ∧ c ≤ 2147483647) (ra : -2147483648 ≤ a ∧ a ≤ 2147483647) (rv : -9223372036854775808 ≤ v ∧ v ≤ 9223372036854775807) (hc : I 79 2 = 0 ∨ I 79 2 = 1) (hk : ∀ j, 0 ≤ j → j ≤ 40 → I 81 j = 0 ∨ I 81 j = 1) {post : ed_post} (h1 : ¬ ((1 ≤ c ∧ c ≤ 40) ∧ (0 ≤ v ∧ v ≤ 1000000000000) ∧ (a = 0 ∨ ((1 ≤ a ∧ a ≤ 40) ∧ I 81 a ≠ 0))) → post (.inl (none)) Yw (upI I 79 0 1) L) (h2 : ((1 ≤ c ∧ c ≤ 40) ∧ (0 ≤ v ∧ v ≤ 1000000000000) ∧ (a = 0 ∨ ((1 ≤ a ∧ a ≤ 40) ∧ I 81 a ≠ 0))) → ¬ (I 79 2 = 0) → post (.inl (none)) Yw (upI I 79 0 2) L) (hn : ((1 ≤ c ∧ c ≤ 40) ∧ (0 ≤ v ∧ v ≤ 1000000000000) ∧ (a = 0 ∨ ((1 ≤ a ∧ a ≤ 40) ∧ I 81 a ≠ 0))) → (I 79 2 = 0) → post (.inl (none)) Yw (upI (upI (upI (upI I 79 0 0) 79 4 0) 91 c 1) 93 c a) (upI L 92 c v)) : ed_Ct g l mM_debt 3 0 0 [.ref 79, .int (iZ c), .long (lZ v), .int (iZ a)] Yw I L post := by
  refine ed_Ct.of hl rfl (Nat.le_of_ble_eq_true rfl) (fun x _ C => ?_)
  show Gd g x post _ _ _ _ _ _ _ _ 0 [(0, _), (1, _), (2, _), (4, _)] []
  refine r_ald C dM_debt_0 rfl ?_
  refine r_ild C dM_debt_1 rfl ?_
  refine r_callS C lzM_isId dM_debt_2 [_] [_] rfl rfl (Nat.le_of_ble_eq_true rfl) ⟨(Nat.le_of_ble_eq_true rfl), (Nat.le_of_ble_eq_true rfl), (Nat.le_of_ble_eq_true rfl), (Nat.le_of_ble_eq_true rfl)⟩ rfl (cM_isId C.2.2.2.2.2.1 (by omega) (fun b2 => ?_) (fun b2 => ?_))
  · refine r_if_eq C dM_debt_5 (by omega) (fun b5 => ?_) (fun b5 => ?_)
    · omega
    · refine r_lld C dM_debt_8 rfl ?_
      refine r_callS C lzM_isCents dM_debt_9 [_] [_] rfl rfl (Nat.le_of_ble_eq_true rfl) ⟨(Nat.le_of_ble_eq_true rfl), (Nat.le_of_ble_eq_true rfl), (Nat.le_of_ble_eq_true rfl), (Nat.le_of_ble_eq_true rfl)⟩ rfl (cM_isCents C.2.2.2.2.2.1 (by omega) (fun b9 => ?_) (fun b9 => ?_))
      · refine r_if_eq C dM_debt_12 (by omega) (fun b12 => ?_) (fun b12 => ?_)
        · omega
        · refine r_ild C dM_debt_15 rfl ?_
          refine r_if_eq C dM_debt_17 (by omega) (fun b17 => ?_) (fun b17 => ?_)
          · refine r_ik C dM_debt_29 ?_
            refine r_goto C dM_debt_30 ?_
            refine r_ik C dM_debt_34 ?_
            refine r_callV C lzM_isBarred dM_debt_35 _ [_, _] [] rfl rfl rfl rfl rfl (Nat.le_of_ble_eq_true rfl) ⟨(Nat.le_of_ble_eq_true rfl), (Nat.le_of_ble_eq_true rfl), (Nat.le_of_ble_eq_true rfl), (Nat.le_of_ble_eq_true rfl)⟩ rfl (cM_isBarred C.2.2.2.2.2.1 (by omega) (by omega) hc (fun h => absurd h (by decide)) (fun _ b35 => ?_) (fun _ b35 _ => ?_))
            · refine r_if_ne C dM_debt_38 (by omega) (fun b38 => ?_) (fun b38 => ?_)
              · exact r_vret C dM_debt_63 rfl (Nat.le_of_ble_eq_true rfl) (Nat.le_of_ble_eq_true rfl) (by first | exact h1 (by omega) | exact h2 (by omega) (by omega) | exact hn (by omega) (by omega))
              · omega
            · refine r_if_ne C dM_debt_38 (by omega) (fun b38 => ?_) (fun b38 => ?_)
              · omega
              · refine r_ald C dM_debt_41 rfl ?_
                refine r_getR C dM_debt_42 rfl rfl ?_
                refine r_ild C dM_debt_45 rfl ?_
                refine r_ik C dM_debt_46 ?_
                refine r_zast C dM_debt_47 rfl rfl ⟨by omega, by omega⟩ (by decide) (by omega) ?_
                refine r_ald C dM_debt_48 rfl ?_
                refine r_getR C dM_debt_49 rfl rfl ?_
                refine r_ild C dM_debt_52 rfl ?_
                refine r_lld C dM_debt_53 rfl ?_
                refine r_last C dM_debt_54 rfl rfl ⟨by omega, by omega⟩ (by decide) ?_
                refine r_ald C dM_debt_55 rfl ?_
                refine r_getR C dM_debt_56 rfl rfl ?_
                refine r_ild C dM_debt_59 rfl ?_
                refine r_ild C dM_debt_60 rfl ?_
                refine r_iast C dM_debt_62 rfl rfl ⟨by omega, by omega⟩ (by decide) ?_
                exact r_vret C dM_debt_63 rfl (Nat.le_of_ble_eq_true rfl) (Nat.le_of_ble_eq_true rfl) (by first | exact h1 (by omega) | exact h2 (by omega) (by omega) | exact hn (by omega) (by omega))
          · refine r_ald C dM_debt_20 rfl ?_
            refine r_ild C dM_debt_21 rfl ?_
            refine r_callV C lzM_hasAsset dM_debt_23 _ [_] [_] rfl rfl rfl rfl rfl (Nat.le_of_ble_eq_true rfl) ⟨(Nat.le_of_ble_eq_true rfl), (Nat.le_of_ble_eq_true rfl), (Nat.le_of_ble_eq_true rfl), (Nat.le_of_ble_eq_true rfl)⟩ rfl (cM_hasAsset C.2.2.2.2.2.1 (by omega) hk (fun b23 => ?_) (fun b23 => ?_))
            · refine r_if_eq C dM_debt_26 (by omega) (fun b26 => ?_) (fun b26 => ?_)
              · omega
              · refine r_ik C dM_debt_29 ?_
                refine r_goto C dM_debt_30 ?_
                refine r_ik C dM_debt_34 ?_
                refine r_callV C lzM_isBarred dM_debt_35 _ [_, _] [] rfl rfl rfl rfl rfl (Nat.le_of_ble_eq_true rfl) ⟨(Nat.le_of_ble_eq_true rfl), (Nat.le_of_ble_eq_true rfl), (Nat.le_of_ble_eq_true rfl), (Nat.le_of_ble_eq_true rfl)⟩ rfl (cM_isBarred C.2.2.2.2.2.1 (by omega) (by omega) hc (fun h => absurd h (by decide)) (fun _ b35 => ?_) (fun _ b35 _ => ?_))
                · refine r_if_ne C dM_debt_38 (by omega) (fun b38 => ?_) (fun b38 => ?_)
                  · exact r_vret C dM_debt_63 rfl (Nat.le_of_ble_eq_true rfl) (Nat.le_of_ble_eq_true rfl) (by first | exact h1 (by omega) | exact h2 (by omega) (by omega) | exact hn (by omega) (by omega))
                  · omega
                · refine r_if_ne C dM_debt_38 (by omega) (fun b38 => ?_) (fun b38 => ?_)
                  · omega
                  · refine r_ald C dM_debt_41 rfl ?_
                    refine r_getR C dM_debt_42 rfl rfl ?_
                    refine r_ild C dM_debt_45 rfl ?_
                    refine r_ik C dM_debt_46 ?_
                    refine r_zast C dM_debt_47 rfl rfl ⟨by omega, by omega⟩ (by decide) (by omega) ?_
                    refine r_ald C dM_debt_48 rfl ?_
                    refine r_getR C dM_debt_49 rfl rfl ?_
                    refine r_ild C dM_debt_52 rfl ?_
                    refine r_lld C dM_debt_53 rfl ?_
                    refine r_last C dM_debt_54 rfl rfl ⟨by omega, by omega⟩ (by decide) ?_
                    refine r_ald C dM_debt_55 rfl ?_
                    refine r_getR C dM_debt_56 rfl rfl ?_
                    refine r_ild C dM_debt_59 rfl ?_
                    refine r_ild C dM_debt_60 rfl ?_
                    refine r_iast C dM_debt_62 rfl rfl ⟨by omega, by omega⟩ (by decide) ?_
                    exact r_vret C dM_debt_63 rfl (Nat.le_of_ble_eq_true rfl) (Nat.le_of_ble_eq_true rfl) (by first | exact h1 (by omega) | exact h2 (by omega) (by omega) | exact hn (by omega) (by omega))
            · refine r_if_eq C dM_debt_26 (by omega) (fun b26 => ?_) (fun b26 => ?_)
              · refine r_ik C dM_debt_33 ?_
                refine r_ik C dM_debt_34 ?_
                refine r_callV C lzM_isBarred dM_debt_35 _ [_, _] [] rfl rfl rfl rfl rfl (Nat.le_of_ble_eq_true rfl) ⟨(Nat.le_of_ble_eq_true rfl), (Nat.le_of_ble_eq_true rfl), (Nat.le_of_ble_eq_true rfl), (Nat.le_of_ble_eq_true rfl)⟩ rfl (cM_isBarred C.2.2.2.2.2.1 (by omega) (by omega) hc (fun _ => ?_) (fun h => absurd rfl h) (fun h => absurd rfl h))
                refine r_if_ne C dM_debt_38 (by omega) (fun b38 => ?_) (fun b38 => ?_)
                · exact r_vret C dM_debt_63 rfl (Nat.le_of_ble_eq_true rfl) (Nat.le_of_ble_eq_true rfl) (by first | exact h1 (by omega) | exact h2 (by omega) (by omega) | exact hn (by omega) (by omega))
                · omega
              · omega
      · refine r_if_eq C dM_debt_12 (by omega) (fun b12 => ?_) (fun b12 => ?_)
        · refine r_ik C dM_debt_33 ?_
          refine r_ik C dM_debt_34 ?_
          refine r_callV C lzM_isBarred dM_debt_35 _ [_, _] [] rfl rfl rfl rfl rfl (Nat.le_of_ble_eq_true rfl) ⟨(Nat.le_of_ble_eq_true rfl), (Nat.le_of_ble_eq_true rfl), (Nat.le_of_ble_eq_true rfl), (Nat.le_of_ble_eq_true rfl)⟩ rfl (cM_isBarred C.2.2.2.2.2.1 (by omega) (by omega) hc (fun _ => ?_) (fun h => absurd rfl h) (fun h => absurd rfl h))
          refine r_if_ne C dM_debt_38 (by omega) (fun b38 => ?_) (fun b38 => ?_)
          · exact r_vret C dM_debt_63 rfl (Nat.le_of_ble_eq_true rfl) (Nat.le_of_ble_eq_true rfl) (by first | exact h1 (by omega) | exact h2 (by omega) (by omega) | exact hn (by omega) (by omega))
          · omega
        · omega
  · refine r_if_eq C dM_debt_5 (by omega) (fun b5 => ?_) (fun b5 => ?_)
    · refine r_ik C dM_debt_33 ?_
      refine r_ik C dM_debt_34 ?_
      refine r_callV C lzM_isBarred dM_debt_35 _ [_, _] [] rfl rfl rfl rfl rfl (Nat.le_of_ble_eq_true rfl) ⟨(Nat.le_of_ble_eq_true rfl), (Nat.le_of_ble_eq_true rfl), (Nat.le_of_ble_eq_true rfl), (Nat.le_of_ble_eq_true rfl)⟩ rfl (cM_isBarred C.2.2.2.2.2.1 (by omega) (by omega) hc (fun _ => ?_) (fun h => absurd rfl h) (fun h => absurd rfl h))
      refine r_if_ne C dM_debt_38 (by omega) (fun b38 => ?_) (fun b38 => ?_)
      · exact r_vret C dM_debt_63 rfl (Nat.le_of_ble_eq_true rfl) (Nat.le_of_ble_eq_true rfl) (by first | exact h1 (by omega) | exact h2 (by omega) (by omega) | exact hn (by omega) (by omega))
      · omega
    · omega
set_option maxRecDepth 100000 in
set_option maxHeartbeats 4000000 in
theorem cM_assetTo {g : ed_g} {l : Launch} (hl : l.stackTraces = false) {I : ed_I} {L : ed_L} {a : Int} (ra : -2147483648 ≤ a ∧ a ≤ 2147483647) (hs : I 79 3 = 0 ∨ I 79 3 = 1) {post : ed_post} (h1 : ¬ (1 ≤ a ∧ a ≤ 40) → post (.inl (some (.int (iZ 0)))) Yw (upI I 79 0 1) L) (h2 : (1 ≤ a ∧ a ≤ 40) → ¬ (I 79 3 ≠ 0) → post (.inl (some (.int (iZ 0)))) Yw (upI I 79 0 2) L) (hn : (1 ≤ a ∧ a ≤ 40) → (I 79 3 ≠ 0) → post (.inl (some (.int (iZ (I 107 a))))) Yw (upI I 79 0 0) L) : ed_Ct g l mM_assetTo 3 0 0 [.ref 79, .int (iZ a)] Yw I L post := by
  refine ed_Ct.of hl rfl (Nat.le_of_ble_eq_true rfl) (fun x _ C => ?_)
  show Gd g x post _ _ _ _ _ _ _ _ 0 [(0, _), (1, _)] []
  refine r_ald C dM_assetTo_0 rfl ?_
  refine r_ild C dM_assetTo_1 rfl ?_
  refine r_callS C lzM_isId dM_assetTo_2 [_] [_] rfl rfl (Nat.le_of_ble_eq_true rfl) ⟨(Nat.le_of_ble_eq_true rfl), (Nat.le_of_ble_eq_true rfl), (Nat.le_of_ble_eq_true rfl), (Nat.le_of_ble_eq_true rfl)⟩ rfl (cM_isId C.2.2.2.2.2.1 (by omega) (fun b2 => ?_) (fun b2 => ?_))
  · refine r_callV C lzM_isWrong dM_assetTo_5 _ [_] [] rfl rfl rfl rfl rfl (Nat.le_of_ble_eq_true rfl) ⟨(Nat.le_of_ble_eq_true rfl), (Nat.le_of_ble_eq_true rfl), (Nat.le_of_ble_eq_true rfl), (Nat.le_of_ble_eq_true rfl)⟩ rfl (cM_isWrong C.2.2.2.2.2.1 (by omega) hs (fun h => absurd h (by decide)) (fun _ b5 => ?_) (fun _ b5 => ?_))
    · refine r_if_eq C dM_assetTo_8 (by omega) (fun b8 => ?_) (fun b8 => ?_)
      · omega
      · refine r_ik C dM_assetTo_11 ?_
        refine r_goto C dM_assetTo_12 ?_
        exact r_iret C dM_assetTo_21 rfl (Nat.le_of_ble_eq_true rfl) (Nat.le_of_ble_eq_true rfl) (by first | exact h1 (by omega) | exact h2 (by omega) (by omega) | exact hn (by omega) (by omega))
    · refine r_if_eq C dM_assetTo_8 (by omega) (fun b8 => ?_) (fun b8 => ?_)
      · refine r_ald C dM_assetTo_15 rfl ?_
        refine r_getR C dM_assetTo_16 rfl rfl ?_
        refine r_ild C dM_assetTo_19 rfl ?_
        refine r_iald C dM_assetTo_20 rfl ⟨by omega, by omega⟩ (by decide) ?_
        exact r_iret C dM_assetTo_21 rfl (Nat.le_of_ble_eq_true rfl) (Nat.le_of_ble_eq_true rfl) (by first | exact h1 (by omega) | exact h2 (by omega) (by omega) | exact hn (by omega) (by omega))
      · omega
  · refine r_callV C lzM_isWrong dM_assetTo_5 _ [_] [] rfl rfl rfl rfl rfl (Nat.le_of_ble_eq_true rfl) ⟨(Nat.le_of_ble_eq_true rfl), (Nat.le_of_ble_eq_true rfl), (Nat.le_of_ble_eq_true rfl), (Nat.le_of_ble_eq_true rfl)⟩ rfl (cM_isWrong C.2.2.2.2.2.1 (by omega) hs (fun _ => ?_) (fun h => absurd rfl h) (fun h => absurd rfl h))
    refine r_if_eq C dM_assetTo_8 (by omega) (fun b8 => ?_) (fun b8 => ?_)
    · omega
    · refine r_ik C dM_assetTo_11 ?_
      refine r_goto C dM_assetTo_12 ?_
      exact r_iret C dM_assetTo_21 rfl (Nat.le_of_ble_eq_true rfl) (Nat.le_of_ble_eq_true rfl) (by first | exact h1 (by omega) | exact h2 (by omega) (by omega) | exact hn (by omega) (by omega))
set_option maxRecDepth 100000 in
set_option maxHeartbeats 4000000 in
theorem cM_clauseState {g : ed_g} {l : Launch} (hl : l.stackTraces = false) {I : ed_I} {L : ed_L} {a : Int} (ra : -2147483648 ≤ a ∧ a ≤ 2147483647) (hs : I 79 3 = 0 ∨ I 79 3 = 1) {post : ed_post} (h1 : ¬ (1 ≤ a ∧ a ≤ 40) → post (.inl (some (.int (iZ 0)))) Yw (upI I 79 0 1) L) (h2 : (1 ≤ a ∧ a ≤ 40) → ¬ (I 79 3 ≠ 0) → post (.inl (some (.int (iZ 0)))) Yw (upI I 79 0 2) L) (hn : (1 ≤ a ∧ a ≤ 40) → (I 79 3 ≠ 0) → post (.inl (some (.int (iZ (I 94 a))))) Yw (upI I 79 0 0) L) : ed_Ct g l mM_clauseState 3 0 0 [.ref 79, .int (iZ a)] Yw I L post := by
  refine ed_Ct.of hl rfl (Nat.le_of_ble_eq_true rfl) (fun x _ C => ?_)
  show Gd g x post _ _ _ _ _ _ _ _ 0 [(0, _), (1, _)] []
  refine r_ald C dM_clauseState_0 rfl ?_
  refine r_ild C dM_clauseState_1 rfl ?_
  refine r_callS C lzM_isId dM_clauseState_2 [_] [_] rfl rfl (Nat.le_of_ble_eq_true rfl) ⟨(Nat.le_of_ble_eq_true rfl), (Nat.le_of_ble_eq_true rfl), (Nat.le_of_ble_eq_true rfl), (Nat.le_of_ble_eq_true rfl)⟩ rfl (cM_isId C.2.2.2.2.2.1 (by omega) (fun b2 => ?_) (fun b2 => ?_))
  · refine r_callV C lzM_isWrong dM_clauseState_5 _ [_] [] rfl rfl rfl rfl rfl (Nat.le_of_ble_eq_true rfl) ⟨(Nat.le_of_ble_eq_true rfl), (Nat.le_of_ble_eq_true rfl), (Nat.le_of_ble_eq_true rfl), (Nat.le_of_ble_eq_true rfl)⟩ rfl (cM_isWrong C.2.2.2.2.2.1 (by omega) hs (fun h => absurd h (by decide)) (fun _ b5 => ?_) (fun _ b5 => ?_))
    · refine r_if_eq C dM_clauseState_8 (by omega) (fun b8 => ?_) (fun b8 => ?_)
      · omega
      · refine r_ik C dM_clauseState_11 ?_
        refine r_goto C dM_clauseState_12 ?_
        exact r_iret C dM_clauseState_21 rfl (Nat.le_of_ble_eq_true rfl) (Nat.le_of_ble_eq_true rfl) (by first | exact h1 (by omega) | exact h2 (by omega) (by omega) | exact hn (by omega) (by omega))
    · refine r_if_eq C dM_clauseState_8 (by omega) (fun b8 => ?_) (fun b8 => ?_)
      · refine r_ald C dM_clauseState_15 rfl ?_
        refine r_getR C dM_clauseState_16 rfl rfl ?_
        refine r_ild C dM_clauseState_19 rfl ?_
        refine r_iald C dM_clauseState_20 rfl ⟨by omega, by omega⟩ (by decide) ?_
        exact r_iret C dM_clauseState_21 rfl (Nat.le_of_ble_eq_true rfl) (Nat.le_of_ble_eq_true rfl) (by first | exact h1 (by omega) | exact h2 (by omega) (by omega) | exact hn (by omega) (by omega))
      · omega
  · refine r_callV C lzM_isWrong dM_clauseState_5 _ [_] [] rfl rfl rfl rfl rfl (Nat.le_of_ble_eq_true rfl) ⟨(Nat.le_of_ble_eq_true rfl), (Nat.le_of_ble_eq_true rfl), (Nat.le_of_ble_eq_true rfl), (Nat.le_of_ble_eq_true rfl)⟩ rfl (cM_isWrong C.2.2.2.2.2.1 (by omega) hs (fun _ => ?_) (fun h => absurd rfl h) (fun h => absurd rfl h))
    refine r_if_eq C dM_clauseState_8 (by omega) (fun b8 => ?_) (fun b8 => ?_)
    · omega
    · refine r_ik C dM_clauseState_11 ?_
      refine r_goto C dM_clauseState_12 ?_
      exact r_iret C dM_clauseState_21 rfl (Nat.le_of_ble_eq_true rfl) (Nat.le_of_ble_eq_true rfl) (by first | exact h1 (by omega) | exact h2 (by omega) (by omega) | exact hn (by omega) (by omega))
set_option maxRecDepth 100000 in
set_option maxHeartbeats 4000000 in
theorem cM_paid {g : ed_g} {l : Launch} (hl : l.stackTraces = false) {I : ed_I} {L : ed_L} {a : Int} (ra : -2147483648 ≤ a ∧ a ≤ 2147483647) (hs : I 79 3 = 0 ∨ I 79 3 = 1) {post : ed_post} (h1 : ¬ (1 ≤ a ∧ a ≤ 40) → post (.inl (some (.long (lZ 0)))) Yw (upI I 79 0 1) L) (h2 : (1 ≤ a ∧ a ≤ 40) → ¬ (I 79 3 ≠ 0) → post (.inl (some (.long (lZ 0)))) Yw (upI I 79 0 2) L) (hn : (1 ≤ a ∧ a ≤ 40) → (I 79 3 ≠ 0) → post (.inl (some (.long (lZ (L 103 a))))) Yw (upI I 79 0 0) L) : ed_Ct g l mM_paid 3 0 0 [.ref 79, .int (iZ a)] Yw I L post := by
  refine ed_Ct.of hl rfl (Nat.le_of_ble_eq_true rfl) (fun x _ C => ?_)
  show Gd g x post _ _ _ _ _ _ _ _ 0 [(0, _), (1, _)] []
  refine r_ald C dM_paid_0 rfl ?_
  refine r_ild C dM_paid_1 rfl ?_
  refine r_callS C lzM_isId dM_paid_2 [_] [_] rfl rfl (Nat.le_of_ble_eq_true rfl) ⟨(Nat.le_of_ble_eq_true rfl), (Nat.le_of_ble_eq_true rfl), (Nat.le_of_ble_eq_true rfl), (Nat.le_of_ble_eq_true rfl)⟩ rfl (cM_isId C.2.2.2.2.2.1 (by omega) (fun b2 => ?_) (fun b2 => ?_))
  · refine r_callV C lzM_isWrong dM_paid_5 _ [_] [] rfl rfl rfl rfl rfl (Nat.le_of_ble_eq_true rfl) ⟨(Nat.le_of_ble_eq_true rfl), (Nat.le_of_ble_eq_true rfl), (Nat.le_of_ble_eq_true rfl), (Nat.le_of_ble_eq_true rfl)⟩ rfl (cM_isWrong C.2.2.2.2.2.1 (by omega) hs (fun h => absurd h (by decide)) (fun _ b5 => ?_) (fun _ b5 => ?_))
    · refine r_if_eq C dM_paid_8 (by omega) (fun b8 => ?_) (fun b8 => ?_)
      · omega
      · refine r_lk C dM_paid_11 ?_
        refine r_goto C dM_paid_12 ?_
        exact r_lret C dM_paid_21 rfl (Nat.le_of_ble_eq_true rfl) (Nat.le_of_ble_eq_true rfl) (by first | exact h1 (by omega) | exact h2 (by omega) (by omega) | exact hn (by omega) (by omega))
    · refine r_if_eq C dM_paid_8 (by omega) (fun b8 => ?_) (fun b8 => ?_)
      · refine r_ald C dM_paid_15 rfl ?_
        refine r_getR C dM_paid_16 rfl rfl ?_
        refine r_ild C dM_paid_19 rfl ?_
        refine r_lald C dM_paid_20 rfl ⟨by omega, by omega⟩ (by decide) ?_
        exact r_lret C dM_paid_21 rfl (Nat.le_of_ble_eq_true rfl) (Nat.le_of_ble_eq_true rfl) (by first | exact h1 (by omega) | exact h2 (by omega) (by omega) | exact hn (by omega) (by omega))
      · omega
  · refine r_callV C lzM_isWrong dM_paid_5 _ [_] [] rfl rfl rfl rfl rfl (Nat.le_of_ble_eq_true rfl) ⟨(Nat.le_of_ble_eq_true rfl), (Nat.le_of_ble_eq_true rfl), (Nat.le_of_ble_eq_true rfl), (Nat.le_of_ble_eq_true rfl)⟩ rfl (cM_isWrong C.2.2.2.2.2.1 (by omega) hs (fun _ => ?_) (fun h => absurd rfl h) (fun h => absurd rfl h))
    refine r_if_eq C dM_paid_8 (by omega) (fun b8 => ?_) (fun b8 => ?_)
    · omega
    · refine r_lk C dM_paid_11 ?_
      refine r_goto C dM_paid_12 ?_
      exact r_lret C dM_paid_21 rfl (Nat.le_of_ble_eq_true rfl) (Nat.le_of_ble_eq_true rfl) (by first | exact h1 (by omega) | exact h2 (by omega) (by omega) | exact hn (by omega) (by omega))
set_option maxRecDepth 100000 in
set_option maxHeartbeats 4000000 in
theorem cM_sum {g : ed_g} {l : Launch} (hl : l.stackTraces = false) {I : ed_I} {L : ed_L} {a : Int} (ra : -2147483648 ≤ a ∧ a ≤ 2147483647) (hs : I 79 3 = 0 ∨ I 79 3 = 1) {post : ed_post} (h1 : ¬ (0 ≤ a ∧ a ≤ 7) → post (.inl (some (.long (lZ 0)))) Yw (upI I 79 0 1) L) (h2 : (0 ≤ a ∧ a ≤ 7) → ¬ (I 79 3 ≠ 0) → post (.inl (some (.long (lZ 0)))) Yw (upI I 79 0 2) L) (hn : (0 ≤ a ∧ a ≤ 7) → (I 79 3 ≠ 0) → post (.inl (some (.long (lZ (L 108 a))))) Yw (upI I 79 0 0) L) : ed_Ct g l mM_sum 3 0 0 [.ref 79, .int (iZ a)] Yw I L post := by
  refine ed_Ct.of hl rfl (Nat.le_of_ble_eq_true rfl) (fun x _ C => ?_)
  show Gd g x post _ _ _ _ _ _ _ _ 0 [(0, _), (1, _)] []
  refine r_ald C dM_sum_0 rfl ?_
  refine r_ild C dM_sum_1 rfl ?_
  refine r_i2l C dM_sum_2 (by omega) ?_
  refine r_lk C dM_sum_3 ?_
  refine r_lk C dM_sum_4 ?_
  refine r_callS C lzM_isIn dM_sum_7 [_, _, _] [_] rfl rfl (Nat.le_of_ble_eq_true rfl) ⟨(Nat.le_of_ble_eq_true rfl), (Nat.le_of_ble_eq_true rfl), (Nat.le_of_ble_eq_true rfl), (Nat.le_of_ble_eq_true rfl)⟩ rfl (cM_isIn C.2.2.2.2.2.1 (by omega) (fun b7 => ?_) (fun b7 => ?_))
  · refine r_callV C lzM_isWrong dM_sum_10 _ [_] [] rfl rfl rfl rfl rfl (Nat.le_of_ble_eq_true rfl) ⟨(Nat.le_of_ble_eq_true rfl), (Nat.le_of_ble_eq_true rfl), (Nat.le_of_ble_eq_true rfl), (Nat.le_of_ble_eq_true rfl)⟩ rfl (cM_isWrong C.2.2.2.2.2.1 (by omega) hs (fun h => absurd h (by decide)) (fun _ b10 => ?_) (fun _ b10 => ?_))
    · refine r_if_eq C dM_sum_13 (by omega) (fun b13 => ?_) (fun b13 => ?_)
      · omega
      · refine r_lk C dM_sum_16 ?_
        refine r_goto C dM_sum_17 ?_
        exact r_lret C dM_sum_26 rfl (Nat.le_of_ble_eq_true rfl) (Nat.le_of_ble_eq_true rfl) (by first | exact h1 (by omega) | exact h2 (by omega) (by omega) | exact hn (by omega) (by omega))
    · refine r_if_eq C dM_sum_13 (by omega) (fun b13 => ?_) (fun b13 => ?_)
      · refine r_ald C dM_sum_20 rfl ?_
        refine r_getR C dM_sum_21 rfl rfl ?_
        refine r_ild C dM_sum_24 rfl ?_
        refine r_lald C dM_sum_25 rfl ⟨by omega, by omega⟩ (by decide) ?_
        exact r_lret C dM_sum_26 rfl (Nat.le_of_ble_eq_true rfl) (Nat.le_of_ble_eq_true rfl) (by first | exact h1 (by omega) | exact h2 (by omega) (by omega) | exact hn (by omega) (by omega))
      · omega
  · refine r_callV C lzM_isWrong dM_sum_10 _ [_] [] rfl rfl rfl rfl rfl (Nat.le_of_ble_eq_true rfl) ⟨(Nat.le_of_ble_eq_true rfl), (Nat.le_of_ble_eq_true rfl), (Nat.le_of_ble_eq_true rfl), (Nat.le_of_ble_eq_true rfl)⟩ rfl (cM_isWrong C.2.2.2.2.2.1 (by omega) hs (fun _ => ?_) (fun h => absurd rfl h) (fun h => absurd rfl h))
    refine r_if_eq C dM_sum_13 (by omega) (fun b13 => ?_) (fun b13 => ?_)
    · omega
    · refine r_lk C dM_sum_16 ?_
      refine r_goto C dM_sum_17 ?_
      exact r_lret C dM_sum_26 rfl (Nat.le_of_ble_eq_true rfl) (Nat.le_of_ble_eq_true rfl) (by first | exact h1 (by omega) | exact h2 (by omega) (by omega) | exact hn (by omega) (by omega))
set_option maxRecDepth 100000 in
set_option maxHeartbeats 4000000 in
theorem cM_gets {g : ed_g} {l : Launch} (hl : l.stackTraces = false) {I : ed_I} {L : ed_L} {p w : Int} (rp : -2147483648 ≤ p ∧ p ≤ 2147483647) (rw : -2147483648 ≤ w ∧ w ≤ 2147483647) (hs : I 79 3 = 0 ∨ I 79 3 = 1) {post : ed_post} (h1 : ¬ ((0 ≤ p ∧ p ≤ 40) ∧ 0 ≤ w ∧ w ≤ 2) → post (.inl (some (.long (lZ 0)))) Yw (upI I 79 0 1) L) (h2 : ((0 ≤ p ∧ p ≤ 40) ∧ 0 ≤ w ∧ w ≤ 2) → ¬ (I 79 3 ≠ 0) → post (.inl (some (.long (lZ 0)))) Yw (upI I 79 0 2) L) (hn : ((0 ≤ p ∧ p ≤ 40) ∧ 0 ≤ w ∧ w ≤ 2) → (I 79 3 ≠ 0) → post (.inl (some (.long (lZ (if w = 0 then L 104 p else if w = 1 then L 105 p else L 106 p))))) Yw (upI I 79 0 0) L) : ed_Ct g l mM_gets 3 0 0 [.ref 79, .int (iZ p), .int (iZ w)] Yw I L post := by
  refine ed_Ct.of hl rfl (Nat.le_of_ble_eq_true rfl) (fun x _ C => ?_)
  show Gd g x post _ _ _ _ _ _ _ _ 0 [(0, _), (1, _), (2, _)] []
  refine r_ald C dM_gets_0 rfl ?_
  refine r_ild C dM_gets_1 rfl ?_
  refine r_i2l C dM_gets_2 (by omega) ?_
  refine r_lk C dM_gets_3 ?_
  refine r_lk C dM_gets_4 ?_
  refine r_callS C lzM_isIn dM_gets_7 [_, _, _] [_] rfl rfl (Nat.le_of_ble_eq_true rfl) ⟨(Nat.le_of_ble_eq_true rfl), (Nat.le_of_ble_eq_true rfl), (Nat.le_of_ble_eq_true rfl), (Nat.le_of_ble_eq_true rfl)⟩ rfl (cM_isIn C.2.2.2.2.2.1 (by omega) (fun b7 => ?_) (fun b7 => ?_))
  · refine r_if_eq C dM_gets_10 (by omega) (fun b10 => ?_) (fun b10 => ?_)
    · omega
    · refine r_ild C dM_gets_13 rfl ?_
      refine r_i2l C dM_gets_14 (by omega) ?_
      refine r_lk C dM_gets_15 ?_
      refine r_lk C dM_gets_16 ?_
      refine r_callS C lzM_isIn dM_gets_19 [_, _, _] [_] rfl rfl (Nat.le_of_ble_eq_true rfl) ⟨(Nat.le_of_ble_eq_true rfl), (Nat.le_of_ble_eq_true rfl), (Nat.le_of_ble_eq_true rfl), (Nat.le_of_ble_eq_true rfl)⟩ rfl (cM_isIn C.2.2.2.2.2.1 (by omega) (fun b19 => ?_) (fun b19 => ?_))
      · refine r_if_eq C dM_gets_22 (by omega) (fun b22 => ?_) (fun b22 => ?_)
        · omega
        · refine r_ik C dM_gets_25 ?_
          refine r_goto C dM_gets_26 ?_
          refine r_callV C lzM_isWrong dM_gets_30 _ [_] [] rfl rfl rfl rfl rfl (Nat.le_of_ble_eq_true rfl) ⟨(Nat.le_of_ble_eq_true rfl), (Nat.le_of_ble_eq_true rfl), (Nat.le_of_ble_eq_true rfl), (Nat.le_of_ble_eq_true rfl)⟩ rfl (cM_isWrong C.2.2.2.2.2.1 (by omega) hs (fun h => absurd h (by decide)) (fun _ b30 => ?_) (fun _ b30 => ?_))
          · refine r_if_eq C dM_gets_33 (by omega) (fun b33 => ?_) (fun b33 => ?_)
            · omega
            · refine r_lk C dM_gets_36 ?_
              exact r_lret C dM_gets_37 rfl (Nat.le_of_ble_eq_true rfl) (Nat.le_of_ble_eq_true rfl) (by first | exact h1 (by omega) | exact h2 (by omega) (by omega) | (have h9 := hn (by omega) (by omega); first | (rw [if_pos (by omega)] at h9; exact h9) | (rw [if_neg (by omega), if_pos (by omega)] at h9; exact h9) | (rw [if_neg (by omega), if_neg (by omega)] at h9; exact h9)))
          · refine r_if_eq C dM_gets_33 (by omega) (fun b33 => ?_) (fun b33 => ?_)
            · refine r_ild C dM_gets_38 rfl ?_
              refine r_if_ne C dM_gets_39 (by omega) (fun b39 => ?_) (fun b39 => ?_)
              · refine r_ild C dM_gets_51 rfl ?_
                refine r_ik C dM_gets_52 ?_
                refine r_icmp_ne C dM_gets_53 (by omega) (fun b53 => ?_) (fun b53 => ?_)
                · refine r_ald C dM_gets_65 rfl ?_
                  refine r_getR C dM_gets_66 rfl rfl ?_
                  refine r_ild C dM_gets_69 rfl ?_
                  refine r_lald C dM_gets_70 rfl ⟨by omega, by omega⟩ (by decide) ?_
                  exact r_lret C dM_gets_71 rfl (Nat.le_of_ble_eq_true rfl) (Nat.le_of_ble_eq_true rfl) (by first | exact h1 (by omega) | exact h2 (by omega) (by omega) | (have h9 := hn (by omega) (by omega); first | (rw [if_pos (by omega)] at h9; exact h9) | (rw [if_neg (by omega), if_pos (by omega)] at h9; exact h9) | (rw [if_neg (by omega), if_neg (by omega)] at h9; exact h9)))
                · refine r_ald C dM_gets_56 rfl ?_
                  refine r_getR C dM_gets_57 rfl rfl ?_
                  refine r_ild C dM_gets_60 rfl ?_
                  refine r_lald C dM_gets_61 rfl ⟨by omega, by omega⟩ (by decide) ?_
                  refine r_goto C dM_gets_62 ?_
                  exact r_lret C dM_gets_71 rfl (Nat.le_of_ble_eq_true rfl) (Nat.le_of_ble_eq_true rfl) (by first | exact h1 (by omega) | exact h2 (by omega) (by omega) | (have h9 := hn (by omega) (by omega); first | (rw [if_pos (by omega)] at h9; exact h9) | (rw [if_neg (by omega), if_pos (by omega)] at h9; exact h9) | (rw [if_neg (by omega), if_neg (by omega)] at h9; exact h9)))
              · refine r_ald C dM_gets_42 rfl ?_
                refine r_getR C dM_gets_43 rfl rfl ?_
                refine r_ild C dM_gets_46 rfl ?_
                refine r_lald C dM_gets_47 rfl ⟨by omega, by omega⟩ (by decide) ?_
                refine r_goto C dM_gets_48 ?_
                exact r_lret C dM_gets_71 rfl (Nat.le_of_ble_eq_true rfl) (Nat.le_of_ble_eq_true rfl) (by first | exact h1 (by omega) | exact h2 (by omega) (by omega) | (have h9 := hn (by omega) (by omega); first | (rw [if_pos (by omega)] at h9; exact h9) | (rw [if_neg (by omega), if_pos (by omega)] at h9; exact h9) | (rw [if_neg (by omega), if_neg (by omega)] at h9; exact h9)))
            · omega
      · refine r_if_eq C dM_gets_22 (by omega) (fun b22 => ?_) (fun b22 => ?_)
        · refine r_ik C dM_gets_29 ?_
          refine r_callV C lzM_isWrong dM_gets_30 _ [_] [] rfl rfl rfl rfl rfl (Nat.le_of_ble_eq_true rfl) ⟨(Nat.le_of_ble_eq_true rfl), (Nat.le_of_ble_eq_true rfl), (Nat.le_of_ble_eq_true rfl), (Nat.le_of_ble_eq_true rfl)⟩ rfl (cM_isWrong C.2.2.2.2.2.1 (by omega) hs (fun _ => ?_) (fun h => absurd rfl h) (fun h => absurd rfl h))
          refine r_if_eq C dM_gets_33 (by omega) (fun b33 => ?_) (fun b33 => ?_)
          · omega
          · refine r_lk C dM_gets_36 ?_
            exact r_lret C dM_gets_37 rfl (Nat.le_of_ble_eq_true rfl) (Nat.le_of_ble_eq_true rfl) (by first | exact h1 (by omega) | exact h2 (by omega) (by omega) | (have h9 := hn (by omega) (by omega); first | (rw [if_pos (by omega)] at h9; exact h9) | (rw [if_neg (by omega), if_pos (by omega)] at h9; exact h9) | (rw [if_neg (by omega), if_neg (by omega)] at h9; exact h9)))
        · omega
  · refine r_if_eq C dM_gets_10 (by omega) (fun b10 => ?_) (fun b10 => ?_)
    · refine r_ik C dM_gets_29 ?_
      refine r_callV C lzM_isWrong dM_gets_30 _ [_] [] rfl rfl rfl rfl rfl (Nat.le_of_ble_eq_true rfl) ⟨(Nat.le_of_ble_eq_true rfl), (Nat.le_of_ble_eq_true rfl), (Nat.le_of_ble_eq_true rfl), (Nat.le_of_ble_eq_true rfl)⟩ rfl (cM_isWrong C.2.2.2.2.2.1 (by omega) hs (fun _ => ?_) (fun h => absurd rfl h) (fun h => absurd rfl h))
      refine r_if_eq C dM_gets_33 (by omega) (fun b33 => ?_) (fun b33 => ?_)
      · omega
      · refine r_lk C dM_gets_36 ?_
        exact r_lret C dM_gets_37 rfl (Nat.le_of_ble_eq_true rfl) (Nat.le_of_ble_eq_true rfl) (by first | exact h1 (by omega) | exact h2 (by omega) (by omega) | (have h9 := hn (by omega) (by omega); first | (rw [if_pos (by omega)] at h9; exact h9) | (rw [if_neg (by omega), if_pos (by omega)] at h9; exact h9) | (rw [if_neg (by omega), if_neg (by omega)] at h9; exact h9)))
    · omega
end
